theorem vpd {i : Int32} {n : Nat} (h : ¬ i < 0) (h2 : i.toNatClampNeg < n) : vp_in i n := fun h3 => h3.elim h (fun h4 => absurd h2 (Nat.not_lt.mpr h4))
theorem nb01 {v : Int32} (h : v = 0 ∨ v = 1) : narrow .boolean (.int v) = .int v := by rcases h with rfl | rfl <;> decide
theorem ite01 {p : Prop} [Decidable p] {a b : Int32} (h : a = 0 ∨ a = 1) (h2 : b = 0 ∨ b = 1) : (if p then a else b) = 0 ∨ (if p then a else b) = 1 := by split <;> assumption
def mv_in (v lo hi : Int64) : Int32 := if lg_cmp v lo < 0 then 0 else if 0 < lg_cmp v hi then 0 else 1
theorem mv_in01 (v lo hi : Int64) : mv_in v lo hi = 0 ∨ mv_in v lo hi = 1 := ite01 (Or.inl rfl) (ite01 (Or.inl rfl) (Or.inr rfl))
def mv_gf (a b c : Int32) : Int32 := if a = 0 then 1 else if b = 0 then 2 else if c = 0 then 3 else 0
def mv_go (a b c : Int32) : Int32 := if mv_gf a b c = 0 then 1 else 0
def mv_is (q : Int32) : Int32 := mv_in q.toInt64 0 9
def mv_ik (k : Int32) : Int32 := mv_in k.toInt64 0 2
def mv_el (m : Nat → Int32) (b : Int32) : Int32 := if (m 4 >>> (b &&& 31)) &&& 1 = 1 then 1 else 0
def mv_uw (m : Nat → Int32) : Int32 := if 0 < m 5 then 1 else if m 6 = -1 then 0 else 1
def mv_ps (m : Nat → Int32) (w : Int32) : Int32 := if w = 3 then (if mv_uw m = 0 then 1 else 0) else if w = 7 then (if mv_uw m = 0 then 1 else 0) else if w = 8 then (if m 6 = -1 then 1 else 0) else 1
def mr_bi (m : Nat → Int32) : Nat → Int32 := upd (upd (upd (upd (upd (upd (upd (upd m 0 1) 1 2) 2 0) 3 25) 4 1) 5 0) 6 (-1)) 19 0
def mr_bs (k : Nat) (m : Nat → Int32) : Nat → Int32 := upd (upd (upd (upd m (7 + 4 * k) (3 + nI k)) (7 + 4 * k + 1) 100) (7 + 4 * k + 2) 25) (7 + 4 * k + 3) 0
def mr_bg (m : Nat → Int32) : Nat → Int32 := it mr_bs 3 (mr_bi m)
def mr_sw (m : Nat → Int32) : Nat → Int32 := if mv_el m 0 = 0 then m else upd (upd m 0 (m 1)) 1 (m 0)
def mr_cs (k : Nat) (m : Nat → Int32) : Nat → Int32 := upd m (7 + 4 * k + 3) (if mv_el m (1 + nI k) = 0 then m (7 + 4 * k + 3) else 1 - m (7 + 4 * k + 3))
def mr_cp (m : Nat → Int32) : Nat → Int32 := upd (upd (it mr_cs 3 (mr_sw m)) 5 0) 6 (-1)
def mr_f1 (m : Nat → Int32) : Nat → Int32 := upd m 6 (m 6 + 1)
def mr_fr (m : Nat → Int32) : Nat → Int32 := if m 6 = -1 then m else if mr_f1 m 6 < mr_f1 m 3 then upd (mr_f1 m) 5 (mr_f1 m 6 * 1000 / mr_f1 m 3) else mr_cp (mr_f1 m)
def mv_fn (m : Nat → Int32) (n : Int32) : Int32 := if m 6 = -1 then n else if mr_f1 m 6 < mr_f1 m 3 then n else n + 1
def mr_mv (m : Nat → Int32) (a : Int32) : Nat → Int32 := if a = 1000 then mr_cp (upd m 5 a) else upd m 5 a
def kx (a j : Int32) : Nat := (7 + 4 * a + j).toNatClampNeg
def mr_ky (m : Nat → Int32) (a b c d : Int32) : Nat → Int32 := upd (upd (upd m (kx a 0) b) (kx a 1) c) (kx a 2) d
def mr_tg (m : Nat → Int32) (a : Int32) : Nat → Int32 := upd m (kx a 3) (1 - m (kx a 3))
def mr_ft (m : Nat → Int32) (a b : Int32) : Nat → Int32 := upd m 19 (if b = 1 then m 19 ||| (1 <<< (a &&& 31)) else m 19 &&& ((1 <<< (a &&& 31)) ^^^ (-1)))
def mr_ds (m : Nat → Int32) (w a b c d : Int32) : Nat → Int32 := if mv_ps m w = 0 then m else if w = 0 then upd m 0 a else if w = 1 then upd m 1 a else if w = 2 then upd (upd m 2 a) 3 b else if w = 3 then upd m 4 a else if w = 4 then mr_ky m a b c d else if w = 5 then mr_tg m a else if w = 6 then mr_cp m else if w = 7 then upd m 6 0 else if w = 8 then mr_mv m a else mr_ft m a b
def mv_ds (m : Nat → Int32) (w a b c d : Int32) : Int32 := if mv_ps m w = 0 then 0 else if w = 0 then m 0 else if w = 1 then m 1 else if w = 2 then m 2 else if w = 3 then m 4 else if w = 4 then m (kx a 0) else if w = 5 then mr_tg m a (kx a 3) else if w = 6 then mr_cp m 0 else if w = 7 then m 3 else if w = 8 then m 5 else (m 19 >>> (a &&& 31)) &&& 1
def mr_la (E : Nat → Int32) (n : Nat) (t w a b c d : Int32) : Nat → Int32 := upd (upd (upd (upd (upd (upd E (6 * n) t) (6 * n + 1) w) (6 * n + 2) a) (6 * n + 3) b) (6 * n + 4) c) (6 * n + 5) d
def mv_hr (n : Int32) : Int32 := if 100 ≤ n then 0 else 1
def kOk (a : Int32) : Prop := vp_in a 3
theorem kx_in {a : Int32} (h : kOk a) (j : Nat) (hj : j < 4) : vp_in (7 + 4 * a + nI j) 20 := by
  obtain ⟨q, hq, rfl⟩ := vp_in_of h (by decide)
  rcases (show q = 0 ∨ q = 1 ∨ q = 2 by omega) with rfl | rfl | rfl <;> rcases (show j = 0 ∨ j = 1 ∨ j = 2 ∨ j = 3 by omega) with rfl | rfl | rfl | rfl <;> exact vpd (by decide) (by decide)
theorem kI_in {i : Nat} (h : i < 3) (j : Nat) (hj : j < 4) : vp_in (7 + 4 * nI i + nI j) 20 := kx_in (a := nI i) (vp_in_nI h (by decide)) j hj
theorem kI_eq {i : Nat} (h : i < 3) (j : Nat) (hj : j < 4) : (7 + 4 * nI i + nI j).toNatClampNeg = 7 + 4 * i + j := by
  rcases (show i = 0 ∨ i = 1 ∨ i = 2 by omega) with rfl | rfl | rfl <;> rcases (show j = 0 ∨ j = 1 ∨ j = 2 ∨ j = 3 by omega) with rfl | rfl | rfl | rfl <;> decide
theorem nI_muln (a b : Nat) : nI a * nI b = nI (a * b) := (Int32.ofNat_mul a b).symm
theorem ix6 {a : Int32} (h : vp_in a 100) (j : Nat) (hj : j < 6) : vp_in (6 * a + nI j) 600 ∧ (6 * a + nI j).toNatClampNeg = 6 * a.toNatClampNeg + j := by
  obtain ⟨q, hq, rfl⟩ := vp_in_of h (by decide)
  rw [show (6 : Int32) * nI q = nI (6 * q) from nI_muln 6 q, nI_add, nI_clamp (by omega), nI_clamp (by omega)]
  exact ⟨vp_in_nI (by omega) (by decide), rfl⟩
theorem ix60 {a : Int32} (h : vp_in a 100) : vp_in (6 * a) 600 ∧ (6 * a).toNatClampNeg = 6 * a.toNatClampNeg := by
  obtain ⟨q, hq, rfl⟩ := vp_in_of h (by decide)
  rw [show (6 : Int32) * nI q = nI (6 * q) from nI_muln 6 q, nI_clamp (by omega), nI_clamp (by omega)]
  exact ⟨vp_in_nI (by omega) (by decide), rfl⟩
theorem go_a {a b c : Int32} (h : ¬ mv_go a b c = 0) : ¬ a = 0 := fun e => h (by unfold mv_go mv_gf; rw [if_pos e]; rfl)
theorem go_b {a b c : Int32} (h : ¬ mv_go a b c = 0) : ¬ b = 0 := fun e => h (by unfold mv_go mv_gf; rw [if_neg (go_a h), if_pos e]; rfl)
theorem go_c {a b c : Int32} (h : ¬ mv_go a b c = 0) : ¬ c = 0 := fun e => h (by unfold mv_go mv_gf; rw [if_neg (go_a h), if_neg (go_b h), if_pos e]; rfl)
theorem hr_n {n : Int32} (h0 : ¬ n < 0) (h : ¬ mv_hr n = 0) : vp_in n 100 := by
  rcases pk_ix n (n := 100) (by decide) with h1 | h1 | ⟨j, hj, rfl⟩
  · exact absurd h1 h0
  · exact absurd (by unfold mv_hr; rw [if_pos (show 100 ≤ n from h1)]) h
  · exact vp_in_nI hj (by decide)
theorem in_k {v : Int32} {n : Nat} (hn : n < 2 ^ 30) (h : ¬ mv_in v.toInt64 0 (Int64.ofNat n) = 0) : vp_in v (n + 1) := by
  have h1 : ¬ lg_cmp v.toInt64 0 < 0 := fun e => h (by unfold mv_in; rw [if_pos e])
  have h2 : ¬ 0 < lg_cmp v.toInt64 (Int64.ofNat n) := fun e => h (by unfold mv_in; rw [if_neg h1, if_pos e])
  have e3 : (Int64.ofNat n).toInt = (n : Int) := Int64.toInt_ofNat_of_lt (by omega)
  have a1 : 0 ≤ v.toInt := by
    rcases Int.lt_or_le v.toInt 0 with q | q
    · exfalso; apply h1; unfold lg_cmp
      have e1 : v.toInt64 < 0 := by rw [Int64.lt_iff_toInt_lt, Int32.toInt_toInt64]; exact q
      rw [if_neg (fun e => absurd (Int64.lt_trans e e1) (Int64.lt_irrefl)), if_neg (fun e => absurd (e ▸ e1) (Int64.lt_irrefl))]; decide
    · exact q
  have a2 : v.toInt ≤ n := by
    rcases Int.lt_or_le (n : Int) v.toInt with q | q
    · exfalso; apply h2; unfold lg_cmp
      have e1 : v.toInt64 > Int64.ofNat n := by show Int64.ofNat n < v.toInt64; rw [Int64.lt_iff_toInt_lt, Int32.toInt_toInt64, e3]; exact q
      rw [if_pos e1]; decide
    · exact q
  exact vp_in_iff.mpr ⟨a1, by omega⟩
