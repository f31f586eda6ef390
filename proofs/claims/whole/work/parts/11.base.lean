/-! the states: rows of numbers. A group of cells (a Mix, a Log, ..) has a state M : M 0 its int fields, M 1, M 2 .. its arrays -/
def sF (M : Nat → Nat → Int32) (r i : Nat) (v : Int32) : Nat → Nat → Int32 := fun r' => if r' = r then upd (M r) i v else M r'
def sR (M : Nat → Nat → Int32) (r : Nat) (f : Nat → Int32) : Nat → Nat → Int32 := fun r' => if r' = r then f else M r'
def gs (J : Nat → Nat → Nat → Int32) (g : Nat) (M : Nat → Nat → Int32) : Nat → Nat → Nat → Int32 := fun g' => if g' = g then M else J g'
/-- a Replay's state: rows 0 to 3 its Mix's, row 4 its own -/
def gm (M R : Nat → Nat → Int32) : Nat → Nat → Int32 := fun r => if r = 4 then R 4 else M r
def it {α : Type} (f : Nat → α → α) : Nat → α → α
  | 0, x => x
  | n + 1, x => f n (it f n x)
def lp {α : Type} (c : α → Bool) (b : α → α) : Nat → α → Option α
  | 0, _ => none
  | n + 1, x => if c x then lp c b n (b x) else some x
/-- while c: b, n times at most -/
def lw {α : Type} (c : α → Bool) (b : α → α) : Nat → α → α
  | 0, x => x
  | n + 1, x => if c x then lw c b n (b x) else x
theorem lw_t {α : Type} {c : α → Bool} {b : α → α} {n : Nat} {x : α} (h : c x = true) : lw c b (n + 1) x = lw c b n (b x) := by simp [lw, h]
theorem lw_f {α : Type} {c : α → Bool} {b : α → α} {n : Nat} {x : α} (h : c x = false) : lw c b n x = x := by cases n <;> simp [lw, h]
def cellF (f : Nat → Int32) (n : Nat) (i : Int32) : Int32 := if i < 0 then -1 else if Int32.ofNat n ≤ i then -1 else f i.toNatClampNeg
def putF (f : Nat → Int32) (n : Nat) (i v : Int32) : Nat → Int32 := if i < 0 then f else if Int32.ofNat n ≤ i then f else upd f i.toNatClampNeg v
abbrev wArr (cI : ClassId) (a n : Nat) (f : Nat → Int32) : va_W := [(a, .inl (cI, n, .inl f))]
def wMix (cI : ClassId) (a : Nat → Nat) (M : Nat → Nat → Int32) : va_W :=
  [(a 0, .inr (1, [.int (M 0 0), .int (M 0 1), .int (M 0 2), .int (M 0 3), .int (M 0 4), .int (M 0 5), .int (M 0 6), .int (M 0 7), .int (M 0 8), .int (M 0 9), .int (M 0 10), .ref (a 1), .ref (a 2), .ref (a 3)])), (a 1, .inl (cI, 3, .inl (M 1))), (a 2, .inl (cI, 3, .inl (M 2))), (a 3, .inl (cI, 3, .inl (M 3)))]
def wLog (cI : ClassId) (a : Nat → Nat) (M : Nat → Nat → Int32) : va_W :=
  [(a 0, .inr (0, [.ref (a 1), .int (M 0 0)])), (a 1, .inl (cI, 600, .inl (M 1)))]
def wPic (cI : ClassId) (a : Nat → Nat) (M : Nat → Nat → Int32) : va_W :=
  [(a 0, .inr (2, [.ref (a 1)])), (a 1, .inl (cI, 10, .inl (M 1)))]
def wRep (cI : ClassId) (a : Nat → Nat) (M : Nat → Nat → Int32) : va_W :=
  (a 0, .inr (3, [.ref (a 1), .int (M 4 0)])) :: wMix cI (fun k => a (1 + k)) M
def wScr (cI : ClassId) (a : Nat → Nat) (M : Nat → Nat → Int32) : va_W :=
  [(a 0, .inr (4, [.ref (a 1), .ref (a 2), .int (M 0 0), .int (M 0 1), .int (M 0 2), .int (M 0 3)])), (a 1, .inl (cI, 120, .inl (M 1))), (a 2, .inl (cI, 180, .inl (M 2)))]
def wVM (cI : ClassId) (a : Nat → Nat) (J : Nat → Nat → Nat → Int32) : va_W :=
  (a 0, .inr (5, [.ref (a 1), .ref (a 5), .ref (a 9), .ref (a 13), .ref (a 15), .ref (a 20), .ref (a 22), .ref (a 24)])) ::
  (wMix cI (fun k => a (1 + k)) (J 0) ++ (wMix cI (fun k => a (5 + k)) (J 1) ++ (wMix cI (fun k => a (9 + k)) (J 2) ++ (wLog cI (fun k => a (13 + k)) (J 3) ++ (wRep cI (fun k => a (15 + k)) (J 4) ++ (wPic cI (fun k => a (20 + k)) (J 5) ++ (wPic cI (fun k => a (22 + k)) (J 6) ++ wScr cI (fun k => a (24 + k)) (J 7))))))))
def wMd (cI : ClassId) (a : Nat → Nat) (K : Nat → Nat → Int32) : va_W :=
  [(a 0, .inr (6, [.ref (a 1), .ref (a 2), .int (K 0 0), .ref (a 3), .int (K 0 1), .int (K 0 2), .int (K 0 3), .ref (a 4), .int (K 0 4), .int (K 0 5), .int (K 0 6), .int (K 0 7), .ref (a 5), .ref (a 6), .int (K 0 8), .int (K 0 9), .int (K 0 10), .int (K 0 11), .int (K 0 12)])),
   (a 1, .inl (cI, 20, .inl (K 1))), (a 2, .inl (cI, 20, .inl (K 2))), (a 3, .inl (cI, 600, .inl (K 3))), (a 4, .inl (cI, 10, .inl (K 4))), (a 5, .inl (cI, 10, .inl (K 5))), (a 6, .inl (cI, 120, .inl (K 6)))]
theorem y_vin {i : Int32} {n : Nat} (hn : n < 2 ^ 31) (h1 : ¬ i < 0) (h2 : ¬ Int32.ofNat n ≤ i) : vp_in i n := by
  rcases pk_ix i hn with h | h | ⟨j, hj, rfl⟩
  · exact absurd h h1
  · exact absurd h h2
  · exact vp_in_nI hj hn
theorem y_sw (x : Int32) (lo n : Nat) (hn : lo + n < 2 ^ 30) : (x.toInt < (lo : Int) ∨ ((lo + n : Nat) : Int) < x.toInt) ∨ ∃ j : Nat, j ≤ n ∧ x = nI (lo + j) := by
  rcases pk_ix x (n := lo + n + 1) (by omega) with h | h | ⟨j, hj, h⟩
  · refine Or.inl (Or.inl ?_)
    have h2 : x.toInt < 0 := by simpa using Int32.lt_iff_toInt_lt.mp h
    omega
  · refine Or.inl (Or.inr ?_)
    have h2 := Int32.le_iff_toInt_le.mp h
    rw [nI_toInt (by omega)] at h2
    omega
  · by_cases hl : j < lo
    · refine Or.inl (Or.inl ?_)
      rw [h, nI_toInt (by omega)]
      omega
    · exact Or.inr ⟨j - lo, by omega, by rw [h]; congr 1; omega⟩
theorem y_swn {x : Int32} {lo hi : Int} (h : x.toInt < lo ∨ hi < x.toInt) (k : Int32) (h0 : ¬ k.toInt < lo) (h1 : ¬ hi < k.toInt) : ¬ x = k := by
  rintro rfl
  rcases h with h | h
  · exact h0 h
  · exact h1 h
theorem y_lkn {x k : Int32} (h : ¬ x = k) : ¬ k.toInt = x.toInt := fun e => h (Int32.toInt_inj.mp e.symm)
