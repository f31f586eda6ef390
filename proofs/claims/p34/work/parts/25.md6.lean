def mv_tl (n : Int32) : Int32 := if 120 ≤ n then 0 else 1
theorem tl_in {n : Int32} (h0 : ¬ n < 0) (h : ¬ mv_tl n = 0) : vp_in n 120 := by
  rcases pk_ix n (n := 120) (by decide) with h1 | h1 | ⟨j, hj, rfl⟩
  · exact absurd h1 h0
  · exact absurd (by unfold mv_tl; rw [if_pos (show 120 ≤ n from h1)]) h
  · exact vp_in_nI hj (by decide)
def mv_he (T : Nat → Int32) (L p : Int32) : Int32 := if L ≤ p then -1 else T (cl p)
theorem he_in {L p : Int32} (hL : L ≤ 120) (h0 : ¬ p < 0) (h : ¬ L ≤ p) : vp_in p 120 := by
  rcases pk_ix p (n := 120) (by decide) with h1 | h1 | ⟨j, hj, rfl⟩
  · exact absurd h1 h0
  · exact absurd (Int32.le_trans hL h1) h
  · exact vp_in_nI hj (by decide)
def mv_eq (a b : Int32) : Int32 := if a = b then 1 else 0
theorem mv_eq01 (a b : Int32) : mv_eq a b = 0 ∨ mv_eq a b = 1 := ite01 (Or.inr rfl) (Or.inl rfl)
def mv_fv (is he : Int32) : Int32 := if is = 0 then -1 else he - 48
def mv_fi (T : Nat → Int32) (L p mo : Int32) : Int32 := mv_in (Int32.toInt64 (mv_he T L p)) 48 (Int32.toInt64 (48 + mo))
def mv_fg (T : Nat → Int32) (L p mo : Int32) : Int32 := mv_fv (mv_fi T L p mo) (mv_he T L p)
def mv_fp (T : Nat → Int32) (L p mo : Int32) : Int32 := p + nzF (mv_fi T L p mo)
def mv_dg (T : Nat → Int32) (L p : Int32) : Int32 := mv_in (Int32.toInt64 (mv_he T L p)) 48 57
def rdC (T : Nat → Int32) (L b f : Int32) (x : Int32 × Int32) : Bool := if mv_dg T L x.2 = 0 then false else if b + f ≤ x.2 then false else true
def rdB (T : Nat → Int32) (L : Int32) (x : Int32 × Int32) : Int32 × Int32 := (10 * x.1 + mv_he T L x.2 - 48, x.2 + 1)
def rdX (T : Nat → Int32) (L b f : Int32) : Int32 × Int32 := lw (rdC T L b f) (rdB T L) 5 (0, b)
def mv_rr (T : Nat → Int32) (L b f lo hi : Int32) : Int32 := if (rdX T L b f).2 = b then 0 else if mv_dg T L (rdX T L b f).2 = 0 then mv_in (Int32.toInt64 (rdX T L b f).1) (Int32.toInt64 lo) (Int32.toInt64 hi) else 0
def mv_sl (a b c : Int32) : Int32 := if a = 0 then b else c
def mv_rp (T : Nat → Int32) (L b f lo hi : Int32) : Int32 := if (rdX T L b f).2 = b then (rdX T L b f).2 else if mv_dg T L (rdX T L b f).2 = 0 then mv_sl (mv_in (Int32.toInt64 (rdX T L b f).1) (Int32.toInt64 lo) (Int32.toInt64 hi)) b (rdX T L b f).2 else (rdX T L b f).2
theorem dg_lt {T : Nat → Int32} {L p : Int32} (h : ¬ mv_dg T L p = 0) : ¬ L ≤ p := fun e => h (by
  unfold mv_dg mv_he
  rw [if_pos e]
  decide)
theorem rd_dg {T : Nat → Int32} {L b f : Int32} {x : Int32 × Int32} (h : rdC T L b f x = true) : ¬ mv_dg T L x.2 = 0 := fun e => by unfold rdC at h; rw [if_pos e] at h; cases h
theorem rd_bf {T : Nat → Int32} {L b f : Int32} {x : Int32 × Int32} (h : rdC T L b f x = true) : ¬ b + f ≤ x.2 := fun e => by unfold rdC at h; rw [if_neg (rd_dg (by unfold rdC; exact h)), if_pos e] at h; cases h
theorem rd_p1 {T : Nat → Int32} {L p : Int32} (hL : L ≤ 120) (h0 : ¬ p < 0) (h : ¬ L ≤ p) : ¬ p + 1 < 0 ∧ p + 1 ≤ L := by
  obtain ⟨j, hj, rfl⟩ := vp_in_of (he_in hL h0 h) (by decide)
  rw [nI_1]
  refine ⟨nI_pos (by omega), ?_⟩
  rcases pk_ix L (n := 121) (by decide) with h1 | h1 | ⟨i, hi, rfl⟩
  · exact absurd (Int32.le_of_lt (Int32.lt_of_lt_of_le h1 (nI_pos' (by omega)))) h
  · exact absurd (Int32.le_trans h1 hL) (by decide)
  · refine nI_le ?_ (by omega)
    rcases Nat.lt_or_ge j i with q | q
    · exact q
    · exact absurd (nI_le q (by omega)) h
theorem rd_stop (T : Nat → Int32) {L b f : Int32} (hL : L ≤ 120) (h0 : ¬ b < 0) (hf : vp_in f 5) : rdC T L b f (rdX T L b f) = false := by
  cases hc0 : rdC T L b f (0, b) with
  | false => unfold rdX; rw [lw_f hc0]; exact hc0
  | true =>
    have hb := he_in (p := b) hL h0 (dg_lt (T := T) (rd_dg (x := (0, b)) hc0))
    obtain ⟨p, hp, rfl⟩ := vp_in_of hb (by decide)
    obtain ⟨j, hj, rfl⟩ := vp_in_of hf (by decide)
    have key : ∀ x : Int32 × Int32, (∃ q : Nat, q ≤ j ∧ x.2 = nI (p + q)) → rdC T L (nI p) (nI j) x = true → ∃ q : Nat, q < j ∧ x.2 = nI (p + q) := by
      intro x ⟨q, hq, e⟩ hc
      rcases Nat.lt_or_ge q j with h | h
      · exact ⟨q, h, e⟩
      · exfalso
        have : q = j := by omega
        subst this
        have := rd_bf hc
        rw [e, nI_add] at this
        exact this (nI_le (Nat.le_refl _) (by omega))
    refine lw_stop (fun x => ∃ q : Nat, q ≤ j ∧ x.2 = nI (p + q)) (fun x => p + j - x.2.toNatClampNeg) ?_ ?_ 5 _ ⟨0, by omega, rfl⟩ (by show p + j - (nI p).toNatClampNeg < 5; rw [nI_clamp (by omega)]; omega)
    · intro x hx hc
      obtain ⟨q, hq, e⟩ := key x hx hc
      exact ⟨q + 1, by omega, by show x.2 + 1 = _; rw [e, nI_1]; rfl⟩
    · intro x hx hc
      obtain ⟨q, hq, e⟩ := key x hx hc
      show p + j - (x.2 + 1).toNatClampNeg < p + j - x.2.toNatClampNeg
      rw [e, nI_1, nI_clamp (by omega), nI_clamp (by omega)]
      omega
theorem rd_in {T : Nat → Int32} {L b f : Int32} (hL : L ≤ 120) : ∀ (n : Nat) (x : Int32 × Int32), ¬ x.2 < 0 ∧ (x.2 ≤ L ∨ x.2 = b) → ¬ (lw (rdC T L b f) (rdB T L) n x).2 < 0 ∧ ((lw (rdC T L b f) (rdB T L) n x).2 ≤ L ∨ (lw (rdC T L b f) (rdB T L) n x).2 = b)
  | 0, x, h => h
  | n + 1, x, h => by
    cases hc : rdC T L b f x with
    | false => rw [lw_f hc]; exact h
    | true =>
      rw [lw_t hc]
      have q := rd_p1 (T := T) hL h.1 (dg_lt (rd_dg hc))
      exact rd_in hL n _ ⟨q.1, Or.inl q.2⟩
theorem rp_in {T : Nat → Int32} {L b f : Int32} (lo hi : Int32) (hL : L ≤ 120) (h0 : ¬ b < 0) (hb : b ≤ L) : ¬ mv_rp T L b f lo hi < 0 ∧ mv_rp T L b f lo hi ≤ L := by
  have h := rd_in (T := T) (f := f) (b := b) hL 5 (0, b) ⟨h0, Or.inl hb⟩
  have h2 : ¬ (rdX T L b f).2 < 0 ∧ (rdX T L b f).2 ≤ L := ⟨h.1, h.2.elim id (fun e => by unfold rdX; rw [e]; exact hb)⟩
  unfold mv_rp mv_sl
  split
  · exact h2
  · split
    · split
      · exact ⟨h0, hb⟩
      · exact h2
    · exact h2
theorem rp_nn {T : Nat → Int32} {L b f : Int32} (lo hi : Int32) (hL : L ≤ 120) (h0 : ¬ b < 0) : ¬ mv_rp T L b f lo hi < 0 := by
  have h := rd_in (T := T) (f := f) (b := b) hL 5 (0, b) ⟨h0, Or.inr rfl⟩
  unfold mv_rp mv_sl
  split
  · exact h.1
  · split
    · split
      · exact h0
      · exact h.1
    · exact h.1
theorem fi_lt {T : Nat → Int32} {L p mo : Int32} (h : ¬ mv_fi T L p mo = 0) : ¬ L ≤ p := fun e => h (by
  unfold mv_fi mv_he
  rw [if_pos e]
  unfold mv_in
  exact if_pos (by decide))
theorem fp_in {T : Nat → Int32} {L p : Int32} (mo : Int32) (hL : L ≤ 120) (h0 : ¬ p < 0) (h : p ≤ L) : ¬ mv_fp T L p mo < 0 ∧ mv_fp T L p mo ≤ L := by
  unfold mv_fp nzF
  split
  · rw [Int32.add_zero]; exact ⟨h0, h⟩
  · rename_i q
    exact rd_p1 (T := T) hL h0 (fi_lt q)
