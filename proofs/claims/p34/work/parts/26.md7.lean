def mv_nn (f : Int32) : Int32 := if f = -1 then 0 else 1
def ro_c (c a b cc k n p v w d : Int32) : Int32 := if c = 97 then a else if c = 98 then b else if c = 99 then cc else if c = 107 then k else if c = 110 then n else if c = 112 then p else if c = 118 then v else if c = 119 then w else d
def ro_fi (T : Nat → Int32) (L p : Int32) : Int32 := ro_c (mv_he T L p) 0 0 0 (mv_fg T L (p + 1) 2) (mv_fg T L (p + 1) 7) (mv_fg T L (p + 1) 9) (mv_fg T L (p + 1) 9) 0 0
def ro_kp (T : Nat → Int32) (L p : Int32) : Int32 := if mv_fg T L (p + 1) 2 = -1 then mv_fp T L (p + 1) 2 else mv_rp T L (mv_fp T L (p + 1) 2) 3 1 100
def ro_kg (T : Nat → Int32) (L p : Int32) : Int32 := if mv_fg T L (p + 1) 2 = -1 then 0 else if mv_rr T L (mv_fp T L (p + 1) 2) 3 1 100 = 0 then 0 else 1
def ro_kn (T : Nat → Int32) (L p n : Int32) : Int32 := if mv_fg T L (p + 1) 2 = -1 then n else (rdX T L (mv_fp T L (p + 1) 2) 3).1
def ro_p1 (T : Nat → Int32) (L p : Int32) : Int32 := ro_c (mv_he T L p) (p + 1) (mv_rp T L (p + 1) 4 0 1000) (p + 1) (ro_kp T L p) (mv_fp T L (p + 1) 7) (mv_fp T L (p + 1) 9) (mv_fp T L (p + 1) 9) (mv_rp T L (p + 1) 3 0 999) (p + 1 - 1)
def ro_nu (T : Nat → Int32) (L p n : Int32) : Int32 := ro_c (mv_he T L p) n (rdX T L (p + 1) 4).1 n (ro_kn T L p n) n n n (rdX T L (p + 1) 3).1 n
def ro_gd (T : Nat → Int32) (L p : Int32) : Int32 := ro_c (mv_he T L p) 1 (mv_rr T L (p + 1) 4 0 1000) 1 (ro_kg T L p) (mv_nn (mv_fg T L (p + 1) 7)) (mv_nn (mv_fg T L (p + 1) 9)) (mv_nn (mv_fg T L (p + 1) 9)) (mv_rr T L (p + 1) 3 0 999) 0
def ro_p2 (T : Nat → Int32) (L p : Int32) : Int32 := if ro_gd T L p = 0 then ro_p1 T L p else ro_p1 T L p + nzF (mv_eq (mv_he T L (ro_p1 T L p)) 59)
def mv_ro (T : Nat → Int32) (L p : Int32) : Int32 := if ro_gd T L p = 0 then 0 else if mv_eq (mv_he T L (ro_p1 T L p)) 59 = 0 then 0 else 1
def mo_ro (S : Nat → Nat → Int32) : Nat → Nat → Int32 := sF (sF (sF (sF S 0 11 (mv_he (S 6) (S 0 8) (S 0 9))) 0 12 (ro_fi (S 6) (S 0 8) (S 0 9))) 0 10 (ro_nu (S 6) (S 0 8) (S 0 9) (S 0 10))) 0 9 (ro_p2 (S 6) (S 0 8) (S 0 9))
theorem he_lt {T : Nat → Int32} {L p k : Int32} (h : mv_he T L p = k) (hk : ¬ k = -1) : ¬ L ≤ p := fun e => hk (by rw [← h]; unfold mv_he; rw [if_pos e])
theorem he_n {T : Nat → Int32} {L p : Int32} (hL : L ≤ 120) (h0 : ¬ p < 0) {k : Int32} (h : mv_he T L p = k) (hk : ¬ k = -1) : ¬ p + 1 < 0 ∧ p + 1 ≤ L := rd_p1 (T := T) hL h0 (he_lt h hk)
def mo_log (S : Nat → Nat → Int32) (A B C w a b c d : Int32) : Nat → Nat → Int32 := sF (sF (sR (sR S 1 (if mv_go A B C = 0 then S 1 else mr_ds (S 1) w a b c d)) 3 (if mv_go A B C = 0 then S 3 else mr_la (S 3) (S 0 1).toNatClampNeg (S 0 0) w a b c d)) 0 1 (if mv_go A B C = 0 then S 0 1 else S 0 1 + 1)) 0 2 (mv_gf A B C)
def mo_pass (S : Nat → Nat → Int32) (fr : Int32) : Nat → Nat → Int32 := sF (sF (sF (sR S 1 (if mv_pg (S 0 0) fr = 0 then S 1 else (psX fr (S 1) (S 0 3) (S 0 0)).1)) 0 3 (if mv_pg (S 0 0) fr = 0 then S 0 3 else (psX fr (S 1) (S 0 3) (S 0 0)).2.1)) 0 0 (if mv_pg (S 0 0) fr = 0 then S 0 0 else (psX fr (S 1) (S 0 3) (S 0 0)).2.2.1)) 0 2 (mv_gf (mv_in (Int32.toInt64 fr) 0 500) (mv_ps2 (S 0 0) fr) 1)
def mo_or (S : Nat → Nat → Int32) : Nat → Nat → Int32 := if S 0 11 = 97 then mo_log S (mv_an (mv_hr (S 0 1)) (mv_ps (S 1) 7)) 1 1 7 (-1) (-1) (-1) (-1)
  else if S 0 11 = 98 then mo_log S (mv_in (Int32.toInt64 (S 0 10)) 0 1000) (mv_an (mv_hr (S 0 1)) (mv_ps (S 1) 8)) 1 8 (S 0 10) (-1) (-1) (-1)
  else if S 0 11 = 99 then mo_log S (mv_hr (S 0 1)) 1 1 6 (-1) (-1) (-1) (-1)
  else if S 0 11 = 107 then mo_log S (mv_an (mv_in (Int32.toInt64 (S 0 12)) 0 2) (mv_in (Int32.toInt64 (S 0 10)) 1 100)) (mv_hr (S 0 1)) 1 2 (S 0 12) (S 0 10) (-1) (-1)
  else if S 0 11 = 110 then mo_log S (mv_in (Int32.toInt64 (S 0 12)) 0 15) (mv_an (mv_hr (S 0 1)) (mv_ps (S 1) 3)) 1 3 (S 0 12) (-1) (-1) (-1)
  else if S 0 11 = 112 then mo_log S (mv_is (S 0 12)) (mv_hr (S 0 1)) 1 0 (S 0 12) (-1) (-1) (-1)
  else if S 0 11 = 118 then mo_log S (mv_is (S 0 12)) (mv_hr (S 0 1)) 1 1 (S 0 12) (-1) (-1) (-1)
  else mo_pass S (S 0 10)
theorem ps_stop {fr c : Int32} (m : Nat → Int32) (r : Int32) (h : ¬ mv_pg c fr = 0) : psC fr (psX fr m r c) = false := by
  obtain ⟨n, hn, rfl⟩ := vp_in_of (in_k (n := 500) (by decide) (go_a h)) (by decide)
  have key : ∀ x : (Nat → Int32) × Int32 × Int32 × Int32, (∃ k : Nat, k ≤ 500 ∧ x.2.2.2 = nI k) → psC (nI n) x = true → ∃ k : Nat, k < 500 ∧ x.2.2.2 = nI k := by
    intro x ⟨k, hk, e⟩ hc
    rcases Nat.lt_or_ge k n with h | h
    · exact ⟨k, by omega, e⟩
    · exfalso
      unfold psC at hc
      rw [e, if_pos (nI_le h (by omega))] at hc
      cases hc
  refine lw_stop (fun x => ∃ k : Nat, k ≤ 500 ∧ x.2.2.2 = nI k) (fun x => 500 - x.2.2.2.toNatClampNeg) ?_ ?_ 501 _ ⟨0, by omega, rfl⟩ (by show 500 - (0 : Int32).toNatClampNeg < 501; decide)
  · intro x hx hc
    obtain ⟨k, hk, e⟩ := key x hx hc
    exact ⟨k + 1, by omega, by show x.2.2.2 + 1 = _; rw [e, nI_1]⟩
  · intro x hx hc
    obtain ⟨k, hk, e⟩ := key x hx hc
    show 500 - (x.2.2.2 + 1).toNatClampNeg < 500 - x.2.2.2.toNatClampNeg
    rw [e, nI_1, nI_clamp (by omega), nI_clamp (by omega)]
    omega
