abbrev g10 : Type := (Nat → Int32) × (Nat → Int32) × Int32 × Int32 × Int32 × Int32 × Int32 × Int32 × Int32 × Int32
def ghI (set q : Int32) : Int32 := if (set >>> (q &&& 31)) &&& 1 = 1 then 1 else 0
def ghF (is f t : Int32) : Int32 := if is = 0 then f else if f = -1 then t else f
def ghO (set be row : Int32) : Int32 := if set = be then row + 1 else 1
def ghL (row lo : Int32) : Int32 := if row ≤ lo then lo else row
def ghY (E : Nat → Int32) (n : Int32) (x : g10) : (Nat → Int32) × Int32 := if x.2.2.2.2.2.2.2.2.2 ≤ 0 then daX E n x.2.2.2.2.2.2.2.2.2 (-1) x.1 x.2.2.2.1 else daX E n x.2.2.2.2.2.2.2.2.2 (-1) (mr_fr x.1) x.2.2.2.1
def ghS (E : Nat → Int32) (n : Int32) (x : g10) : Nat → Int32 := mr_ls (ghY E n x).1 x.2.1
def ghR (E : Nat → Int32) (n : Int32) (x : g10) : Int32 := mv_rd (ghS E n x)
def ghW (E : Nat → Int32) (n : Int32) (x : g10) : Int32 := ghO (ghR E n x) x.2.2.2.2.2.2.2.2.1 x.2.2.2.2.2.2.2.1
def ghN (x : g10) : Int32 := if x.2.2.2.2.2.2.2.2.2 ≤ 0 then x.2.2.1 else mv_fn x.1 x.2.2.1
def ghB (E : Nat → Int32) (n q : Int32) (x : g10) : g10 := ((ghY E n x).1, ghS E n x, ghN x, (ghY E n x).2, x.2.2.2.2.1 + nzF (ghI (ghR E n x) q), ghF (ghI (ghR E n x) q) x.2.2.2.2.2.1 x.2.2.2.2.2.2.2.2.2, ghL (ghW E n x) x.2.2.2.2.2.2.1, ghW E n x, ghR E n x, x.2.2.2.2.2.2.2.2.2 + 1)
def ghC (c : Int32) (x : g10) : Bool := if c < x.2.2.2.2.2.2.2.2.2 then false else true
def ghX (E : Nat → Int32) (n c q : Int32) (m s : Nat → Int32) (r : Int32) : g10 := lw (ghC c) (ghB E n q) 5002 (mr_bg m, s, r, 0, 0, -1, 0, 0, -1, 0)
theorem gh_stop (E : Nat → Int32) (n c q : Int32) (m s : Nat → Int32) (r : Int32) (hT : c ≤ 5000) : ghC c (ghX E n c q m s r) = false := by
  have key : ∀ x : g10, (∃ k : Nat, k ≤ 5001 ∧ x.2.2.2.2.2.2.2.2.2 = nI k) → ghC c x = true → ∃ k : Nat, k < 5001 ∧ x.2.2.2.2.2.2.2.2.2 = nI k := by
    intro x ⟨k, hk, e⟩ hc
    rcases Nat.lt_or_ge k 5001 with h | h
    · exact ⟨k, h, e⟩
    · exfalso
      have : k = 5001 := by omega
      subst this
      unfold ghC at hc
      rw [e, if_pos (Int32.lt_of_le_of_lt hT (by decide))] at hc
      cases hc
  refine lw_stop (fun x => ∃ k : Nat, k ≤ 5001 ∧ x.2.2.2.2.2.2.2.2.2 = nI k) (fun x => 5001 - (x.2.2.2.2.2.2.2.2.2).toNatClampNeg) ?_ ?_ 5002 _ ⟨0, by omega, rfl⟩ (by show 5001 - (0 : Int32).toNatClampNeg < 5002; decide)
  · intro x hx hc
    obtain ⟨k, hk, e⟩ := key x hx hc
    exact ⟨k + 1, by omega, by show x.2.2.2.2.2.2.2.2.2 + 1 = _; rw [e, nI_1]⟩
  · intro x hx hc
    obtain ⟨k, hk, e⟩ := key x hx hc
    show 5001 - (x.2.2.2.2.2.2.2.2.2 + 1).toNatClampNeg < 5001 - (x.2.2.2.2.2.2.2.2.2).toNatClampNeg
    rw [e, nI_1, nI_clamp (by omega), nI_clamp (by omega)]
    omega
theorem gh_y {E : Nat → Int32} {n : Int32} (hn : n ≤ 100) (hv : lgv E n) {x : g10} (h : okm x.1 ∧ ¬ x.2.2.2.1 < 0) : okm (ghY E n x).1 ∧ ¬ (ghY E n x).2 < 0 := by
  unfold ghY
  split
  · have q := da_all (t := x.2.2.2.2.2.2.2.2.2) (wo := -1) hn hv 101 (x.1, x.2.2.2.1) h.2 h.1
    unfold daX
    exact ⟨q.2, q.1⟩
  · have q := da_all (t := x.2.2.2.2.2.2.2.2.2) (wo := -1) hn hv 101 (mr_fr x.1, x.2.2.2.1) h.2 (okm_fr h.1)
    unfold daX
    exact ⟨q.2, q.1⟩
theorem gh_ok1 {E : Nat → Int32} {n q : Int32} (hn : n ≤ 100) (hv : lgv E n) {x : g10} (h : okm x.1 ∧ ¬ x.2.2.2.1 < 0) : okm (ghB E n q x).1 ∧ ¬ (ghB E n q x).2.2.2.1 < 0 := gh_y hn hv h
def mv_ss (s kp : Nat → Int32) (k : Nat) (x : Int32) : Int32 := if x = 0 then 0 else if s k = kp k then 1 else 0
theorem ss_0 {s kp : Nat → Int32} {k : Nat} {x : Int32} (h : x = 0) : (0 : Int32) = mv_ss s kp k x := (if_pos h).symm
theorem ss_1 {s kp : Nat → Int32} {k : Nat} {x : Int32} (h : ¬ x = 0) (h2 : s k = kp k) : (1 : Int32) = mv_ss s kp k x := by unfold mv_ss; rw [if_neg h, if_pos h2]
theorem ss_2 {s kp : Nat → Int32} {k : Nat} {x : Int32} (h : ¬ x = 0) (h2 : ¬ s k = kp k) : (0 : Int32) = mv_ss s kp k x := by unfold mv_ss; rw [if_neg h, if_neg h2]
def ie10 (s kp : Nat → Int32) : Int32 := (mv_ss s kp 9 (mv_ss s kp 8 (mv_ss s kp 7 (mv_ss s kp 6 (mv_ss s kp 5 (mv_ss s kp 4 (mv_ss s kp 3 (mv_ss s kp 2 (mv_ss s kp 1 (mv_ss s kp 0 1))))))))))
abbrev i6 : Type := (Nat → Int32) × (Nat → Int32) × Int32 × Int32 × Int32 × Int32
def ieG (E : Nat → Int32) (n c : Int32) (x : i6) : (Nat → Int32) × Int32 × Int32 × Int32 := gtX E n c x.2.2.2.2.2 x.1
def ieS (E : Nat → Int32) (n c : Int32) (x : i6) : Nat → Int32 := mr_ls (ieG E n c x).1 x.2.1
def ieB (E : Nat → Int32) (n c : Int32) (kp : Nat → Int32) (x : i6) : i6 := ((ieG E n c x).1, ieS E n c x, (ieG E n c x).2.1, (ieG E n c x).2.2.1, x.2.2.2.2.1 + nzF (ie10 (ieS E n c x) kp), x.2.2.2.2.2 + 1)
def ieC (n : Int32) (x : i6) : Bool := if n ≤ x.2.2.2.2.2 then false else true
def ieK (m s k : Nat → Int32) : Nat → Int32 := it (mr_c1 (mr_ls m s)) 10 k
def ieX (E : Nat → Int32) (n c : Int32) (m s k : Nat → Int32) (r a : Int32) : i6 := lw (ieC n) (ieB E n c (ieK m s k)) 101 (m, mr_ls m s, r, a, 0, 0)
theorem ie_c {n : Int32} {x : i6} (h : ieC n x = true) : ¬ n ≤ x.2.2.2.2.2 := fun e => by unfold ieC at h; rw [if_pos e] at h; cases h
theorem ie_stop (E : Nat → Int32) {n : Int32} (c : Int32) (m s k : Nat → Int32) (r a : Int32) (hn : n ≤ 100) : ieC n (ieX E n c m s k r a) = false := by
  refine lw_stop (fun x => ¬ x.2.2.2.2.2 < 0) (fun x => 100 - x.2.2.2.2.2.toNatClampNeg) ?_ ?_ 101 _ (show ¬ (0 : Int32) < 0 by decide) (by show 100 - _ < 101; omega)
  · intro x hx hc
    obtain ⟨j, hj, -, e⟩ := da_x hn hx (ie_c hc)
    show ¬ x.2.2.2.2.2 + 1 < 0
    rw [e, nI_1]; exact nI_pos (by omega)
  · intro x hx hc
    obtain ⟨j, hj, -, e⟩ := da_x hn hx (ie_c hc)
    show 100 - (x.2.2.2.2.2 + 1).toNatClampNeg < 100 - x.2.2.2.2.2.toNatClampNeg
    rw [e, nI_1, nI_clamp (by omega), nI_clamp (by omega)]; omega
