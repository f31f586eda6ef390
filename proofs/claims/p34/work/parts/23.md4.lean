def vOk (w a b : Int32) : Prop := ((w = 0 ∨ w = 1) → vp_in a 10) ∧ (w = 2 → ¬ b = 0) ∧ ((w = 4 ∨ w = 5) → kOk a) ∧ (w = 4 → vp_in b 10)
def lgv (E : Nat → Int32) (n : Int32) : Prop := ∀ i : Nat, i < cl n → vOk (E (6 * i + 1)) (E (6 * i + 2)) (E (6 * i + 3))
theorem bg_at (m : Nat → Int32) : mr_bg m 0 = 1 ∧ mr_bg m 1 = 2 ∧ mr_bg m 7 = 3 ∧ mr_bg m 11 = 4 ∧ mr_bg m 15 = 5 ∧ mr_bg m 3 = 25 := by
  have e : mr_bg m = mr_bs 2 (mr_bs 1 (mr_bs 0 (mr_bi m))) := rfl
  rw [e]
  refine ⟨?_, ?_, ?_, ?_, ?_, ?_⟩ <;> simp only [mr_bs, mr_bi, upd_ne, upd_eq, Nat.reduceBEq, Nat.reduceMul, Nat.reduceAdd] <;> decide
theorem okm_bg (m : Nat → Int32) : okm (mr_bg m) := by
  obtain ⟨a, b, c, d, e, f⟩ := bg_at m
  unfold okm
  rw [a, b, c, d, e, f]
  exact ⟨vpd (by decide) (by decide), vpd (by decide) (by decide), vpd (by decide) (by decide), vpd (by decide) (by decide), vpd (by decide) (by decide), by decide⟩
theorem okm_up {m : Nat → Int32} (h : okm m) (i : Nat) (v : Int32) (h0 : i = 0 ∨ i = 1 ∨ i = 7 ∨ i = 11 ∨ i = 15 → vp_in v 10) (h3 : i = 3 → ¬ v = 0) : okm (upd m i v) := by
  obtain ⟨a, b, c, d, e, f⟩ := h
  refine ⟨?_, ?_, ?_, ?_, ?_, ?_⟩ <;> unfold upd <;> split <;> first | assumption | (apply h0; omega) | (apply h3; omega)
theorem kx_v {a : Int32} (h : kOk a) : (kx a 0 = 7 ∧ kx a 1 = 8 ∧ kx a 2 = 9 ∧ kx a 3 = 10) ∨ (kx a 0 = 11 ∧ kx a 1 = 12 ∧ kx a 2 = 13 ∧ kx a 3 = 14) ∨ (kx a 0 = 15 ∧ kx a 1 = 16 ∧ kx a 2 = 17 ∧ kx a 3 = 18) := by
  obtain ⟨j, hj, rfl⟩ := vp_in_of h (by decide)
  rcases (show j = 0 ∨ j = 1 ∨ j = 2 by omega) with rfl | rfl | rfl
  · exact Or.inl (by decide)
  · exact Or.inr (Or.inl (by decide))
  · exact Or.inr (Or.inr (by decide))
theorem okm_ds {m : Nat → Int32} (h : okm m) {w a b : Int32} (c d : Int32) (hv : vOk w a b) : okm (mr_ds m w a b c d) := by
  obtain ⟨v1, v2, v3, v4⟩ := hv
  unfold mr_ds
  split
  · exact h
  · split
    · rename_i e; exact okm_up h 0 a (fun _ => v1 (Or.inl e)) (by omega)
    · split
      · rename_i e; exact okm_up h 1 a (fun _ => v1 (Or.inr e)) (by omega)
      · split
        · rename_i e; exact okm_up (okm_up h 2 a (by omega) (by omega)) 3 b (by omega) (fun _ => v2 e)
        · split
          · exact okm_up h 4 a (by omega) (by omega)
          · split
            · rename_i e
              have hk := kx_v (v3 (Or.inl e))
              exact okm_up (okm_up (okm_up h _ _ (fun _ => v4 e) (by omega)) _ _ (by omega) (by omega)) _ _ (by omega) (by omega)
            · split
              · rename_i e
                have hk := kx_v (v3 (Or.inr e))
                exact okm_up h _ _ (by omega) (by omega)
              · split
                · exact okm_cp h
                · split
                  · exact okm_up h 6 0 (by omega) (by omega)
                  · split
                    · unfold mr_mv
                      split
                      · exact okm_cp (okm_up h 5 a (by omega) (by omega))
                      · exact okm_up h 5 a (by omega) (by omega)
                    · exact okm_up h 19 _ (by omega) (by omega)
def daC (E : Nat → Int32) (n t : Int32) (x : (Nat → Int32) × Int32) : Bool := if n ≤ x.2 then false else if E (6 * cl x.2) = t then true else false
def daB (E : Nat → Int32) (wo : Int32) (x : (Nat → Int32) × Int32) : (Nat → Int32) × Int32 := (if x.2 = wo then x.1 else mr_ds x.1 (E (6 * cl x.2 + 1)) (E (6 * cl x.2 + 2)) (E (6 * cl x.2 + 3)) (E (6 * cl x.2 + 4)) (E (6 * cl x.2 + 5)), x.2 + 1)
def daX (E : Nat → Int32) (n t wo : Int32) (m : Nat → Int32) (k : Int32) : (Nat → Int32) × Int32 := lw (daC E n t) (daB E wo) 101 (m, k)
theorem da_in {n x : Int32} (hn : n ≤ 100) (h : ¬ x < 0) (h2 : ¬ n ≤ x) : vp_in x 100 := by
  rcases pk_ix x (n := 100) (by decide) with h1 | h1 | ⟨j, hj, rfl⟩
  · exact absurd h1 h
  · exact absurd (Int32.le_trans hn h1) h2
  · exact vp_in_nI hj (by decide)
theorem da_c {E : Nat → Int32} {n t : Int32} {x : (Nat → Int32) × Int32} (h : daC E n t x = true) : ¬ n ≤ x.2 := fun e => by unfold daC at h; rw [if_pos e] at h; cases h
theorem da_x {n x : Int32} (hn : n ≤ 100) (h : ¬ x < 0) (h2 : ¬ n ≤ x) : ∃ k : Nat, k < 100 ∧ k < cl n ∧ x = nI k := by
  obtain ⟨k, hk, rfl⟩ := vp_in_of (da_in hn h h2) (by decide)
  refine ⟨k, hk, ?_, rfl⟩
  rcases pk_ix n (n := 101) (by decide) with h1 | h1 | ⟨j, hj, rfl⟩
  · exact absurd (Int32.le_of_lt (Int32.lt_of_lt_of_le h1 (nI_pos' (by omega)))) h2
  · exact absurd (Int32.le_trans h1 hn) (by decide)
  · rw [show cl (nI j) = j from nI_clamp (by omega)]
    rcases Nat.lt_or_ge k j with q | q
    · exact q
    · exact absurd (nI_le q (by omega)) h2
theorem da_stop (E : Nat → Int32) {n : Int32} (t wo : Int32) (m : Nat → Int32) {k : Int32} (hn : n ≤ 100) (hk : ¬ k < 0) : daC E n t (daX E n t wo m k) = false := by
  refine lw_stop (fun x => ¬ x.2 < 0) (fun x => 100 - x.2.toNatClampNeg) ?_ ?_ 101 _ hk (by show 100 - _ < 101; omega)
  · intro x hx hc
    obtain ⟨j, hj, -, e⟩ := da_x hn hx (da_c hc)
    show ¬ x.2 + 1 < 0
    rw [e, nI_1]; exact nI_pos (by omega)
  · intro x hx hc
    obtain ⟨j, hj, -, e⟩ := da_x hn hx (da_c hc)
    show 100 - (x.2 + 1).toNatClampNeg < 100 - x.2.toNatClampNeg
    rw [e, nI_1, nI_clamp (by omega), nI_clamp (by omega)]; omega
theorem da_nn1 {x : (Nat → Int32) × Int32} {n : Int32} {E : Nat → Int32} {wo : Int32} (hn : n ≤ 100) (hx : ¬ x.2 < 0) (h2 : ¬ n ≤ x.2) : ¬ (daB E wo x).2 < 0 := by
  obtain ⟨j, hj, -, e⟩ := da_x hn hx h2
  show ¬ x.2 + 1 < 0
  rw [e, nI_1]; exact nI_pos (by omega)
theorem da_ok1 {x : (Nat → Int32) × Int32} {n : Int32} {E : Nat → Int32} {wo : Int32} (hn : n ≤ 100) (hv : lgv E n) (hx : ¬ x.2 < 0) (h2 : ¬ n ≤ x.2) (h : okm x.1) : okm (daB E wo x).1 := by
  obtain ⟨j, hj, hj2, e⟩ := da_x hn hx h2
  show okm (if x.2 = wo then x.1 else _)
  split
  · exact h
  · rw [e, show cl (nI j) = j from nI_clamp (by omega)]
    exact okm_ds h _ _ (hv j hj2)
theorem da_all {E : Nat → Int32} {n t wo : Int32} (hn : n ≤ 100) (hv : lgv E n) : ∀ (q : Nat) (x : (Nat → Int32) × Int32), ¬ x.2 < 0 → okm x.1 → ¬ (lw (daC E n t) (daB E wo) q x).2 < 0 ∧ okm (lw (daC E n t) (daB E wo) q x).1
  | 0, x, h1, h2 => ⟨h1, h2⟩
  | q + 1, x, h1, h2 => by
    cases hc : daC E n t x with
    | false => rw [lw_f hc]; exact ⟨h1, h2⟩
    | true => rw [lw_t hc]; exact da_all hn hv q _ (da_nn1 hn h1 (da_c hc)) (da_ok1 hn hv h1 (da_c hc) h2)
def gtC (T : Int32) (x : (Nat → Int32) × Int32 × Int32 × Int32) : Bool := if T < x.2.2.2 then false else true
def gtB (E : Nat → Int32) (n wo : Int32) (x : (Nat → Int32) × Int32 × Int32 × Int32) : (Nat → Int32) × Int32 × Int32 × Int32 := ((daX E n x.2.2.2 wo (mr_fr x.1) x.2.2.1).1, mv_fn x.1 x.2.1, (daX E n x.2.2.2 wo (mr_fr x.1) x.2.2.1).2, x.2.2.2 + 1)
def gtX (E : Nat → Int32) (n T wo : Int32) (m : Nat → Int32) : (Nat → Int32) × Int32 × Int32 × Int32 := lw (gtC T) (gtB E n wo) 5001 ((daX E n 0 wo (mr_bg m) 0).1, 0, (daX E n 0 wo (mr_bg m) 0).2, 1)
theorem gt_stop (E : Nat → Int32) (n T wo : Int32) (m : Nat → Int32) (hT : T ≤ 5000) : gtC T (gtX E n T wo m) = false := by
  have key : ∀ x : (Nat → Int32) × Int32 × Int32 × Int32, (∃ k : Nat, k ≤ 5001 ∧ x.2.2.2 = nI k) → gtC T x = true → ∃ k : Nat, k < 5001 ∧ x.2.2.2 = nI k := by
    intro x ⟨k, hk, e⟩ hc
    rcases Nat.lt_or_ge k 5001 with h | h
    · exact ⟨k, h, e⟩
    · exfalso
      have : k = 5001 := by omega
      subst this
      unfold gtC at hc
      rw [e, if_pos (Int32.lt_of_le_of_lt hT (by decide))] at hc
      cases hc
  refine lw_stop (fun x => ∃ k : Nat, k ≤ 5001 ∧ x.2.2.2 = nI k) (fun x => 5001 - x.2.2.2.toNatClampNeg) ?_ ?_ 5001 _ ⟨1, by omega, rfl⟩ (by show 5001 - (1 : Int32).toNatClampNeg < 5001; decide)
  · intro x hx hc
    obtain ⟨k, hk, e⟩ := key x hx hc
    exact ⟨k + 1, by omega, by show x.2.2.2 + 1 = _; rw [e, nI_1]⟩
  · intro x hx hc
    obtain ⟨k, hk, e⟩ := key x hx hc
    show 5001 - (x.2.2.2 + 1).toNatClampNeg < 5001 - x.2.2.2.toNatClampNeg
    rw [e, nI_1, nI_clamp (by omega), nI_clamp (by omega)]
    omega
theorem gt_ok1 {E : Nat → Int32} {n wo : Int32} (hn : n ≤ 100) (hv : lgv E n) {x : (Nat → Int32) × Int32 × Int32 × Int32} (h : okm x.1 ∧ ¬ x.2.2.1 < 0) : okm (gtB E n wo x).1 ∧ ¬ (gtB E n wo x).2.2.1 < 0 :=
  have q := da_all (t := x.2.2.2) (wo := wo) hn hv 101 (mr_fr x.1, x.2.2.1) h.2 (okm_fr h.1)
  ⟨q.2, q.1⟩
theorem gt_0 {E : Nat → Int32} {n wo : Int32} (m : Nat → Int32) (hn : n ≤ 100) (hv : lgv E n) : okm (daX E n 0 wo (mr_bg m) 0).1 ∧ ¬ (daX E n 0 wo (mr_bg m) 0).2 < 0 :=
  have q := da_all (t := 0) (wo := wo) hn hv 101 (mr_bg m, 0) (show ¬ (0 : Int32) < 0 by decide) (okm_bg m)
  ⟨q.2, q.1⟩
theorem gt_all {E : Nat → Int32} {n T wo : Int32} (hn : n ≤ 100) (hv : lgv E n) : ∀ (q : Nat) (x : (Nat → Int32) × Int32 × Int32 × Int32), okm x.1 ∧ ¬ x.2.2.1 < 0 → okm (lw (gtC T) (gtB E n wo) q x).1 ∧ ¬ (lw (gtC T) (gtB E n wo) q x).2.2.1 < 0
  | 0, x, h => h
  | q + 1, x, h => by
    cases hc : gtC T x with
    | false => rw [lw_f hc]; exact h
    | true => rw [lw_t hc]; exact gt_all hn hv q _ (gt_ok1 hn hv h)
theorem gt_okm {E : Nat → Int32} {n : Int32} (T wo : Int32) (m : Nat → Int32) (hn : n ≤ 100) (hv : lgv E n) : okm (gtX E n T wo m).1 := by
  have h := gt_all (T := T) (wo := wo) hn hv 5001 ((daX E n 0 wo (mr_bg m) 0).1, 0, (daX E n 0 wo (mr_bg m) 0).2, 1) (gt_0 m hn hv)
  unfold gtX
  exact h.1
def mv_it (t c : Int32) : Int32 := mv_in t.toInt64 0 c.toInt64
theorem in_le {v h : Int32} {lo : Int64} (hg : ¬ mv_in v.toInt64 lo h.toInt64 = 0) : v ≤ h := by
  have h1 : ¬ lg_cmp v.toInt64 lo < 0 := fun e => hg (by unfold mv_in; rw [if_pos e])
  have h2 : ¬ 0 < lg_cmp v.toInt64 h.toInt64 := fun e => hg (by unfold mv_in; rw [if_neg h1, if_pos e])
  rcases Int.lt_or_le h.toInt v.toInt with q | q
  · exfalso; apply h2; unfold lg_cmp
    have e1 : v.toInt64 > h.toInt64 := by show h.toInt64 < v.toInt64; rw [Int64.lt_iff_toInt_lt, Int32.toInt_toInt64, Int32.toInt_toInt64]; exact q
    rw [if_pos e1]; decide
  · exact Int32.le_iff_toInt_le.mpr q
def mv_ia (a n : Int32) : Int32 := mv_in a.toInt64 0 (n.toInt64 - 1)
theorem ia_in {a n : Int32} (hn : n ≤ 100) (hg : ¬ mv_ia a n = 0) : vp_in a 100 ∧ a < n := by
  unfold mv_ia at hg
  have h1 : ¬ lg_cmp a.toInt64 0 < 0 := fun e => hg (by unfold mv_in; rw [if_pos e])
  have h2 : ¬ 0 < lg_cmp a.toInt64 (n.toInt64 - 1) := fun e => hg (by unfold mv_in; rw [if_neg h1, if_pos e])
  have hn2 : n.toInt ≤ 100 := Int32.le_iff_toInt_le.mp hn
  have hb := n.le_toInt
  have a1 : 0 ≤ a.toInt := by
    rcases Int.lt_or_le a.toInt 0 with q | q
    · exfalso; apply h1; unfold lg_cmp
      have e1 : a.toInt64 < 0 := by rw [Int64.lt_iff_toInt_lt, Int32.toInt_toInt64]; exact q
      rw [if_neg (fun e => absurd (Int64.lt_trans e e1) (Int64.lt_irrefl)), if_neg (fun e => absurd (e ▸ e1) (Int64.lt_irrefl))]; decide
    · exact q
  have e3 : (n.toInt64 - 1).toInt = n.toInt - 1 := by
    rw [Int64.toInt_sub, Int32.toInt_toInt64]
    exact Int.bmod_eq_of_le (by show -(2 ^ 64 / 2) ≤ n.toInt - 1; omega) (by show n.toInt - 1 < (2 ^ 64 + 1) / 2; omega)
  have a2 : a.toInt ≤ n.toInt - 1 := by
    rcases Int.lt_or_le (n.toInt - 1) a.toInt with q | q
    · exfalso; apply h2; unfold lg_cmp
      have e1 : a.toInt64 > n.toInt64 - 1 := by show n.toInt64 - 1 < a.toInt64; rw [Int64.lt_iff_toInt_lt, Int32.toInt_toInt64, e3]; exact q
      rw [if_pos e1]; decide
    · exact q
  exact ⟨vp_in_iff.mpr ⟨a1, by omega⟩, Int32.lt_iff_toInt_lt.mpr (by omega)⟩
theorem aw_in {a w : Int32} (ha : vp_in a 100) (hw : vp_in w 4) : vp_in (6 * a + w) 600 := by
  obtain ⟨j, hj, rfl⟩ := vp_in_of hw (by decide)
  exact (ix6 ha j (by omega)).1
def rxC (n : Int32) (x : (Nat → Int32) × Int32) : Bool := if 6 * n ≤ x.2 then false else true
def rxB (x : (Nat → Int32) × Int32) : (Nat → Int32) × Int32 := (upd x.1 (cl x.2) (x.1 (cl (x.2 + 6))), x.2 + 1)
def rxX (E : Nat → Int32) (n a : Int32) : (Nat → Int32) × Int32 := lw (rxC n) rxB 601 (E, 6 * a)
theorem rx_k {n : Int32} (hn : vp_in n 100) {x : (Nat → Int32) × Int32} (h : ∃ k : Nat, k ≤ 600 ∧ x.2 = nI k) (hc : ¬ 6 * n ≤ x.2) : ∃ k : Nat, k < 594 ∧ x.2 = nI k := by
  obtain ⟨k, hk, e⟩ := h
  obtain ⟨j, hj, rfl⟩ := vp_in_of hn (by decide)
  rw [e, show (6 : Int32) * nI j = nI (6 * j) from nI_muln 6 j] at hc
  rcases Nat.lt_or_ge k (6 * j) with q | q
  · exact ⟨k, by omega, e⟩
  · exact absurd (nI_le q (by omega)) hc
theorem rx_c {n : Int32} {x : (Nat → Int32) × Int32} (h : rxC n x = true) : ¬ 6 * n ≤ x.2 := fun e => by unfold rxC at h; rw [if_pos e] at h; cases h
theorem rx_0 {E : Nat → Int32} {a : Int32} (ha : vp_in a 100) : ∃ k : Nat, k ≤ 600 ∧ (E, 6 * a).2 = nI k := by
  obtain ⟨j, hj, rfl⟩ := vp_in_of ha (by decide)
  exact ⟨6 * j, by omega, nI_muln 6 j⟩
theorem rx_1 {n : Int32} (hn : vp_in n 100) {x : (Nat → Int32) × Int32} (h : ∃ k : Nat, k ≤ 600 ∧ x.2 = nI k) (hc : ¬ 6 * n ≤ x.2) : ∃ k : Nat, k ≤ 600 ∧ (rxB x).2 = nI k := by
  obtain ⟨k, hk, e⟩ := rx_k hn h hc
  exact ⟨k + 1, by omega, by show x.2 + 1 = _; rw [e, nI_1]⟩
theorem rx_stop (E : Nat → Int32) {n a : Int32} (hn : vp_in n 100) (ha : vp_in a 100) : rxC n (rxX E n a) = false := by
  refine lw_stop (fun x => ∃ k : Nat, k ≤ 600 ∧ x.2 = nI k) (fun x => 600 - x.2.toNatClampNeg) ?_ ?_ 601 _ (rx_0 ha) (by show 600 - _ < 601; omega)
  · intro x hx hc
    exact rx_1 hn hx (rx_c hc)
  · intro x hx hc
    obtain ⟨k, hk, e⟩ := rx_k hn hx (rx_c hc)
    show 600 - (x.2 + 1).toNatClampNeg < 600 - x.2.toNatClampNeg
    rw [e, nI_1, nI_clamp (by omega), nI_clamp (by omega)]; omega
theorem rx_i {n : Int32} (hn : vp_in n 100) {x : (Nat → Int32) × Int32} (h : ∃ k : Nat, k ≤ 600 ∧ x.2 = nI k) (hc : ¬ 6 * n ≤ x.2) : vp_in x.2 600 ∧ vp_in (x.2 + 6) 600 := by
  obtain ⟨k, hk, e⟩ := rx_k hn h hc
  rw [e, show nI k + 6 = nI (k + 6) from nI_add k 6]
  exact ⟨vp_in_nI (by omega) (by decide), vp_in_nI (by omega) (by decide)⟩
theorem m_le {a : Int32} (h : vp_in a 100) : a ≤ 100 := by
  obtain ⟨j, hj, rfl⟩ := vp_in_of h (by decide)
  exact nI_le (b := 100) (by omega) (by decide)
def mv_po (n : Int32) : Int32 := if n ≤ 0 then 0 else 1
