def vOk (w a b : Int32) : Prop := ((w = 0 ∨ w = 1) → vp_in a 10) ∧ (w = 2 → ¬ b = 0) ∧ ((w = 4 ∨ w = 5) → kOk a) ∧ (w = 4 → vp_in b 10)
def lgv (E : Nat → Int32) (n : Int32) : Prop := ∀ i : Nat, i < cl n → vOk (E (6 * i + 1)) (E (6 * i + 2)) (E (6 * i + 3))
theorem bg_at (m : Nat → Int32) : mr_bg m 0 = 1 ∧ mr_bg m 1 = 2 ∧ mr_bg m 7 = 3 ∧ mr_bg m 11 = 4 ∧ mr_bg m 15 = 5 ∧ mr_bg m 3 = 25 := by
  have e : mr_bg m = mr_bs 2 (mr_bs 1 (mr_bs 0 (mr_bi m))) := rfl
  rw [e]
  refine ⟨?_, ?_, ?_, ?_, ?_, ?_⟩ <;> simp only [mr_bs, mr_bi, upd_ne, upd_eq, Nat.reduceBEq, Nat.reduceMul, Nat.reduceAdd] <;> decide
theorem okm_bg (m : Nat → Int32) : okm (mr_bg m) := by
  obtain ⟨a, b, c, d, e, f⟩ := bg_at m
  unfold okm
  rw [a, b, c, d, e, f]
  exact ⟨vpd (by decide) (by decide), vpd (by decide) (by decide), vpd (by decide) (by decide), vpd (by decide) (by decide), vpd (by decide) (by decide), by decide⟩
theorem okm_up {m : Nat → Int32} (h : okm m) (i : Nat) (v : Int32) (h0 : i = 0 ∨ i = 1 ∨ i = 7 ∨ i = 11 ∨ i = 15 → vp_in v 10) (h3 : i = 3 → ¬ v = 0) : okm (upd m i v) := by
  obtain ⟨a, b, c, d, e, f⟩ := h
  refine ⟨?_, ?_, ?_, ?_, ?_, ?_⟩ <;> unfold upd <;> split <;> first | assumption | (apply h0; omega) | (apply h3; omega)
theorem kx_v {a : Int32} (h : kOk a) : (kx a 0 = 7 ∧ kx a 1 = 8 ∧ kx a 2 = 9 ∧ kx a 3 = 10) ∨ (kx a 0 = 11 ∧ kx a 1 = 12 ∧ kx a 2 = 13 ∧ kx a 3 = 14) ∨ (kx a 0 = 15 ∧ kx a 1 = 16 ∧ kx a 2 = 17 ∧ kx a 3 = 18) := by
  obtain ⟨j, hj, rfl⟩ := vp_in_of h (by decide)
  rcases (show j = 0 ∨ j = 1 ∨ j = 2 by omega) with rfl | rfl | rfl
  · exact Or.inl (by decide)
  · exact Or.inr (Or.inl (by decide))
  · exact Or.inr (Or.inr (by decide))
theorem okm_ds {m : Nat → Int32} (h : okm m) {w a b : Int32} (c d : Int32) (hv : vOk w a b) : okm (mr_ds m w a b c d) := by
  obtain ⟨v1, v2, v3, v4⟩ := hv
  unfold mr_ds
  split
  · exact h
  · split
    · rename_i e; exact okm_up h 0 a (fun _ => v1 (Or.inl e)) (by omega)
    · split
      · rename_i e; exact okm_up h 1 a (fun _ => v1 (Or.inr e)) (by omega)
      · split
        · rename_i e; exact okm_up (okm_up h 2 a (by omega) (by omega)) 3 b (by omega) (fun _ => v2 e)
        · split
          · exact okm_up h 4 a (by omega) (by omega)
          · split
            · rename_i e
              have hk := kx_v (v3 (Or.inl e))
              exact okm_up (okm_up (okm_up h _ _ (fun _ => v4 e) (by omega)) _ _ (by omega) (by omega)) _ _ (by omega) (by omega)
            · split
              · rename_i e
                have hk := kx_v (v3 (Or.inr e))
                exact okm_up h _ _ (by omega) (by omega)
              · split
                · exact okm_cp h
                · split
                  · exact okm_up h 6 0 (by omega) (by omega)
                  · split
                    · unfold mr_mv
                      split
                      · exact okm_cp (okm_up h 5 a (by omega) (by omega))
                      · exact okm_up h 5 a (by omega) (by omega)
                    · exact okm_up h 19 _ (by omega) (by omega)
def daC (E : Nat → Int32) (n t : Int32) (x : (Nat → Int32) × Int32) : Bool := if n ≤ x.2 then false else if E (6 * cl x.2) = t then true else false
def daB (E : Nat → Int32) (wo : Int32) (x : (Nat → Int32) × Int32) : (Nat → Int32) × Int32 := (if x.2 = wo then x.1 else mr_ds x.1 (E (6 * cl x.2 + 1)) (E (6 * cl x.2 + 2)) (E (6 * cl x.2 + 3)) (E (6 * cl x.2 + 4)) (E (6 * cl x.2 + 5)), x.2 + 1)
def daX (E : Nat → Int32) (n t wo : Int32) (m : Nat → Int32) (k : Int32) : (Nat → Int32) × Int32 := lw (daC E n t) (daB E wo) 101 (m, k)
theorem da_in {n x : Int32} (hn : n ≤ 100) (h : ¬ x < 0) (h2 : ¬ n ≤ x) : vp_in x 100 := by
  rcases pk_ix x (n := 100) (by decide) with h1 | h1 | ⟨j, hj, rfl⟩
  · exact absurd h1 h
  · exact absurd (Int32.le_trans hn h1) h2
  · exact vp_in_nI hj (by decide)
theorem da_c {E : Nat → Int32} {n t : Int32} {x : (Nat → Int32) × Int32} (h : daC E n t x = true) : ¬ n ≤ x.2 := fun e => by unfold daC at h; rw [if_pos e] at h; cases h
theorem da_x {n x : Int32} (hn : n ≤ 100) (h : ¬ x < 0) (h2 : ¬ n ≤ x) : ∃ k : Nat, k < 100 ∧ k < cl n ∧ x = nI k := by
  obtain ⟨k, hk, rfl⟩ := vp_in_of (da_in hn h h2) (by decide)
  refine ⟨k, hk, ?_, rfl⟩
  rcases pk_ix n (n := 101) (by decide) with h1 | h1 | ⟨j, hj, rfl⟩
  · exact absurd (Int32.le_of_lt (Int32.lt_of_lt_of_le h1 (nI_pos' (by omega)))) h2
  · exact absurd (Int32.le_trans h1 hn) (by decide)
  · rw [show cl (nI j) = j from nI_clamp (by omega)]
    rcases Nat.lt_or_ge k j with q | q
    · exact q
    · exact absurd (nI_le q (by omega)) h2
theorem da_stop (E : Nat → Int32) {n : Int32} (t wo : Int32) (m : Nat → Int32) {k : Int32} (hn : n ≤ 100) (hk : ¬ k < 0) : daC E n t (daX E n t wo m k) = false := by
  refine lw_stop (fun x => ¬ x.2 < 0) (fun x => 100 - x.2.toNatClampNeg) ?_ ?_ 101 _ hk (by show 100 - _ < 101; omega)
  · intro x hx hc
    obtain ⟨j, hj, -, e⟩ := da_x hn hx (da_c hc)
    show ¬ x.2 + 1 < 0
    rw [e, nI_1]; exact nI_pos (by omega)
  · intro x hx hc
    obtain ⟨j, hj, -, e⟩ := da_x hn hx (da_c hc)
    show 100 - (x.2 + 1).toNatClampNeg < 100 - x.2.toNatClampNeg
    rw [e, nI_1, nI_clamp (by omega), nI_clamp (by omega)]; omega
theorem da_nn1 {x : (Nat → Int32) × Int32} {n : Int32} {E : Nat → Int32} {wo : Int32} (hn : n ≤ 100) (hx : ¬ x.2 < 0) (h2 : ¬ n ≤ x.2) : ¬ (daB E wo x).2 < 0 := by
  obtain ⟨j, hj, -, e⟩ := da_x hn hx h2
  show ¬ x.2 + 1 < 0
  rw [e, nI_1]; exact nI_pos (by omega)
theorem da_ok1 {x : (Nat → Int32) × Int32} {n : Int32} {E : Nat → Int32} {wo : Int32} (hn : n ≤ 100) (hv : lgv E n) (hx : ¬ x.2 < 0) (h2 : ¬ n ≤ x.2) (h : okm x.1) : okm (daB E wo x).1 := by
  obtain ⟨j, hj, hj2, e⟩ := da_x hn hx h2
  show okm (if x.2 = wo then x.1 else _)
  split
  · exact h
  · rw [e, show cl (nI j) = j from nI_clamp (by omega)]
    exact okm_ds h _ _ (hv j hj2)
theorem da_all {E : Nat → Int32} {n t wo : Int32} (hn : n ≤ 100) (hv : lgv E n) : ∀ (q : Nat) (x : (Nat → Int32) × Int32), ¬ x.2 < 0 → okm x.1 → ¬ (lw (daC E n t) (daB E wo) q x).2 < 0 ∧ okm (lw (daC E n t) (daB E wo) q x).1
  | 0, x, h1, h2 => ⟨h1, h2⟩
  | q + 1, x, h1, h2 => by
    cases hc : daC E n t x with
    | false => rw [lw_f hc]; exact ⟨h1, h2⟩
    | true => rw [lw_t hc]; exact da_all hn hv q _ (da_nn1 hn h1 (da_c hc)) (da_ok1 hn hv h1 (da_c hc) h2)
def gtC (T : Int32) (x : (Nat → Int32) × Int32 × Int32 × Int32) : Bool := if T < x.2.2.2 then false else true
def gtB (E : Nat → Int32) (n wo : Int32) (x : (Nat → Int32) × Int32 × Int32 × Int32) : (Nat → Int32) × Int32 × Int32 × Int32 := ((daX E n x.2.2.2 wo (mr_fr x.1) x.2.2.1).1, mv_fn x.1 x.2.1, (daX E n x.2.2.2 wo (mr_fr x.1) x.2.2.1).2, x.2.2.2 + 1)
def gtX (E : Nat → Int32) (n T wo : Int32) (m : Nat → Int32) : (Nat → Int32) × Int32 × Int32 × Int32 := lw (gtC T) (gtB E n wo) 5001 ((daX E n 0 wo (mr_bg m) 0).1, 0, (daX E n 0 wo (mr_bg m) 0).2, 1)
theorem gt_stop (E : Nat → Int32) (n T wo : Int32) (m : Nat → Int32) (hT : T ≤ 5000) : gtC T (gtX E n T wo m) = false := by
  have key : ∀ x : (Nat → Int32) × Int32 × Int32 × Int32, (∃ k : Nat, k ≤ 5001 ∧ x.2.2.2 = nI k) → gtC T x = true → ∃ k : Nat, k < 5001 ∧ x.2.2.2 = nI k := by
    intro x ⟨k, hk, e⟩ hc
    rcases Nat.lt_or_ge k 5001 with h | h
    · exact ⟨k, h, e⟩
    · exfalso
      have : k = 5001 := by omega
      subst this
      unfold gtC at hc
      rw [e, if_pos (Int32.lt_of_le_of_lt hT (by decide))] at hc
      cases hc
  refine lw_stop (fun x => ∃ k : Nat, k ≤ 5001 ∧ x.2.2.2 = nI k) (fun x => 5001 - x.2.2.2.toNatClampNeg) ?_ ?_ 5001 _ ⟨1, by omega, rfl⟩ (by show 5001 - (1 : Int32).toNatClampNeg < 5001; decide)
  · intro x hx hc
    obtain ⟨k, hk, e⟩ := key x hx hc
    exact ⟨k + 1, by omega, by show x.2.2.2 + 1 = _; rw [e, nI_1]⟩
  · intro x hx hc
    obtain ⟨k, hk, e⟩ := key x hx hc
    show 5001 - (x.2.2.2 + 1).toNatClampNeg < 5001 - x.2.2.2.toNatClampNeg
    rw [e, nI_1, nI_clamp (by omega), nI_clamp (by omega)]
    omega
theorem gt_ok1 {E : Nat → Int32} {n wo : Int32} (hn : n ≤ 100) (hv : lgv E n) {x : (Nat → Int32) × Int32 × Int32 × Int32} (h : okm x.1 ∧ ¬ x.2.2.1 < 0) : okm (gtB E n wo x).1 ∧ ¬ (gtB E n wo x).2.2.1 < 0 :=
  have q := da_all (t := x.2.2.2) (wo := wo) hn hv 101 (mr_fr x.1, x.2.2.1) h.2 (okm_fr h.1)
  ⟨q.2, q.1⟩
theorem gt_0 {E : Nat → Int32} {n wo : Int32} (m : Nat → Int32) (hn : n ≤ 100) (hv : lgv E n) : okm (daX E n 0 wo (mr_bg m) 0).1 ∧ ¬ (daX E n 0 wo (mr_bg m) 0).2 < 0 :=
  have q := da_all (t := 0) (wo := wo) hn hv 101 (mr_bg m, 0) (show ¬ (0 : Int32) < 0 by decide) (okm_bg m)
  ⟨q.2, q.1⟩
theorem gt_all {E : Nat → Int32} {n T wo : Int32} (hn : n ≤ 100) (hv : lgv E n) : ∀ (q : Nat) (x : (Nat → Int32) × Int32 × Int32 × Int32), okm x.1 ∧ ¬ x.2.2.1 < 0 → okm (lw (gtC T) (gtB E n wo) q x).1 ∧ ¬ (lw (gtC T) (gtB E n wo) q x).2.2.1 < 0
  | 0, x, h => h
  | q + 1, x, h => by
    cases hc : gtC T x with
    | false => rw [lw_f hc]; exact h
    | true => rw [lw_t hc]; exact gt_all hn hv q _ (gt_ok1 hn hv h)
theorem gt_okm {E : Nat → Int32} {n : Int32} (T wo : Int32) (m : Nat → Int32) (hn : n ≤ 100) (hv : lgv E n) : okm (gtX E n T wo m).1 := by
  have h := gt_all (T := T) (wo := wo) hn hv 5001 ((daX E n 0 wo (mr_bg m) 0).1, 0, (daX E n 0 wo (mr_bg m) 0).2, 1) (gt_0 m hn hv)
  unfold gtX
  exact h.1
def mv_it (t c : Int32) : Int32 := mv_in t.toInt64 0 c.toInt64
theorem in_le {v h : Int32} {lo : Int64} (hg : ¬ mv_in v.toInt64 lo h.toInt64 = 0) : v ≤ h := by
  have h1 : ¬ lg_cmp v.toInt64 lo < 0 := fun e => hg (by unfold mv_in; rw [if_pos e])
  have h2 : ¬ 0 < lg_cmp v.toInt64 h.toInt64 := fun e => hg (by unfold mv_in; rw [if_neg h1, if_pos e])
  rcases Int.lt_or_le h.toInt v.toInt with q | q
  · exfalso; apply h2; unfold lg_cmp
    have e1 : v.toInt64 > h.toInt64 := by show h.toInt64 < v.toInt64; rw [Int64.lt_iff_toInt_lt, Int32.toInt_toInt64, Int32.toInt_toInt64]; exact q
    rw [if_pos e1]; decide
  · exact Int32.le_iff_toInt_le.mpr q
def mv_ia (a n : Int32) : Int32 := mv_in a.toInt64 0 (n.toInt64 - 1)
theorem ia_in {a n : Int32} (hn : n ≤ 100) (hg : ¬ mv_ia a n = 0) : vp_in a 100 ∧ a < n := by
  unfold mv_ia at hg
  have h1 : ¬ lg_cmp a.toInt64 0 < 0 := fun e => hg (by unfold mv_in; rw [if_pos e])
  have h2 : ¬ 0 < lg_cmp a.toInt64 (n.toInt64 - 1) := fun e => hg (by unfold mv_in; rw [if_neg h1, if_pos e])
  have hn2 : n.toInt ≤ 100 := Int32.le_iff_toInt_le.mp hn
  have hb := n.le_toInt
  have a1 : 0 ≤ a.toInt := by
    rcases Int.lt_or_le a.toInt 0 with q | q
    · exfalso; apply h1; unfold lg_cmp
      have e1 : a.toInt64 < 0 := by rw [Int64.lt_iff_toInt_lt, Int32.toInt_toInt64]; exact q
      rw [if_neg (fun e => absurd (Int64.lt_trans e e1) (Int64.lt_irrefl)), if_neg (fun e => absurd (e ▸ e1) (Int64.lt_irrefl))]; decide
    · exact q
  have e3 : (n.toInt64 - 1).toInt = n.toInt - 1 := by
    rw [Int64.toInt_sub, Int32.toInt_toInt64]
    exact Int.bmod_eq_of_le (by show -(2 ^ 64 / 2) ≤ n.toInt - 1; omega) (by show n.toInt - 1 < (2 ^ 64 + 1) / 2; omega)
  have a2 : a.toInt ≤ n.toInt - 1 := by
    rcases Int.lt_or_le (n.toInt - 1) a.toInt with q | q
    · exfalso; apply h2; unfold lg_cmp
      have e1 : a.toInt64 > n.toInt64 - 1 := by show n.toInt64 - 1 < a.toInt64; rw [Int64.lt_iff_toInt_lt, Int32.toInt_toInt64, e3]; exact q
      rw [if_pos e1]; decide
    · exact q
  exact ⟨vp_in_iff.mpr ⟨a1, by omega⟩, Int32.lt_iff_toInt_lt.mpr (by omega)⟩
theorem aw_in {a w : Int32} (ha : vp_in a 100) (hw : vp_in w 4) : vp_in (6 * a + w) 600 := by
  obtain ⟨j, hj, rfl⟩ := vp_in_of hw (by decide)
  exact (ix6 ha j (by omega)).1
def rxC (n : Int32) (x : (Nat → Int32) × Int32) : Bool := if 6 * n ≤ x.2 then false else true
def rxB (x : (Nat → Int32) × Int32) : (Nat → Int32) × Int32 := (upd x.1 (cl x.2) (x.1 (cl (x.2 + 6))), x.2 + 1)
def rxX (E : Nat → Int32) (n a : Int32) : (Nat → Int32) × Int32 := lw (rxC n) rxB 601 (E, 6 * a)
theorem rx_k {n : Int32} (hn : vp_in n 100) {x : (Nat → Int32) × Int32} (h : ∃ k : Nat, k ≤ 600 ∧ x.2 = nI k) (hc : ¬ 6 * n ≤ x.2) : ∃ k : Nat, k < 594 ∧ x.2 = nI k := by
  obtain ⟨k, hk, e⟩ := h
  obtain ⟨j, hj, rfl⟩ := vp_in_of hn (by decide)
  rw [e, show (6 : Int32) * nI j = nI (6 * j) from nI_muln 6 j] at hc
  rcases Nat.lt_or_ge k (6 * j) with q | q
  · exact ⟨k, by omega, e⟩
  · exact absurd (nI_le q (by omega)) hc
theorem rx_c {n : Int32} {x : (Nat → Int32) × Int32} (h : rxC n x = true) : ¬ 6 * n ≤ x.2 := fun e => by unfold rxC at h; rw [if_pos e] at h; cases h
theorem rx_0 {E : Nat → Int32} {a : Int32} (ha : vp_in a 100) : ∃ k : Nat, k ≤ 600 ∧ (E, 6 * a).2 = nI k := by
  obtain ⟨j, hj, rfl⟩ := vp_in_of ha (by decide)
  exact ⟨6 * j, by omega, nI_muln 6 j⟩
theorem rx_1 {n : Int32} (hn : vp_in n 100) {x : (Nat → Int32) × Int32} (h : ∃ k : Nat, k ≤ 600 ∧ x.2 = nI k) (hc : ¬ 6 * n ≤ x.2) : ∃ k : Nat, k ≤ 600 ∧ (rxB x).2 = nI k := by
  obtain ⟨k, hk, e⟩ := rx_k hn h hc
  exact ⟨k + 1, by omega, by show x.2 + 1 = _; rw [e, nI_1]⟩
theorem rx_stop (E : Nat → Int32) {n a : Int32} (hn : vp_in n 100) (ha : vp_in a 100) : rxC n (rxX E n a) = false := by
  refine lw_stop (fun x => ∃ k : Nat, k ≤ 600 ∧ x.2 = nI k) (fun x => 600 - x.2.toNatClampNeg) ?_ ?_ 601 _ (rx_0 ha) (by show 600 - _ < 601; omega)
  · intro x hx hc
    exact rx_1 hn hx (rx_c hc)
  · intro x hx hc
    obtain ⟨k, hk, e⟩ := rx_k hn hx (rx_c hc)
    show 600 - (x.2 + 1).toNatClampNeg < 600 - x.2.toNatClampNeg
    rw [e, nI_1, nI_clamp (by omega), nI_clamp (by omega)]; omega
theorem rx_i {n : Int32} (hn : vp_in n 100) {x : (Nat → Int32) × Int32} (h : ∃ k : Nat, k ≤ 600 ∧ x.2 = nI k) (hc : ¬ 6 * n ≤ x.2) : vp_in x.2 600 ∧ vp_in (x.2 + 6) 600 := by
  obtain ⟨k, hk, e⟩ := rx_k hn h hc
  rw [e, show nI k + 6 = nI (k + 6) from nI_add k 6]
  exact ⟨vp_in_nI (by omega) (by decide), vp_in_nI (by omega) (by decide)⟩
theorem m_le {a : Int32} (h : vp_in a 100) : a ≤ 100 := by
  obtain ⟨j, hj, rfl⟩ := vp_in_of h (by decide)
  exact nI_le (b := 100) (by omega) (by decide)
def mv_po (n : Int32) : Int32 := if n ≤ 0 then 0 else 1
set_option maxHeartbeats 4000000 in
set_option maxRecDepth 100000 in
theorem k_X6_doesAll (l : Launch) (D : va_G) {cI : ClassId} {tys : List (ClassId × FieldType)} (ht0 : tys[0]? = some (cI, .int)) (aS : Nat → Nat) (S : Nat → Nat → Int32) (t : Int32) (wo : Int32) (h_n : (S 0 1) ≤ 100) (h_v : lgv (S 3) (S 0 1)) (h_u : ¬ (S 0 4) < 0) (sz : Nat) : kV l yX6_doesAll cX6_doesAll 5 none { frames := 4, cells := 0, slots := 0, locals := 91 } D tys [.ref (aS 0), .int t, .int wo] (wMd cI aS S) (wMdR cI aS (S 0 0) (S 0 1) (S 0 2) (S 0 3) ((daX (S 3) (S 0 1) t wo (S 1) (S 0 4)).2) (S 0 5) (S 0 6) (S 0 7) (S 0 8) (S 0 9) (S 0 10) (S 0 11) (S 0 12) ((daX (S 3) (S 0 1) t wo (S 1) (S 0 4)).1) (S 2) (S 3) (S 4) (S 5) (S 6)) 0 0 sz := by
  refine y_enterV (cc := cX6_doesAll) (maxL := 5) (ret := none) (own := RX6) (by decide) rfl (lv0 := [(0, .ref (aS 0)), (1, .int t), (2, .int wo)]) rfl (Nat.le_of_ble_eq_true rfl) ?_
  intro p e s m args below meth c A Z hr hlk _
  have L0 : ∀ (n : Nat) (x : (Nat → Int32) × Int32), ¬ x.2 < 0 → (daC (S 3) (S 0 1) t) (lw (daC (S 3) (S 0 1) t) (daB (S 3) wo) n x) = false → lw (daC (S 3) (S 0 1) t) (daB (S 3) wo) n x = (lw (daC (S 3) (S 0 1) t) (daB (S 3) wo) 101 (S 1, S 0 4)) → Yy p l e { frames := 4, cells := 0, slots := 0, locals := 91 } s m args below meth c (QV D tys A (wMdR cI aS (S 0 0) (S 0 1) (S 0 2) (S 0 3) ((daX (S 3) (S 0 1) t wo (S 1) (S 0 4)).2) (S 0 5) (S 0 6) (S 0 7) (S 0 8) (S 0 9) (S 0 10) (S 0 11) (S 0 12) ((daX (S 3) (S 0 1) t wo (S 1) (S 0 4)).1) (S 2) (S 3) (S 4) (S 5) (S 6)) below args s 0 0) D A 5 0 0 (wMdR cI aS (S 0 0) (S 0 1) (S 0 2) (S 0 3) x.2 (S 0 5) (S 0 6) (S 0 7) (S 0 8) (S 0 9) (S 0 10) (S 0 11) (S 0 12) x.1 (S 2) (S 3) (S 4) (S 5) (S 6)) [(0, .ref (aS 0)), (1, .int t), (2, .int wo)] [] 0 := by
    intro n; induction n with
    | zero =>
      intro x hI hc hx
      refine y_aload_n Z dX6_doesAll_0 0 rfl rfl ?_
      refine y_get (C := RX6) (T := TX6) (N := 19) Z 6 inlX6 rfl 0 rfl 8 (by decide) fl_RX6_150 rfl dX6_doesAll_1 ?_
      refine y_aload_n Z dX6_doesAll_4 0 rfl rfl ?_
      refine y_get (C := RX6) (T := TX6) (N := 19) Z 6 inlX6 rfl 0 rfl 4 (by decide) fl_RX6_68 rfl dX6_doesAll_5 ?_
      refine y_icmp_ge (tgt := 106) Z dX6_doesAll_8 (by decide) (fun h1 => ?_) (fun h2 => ?_)
      · have hb : (daC (S 3) (S 0 1) t) x = false := by simp only [daC, h1, ↓reduceIte]
        have ex : x = (lw (daC (S 3) (S 0 1) t) (daB (S 3) wo) 101 (S 1, S 0 4)) := by rw [← hx, lw_f hb]
        exact y_retV Z hr hlk dX6_doesAll_106 (by subst ex; first | (simp only [daX, h1, if_true, if_false, not_false_eq_true, not_true_eq_false, ↓reduceIte]; done) | (simp only [daX, h1, if_true, if_false, not_false_eq_true, not_true_eq_false, ↓reduceIte, wMix, wLog, wPic, wRep, wScr, wVM, wMd, sR_eq, sR_ne, sF_eq, sF_ne, upd_eq, upd_ne, gs_eq, gs_ne, gm_4, gm_ne, Nat.reduceBEq]; done) | (with_reducible rfl) | contradiction | (simp only [daX, h1, if_true, if_false, not_false_eq_true, not_true_eq_false, ↓reduceIte]; rfl) | rfl)
      · refine y_aload_n Z dX6_doesAll_11 0 rfl rfl ?_
        refine y_get (C := RX6) (T := TX6) (N := 19) Z 6 inlX6 rfl 0 rfl 3 (by decide) fl_RX6_16 rfl dX6_doesAll_12 ?_
        refine y_bipush (v := 6) Z dX6_doesAll_15 (by decide) ?_
        refine y_aload_n Z dX6_doesAll_17 0 rfl rfl ?_
        refine y_get (C := RX6) (T := TX6) (N := 19) Z 6 inlX6 rfl 0 rfl 8 (by decide) fl_RX6_150 rfl dX6_doesAll_18 ?_
        refine y_imul Z dX6_doesAll_21 ?_
        refine y_iald Z 3 0 rfl ht0 (ix60 (da_in h_n hI (by assumption))).1 (6 * cl x.2) (ix60 (da_in h_n hI (by assumption))).2 dX6_doesAll_22 ?_
        refine y_iload_n Z dX6_doesAll_23 1 rfl rfl ?_
        refine y_icmp_ne (tgt := 106) Z dX6_doesAll_24 (by decide) (fun h3 => ?_) (fun h4 => ?_)
        · have hb : (daC (S 3) (S 0 1) t) x = false := by simp only [daC, h2, h3, ↓reduceIte]
          have ex : x = (lw (daC (S 3) (S 0 1) t) (daB (S 3) wo) 101 (S 1, S 0 4)) := by rw [← hx, lw_f hb]
          exact y_retV Z hr hlk dX6_doesAll_106 (by subst ex; first | (simp only [daX, h2, h3, if_true, if_false, not_false_eq_true, not_true_eq_false, ↓reduceIte]; done) | (simp only [daX, h2, h3, if_true, if_false, not_false_eq_true, not_true_eq_false, ↓reduceIte, wMix, wLog, wPic, wRep, wScr, wVM, wMd, sR_eq, sR_ne, sF_eq, sF_ne, upd_eq, upd_ne, gs_eq, gs_ne, gm_4, gm_ne, Nat.reduceBEq]; done) | (with_reducible rfl) | contradiction | (simp only [daX, h2, h3, if_true, if_false, not_false_eq_true, not_true_eq_false, ↓reduceIte]; rfl) | rfl)
        · exact absurd (show (daC (S 3) (S 0 1) t) x = true by simp only [daC, h2, eq_true h4, ↓reduceIte]) (by rw [show (daC (S 3) (S 0 1) t) x = false from hc]; decide)
    | succ n ih =>
      intro x hI hc hx
      refine y_aload_n Z dX6_doesAll_0 0 rfl rfl ?_
      refine y_get (C := RX6) (T := TX6) (N := 19) Z 6 inlX6 rfl 0 rfl 8 (by decide) fl_RX6_150 rfl dX6_doesAll_1 ?_
      refine y_aload_n Z dX6_doesAll_4 0 rfl rfl ?_
      refine y_get (C := RX6) (T := TX6) (N := 19) Z 6 inlX6 rfl 0 rfl 4 (by decide) fl_RX6_68 rfl dX6_doesAll_5 ?_
      refine y_icmp_ge (tgt := 106) Z dX6_doesAll_8 (by decide) (fun h5 => ?_) (fun h6 => ?_)
      · have hb : (daC (S 3) (S 0 1) t) x = false := by simp only [daC, h5, ↓reduceIte]
        have ex : x = (lw (daC (S 3) (S 0 1) t) (daB (S 3) wo) 101 (S 1, S 0 4)) := by rw [← hx, lw_f hb]
        exact y_retV Z hr hlk dX6_doesAll_106 (by subst ex; first | (simp only [daX, h5, if_true, if_false, not_false_eq_true, not_true_eq_false, ↓reduceIte]; done) | (simp only [daX, h5, if_true, if_false, not_false_eq_true, not_true_eq_false, ↓reduceIte, wMix, wLog, wPic, wRep, wScr, wVM, wMd, sR_eq, sR_ne, sF_eq, sF_ne, upd_eq, upd_ne, gs_eq, gs_ne, gm_4, gm_ne, Nat.reduceBEq]; done) | (with_reducible rfl) | contradiction | (simp only [daX, h5, if_true, if_false, not_false_eq_true, not_true_eq_false, ↓reduceIte]; rfl) | rfl)
      · refine y_aload_n Z dX6_doesAll_11 0 rfl rfl ?_
        refine y_get (C := RX6) (T := TX6) (N := 19) Z 6 inlX6 rfl 0 rfl 3 (by decide) fl_RX6_16 rfl dX6_doesAll_12 ?_
        refine y_bipush (v := 6) Z dX6_doesAll_15 (by decide) ?_
        refine y_aload_n Z dX6_doesAll_17 0 rfl rfl ?_
        refine y_get (C := RX6) (T := TX6) (N := 19) Z 6 inlX6 rfl 0 rfl 8 (by decide) fl_RX6_150 rfl dX6_doesAll_18 ?_
        refine y_imul Z dX6_doesAll_21 ?_
        refine y_iald Z 3 0 rfl ht0 (ix60 (da_in h_n hI (by assumption))).1 (6 * cl x.2) (ix60 (da_in h_n hI (by assumption))).2 dX6_doesAll_22 ?_
        refine y_iload_n Z dX6_doesAll_23 1 rfl rfl ?_
        refine y_icmp_ne (tgt := 106) Z dX6_doesAll_24 (by decide) (fun h7 => ?_) (fun h8 => ?_)
        · have hb : (daC (S 3) (S 0 1) t) x = false := by simp only [daC, h6, h7, ↓reduceIte]
          have ex : x = (lw (daC (S 3) (S 0 1) t) (daB (S 3) wo) 101 (S 1, S 0 4)) := by rw [← hx, lw_f hb]
          exact y_retV Z hr hlk dX6_doesAll_106 (by subst ex; first | (simp only [daX, h6, h7, if_true, if_false, not_false_eq_true, not_true_eq_false, ↓reduceIte]; done) | (simp only [daX, h6, h7, if_true, if_false, not_false_eq_true, not_true_eq_false, ↓reduceIte, wMix, wLog, wPic, wRep, wScr, wVM, wMd, sR_eq, sR_ne, sF_eq, sF_ne, upd_eq, upd_ne, gs_eq, gs_ne, gm_4, gm_ne, Nat.reduceBEq]; done) | (with_reducible rfl) | contradiction | (simp only [daX, h6, h7, if_true, if_false, not_false_eq_true, not_true_eq_false, ↓reduceIte]; rfl) | rfl)
        · have hb : (daC (S 3) (S 0 1) t) x = true := by simp only [daC, h6, eq_true h8, ↓reduceIte]
          refine y_bipush (v := 6) Z dX6_doesAll_27 (by decide) ?_
          refine y_aload_n Z dX6_doesAll_29 0 rfl rfl ?_
          refine y_get (C := RX6) (T := TX6) (N := 19) Z 6 inlX6 rfl 0 rfl 8 (by decide) fl_RX6_150 rfl dX6_doesAll_30 ?_
          refine y_imul Z dX6_doesAll_33 ?_
          refine y_istore_n Z [(3, .int (6 * x.2)), (0, .ref (aS 0)), (1, .int t), (2, .int wo)] dX6_doesAll_34 rfl (by decide) rfl ?_
          refine y_aload_n Z dX6_doesAll_35 1 rfl rfl ?_
          refine y_get (C := RX6) (T := TX6) (N := 19) Z 6 inlX6 rfl 0 rfl 8 (by decide) fl_RX6_150 rfl dX6_doesAll_36 ?_
          refine y_iload_n Z dX6_doesAll_39 3 rfl rfl ?_
          refine y_icmp_ne (tgt := 47) Z dX6_doesAll_40 (by decide) (fun h9 => ?_) (fun h10 => ?_)
          · refine y_aload_n Z dX6_doesAll_47 1 rfl rfl ?_
            refine y_aload_n Z dX6_doesAll_48 1 rfl rfl ?_
            refine y_get (C := RX6) (T := TX6) (N := 19) Z 6 inlX6 rfl 0 rfl 3 (by decide) fl_RX6_16 rfl dX6_doesAll_49 ?_
            refine y_iload_n Z dX6_doesAll_52 0 rfl rfl ?_
            refine y_iconst (v := 1) Z dX6_doesAll_53 (by decide) ?_
            refine y_iadd Z dX6_doesAll_54 ?_
            refine y_iald Z 3 0 rfl ht0 (ix6 (da_in h_n hI (by assumption)) 1 (by decide)).1 (6 * cl x.2 + 1) (ix6 (da_in h_n hI (by assumption)) 1 (by decide)).2 dX6_doesAll_55 ?_
            refine y_aload_n Z dX6_doesAll_56 1 rfl rfl ?_
            refine y_get (C := RX6) (T := TX6) (N := 19) Z 6 inlX6 rfl 0 rfl 3 (by decide) fl_RX6_16 rfl dX6_doesAll_57 ?_
            refine y_iload_n Z dX6_doesAll_60 0 rfl rfl ?_
            refine y_iconst (v := 2) Z dX6_doesAll_61 (by decide) ?_
            refine y_iadd Z dX6_doesAll_62 ?_
            refine y_iald Z 3 0 rfl ht0 (ix6 (da_in h_n hI (by assumption)) 2 (by decide)).1 (6 * cl x.2 + 2) (ix6 (da_in h_n hI (by assumption)) 2 (by decide)).2 dX6_doesAll_63 ?_
            refine y_aload_n Z dX6_doesAll_64 1 rfl rfl ?_
            refine y_get (C := RX6) (T := TX6) (N := 19) Z 6 inlX6 rfl 0 rfl 3 (by decide) fl_RX6_16 rfl dX6_doesAll_65 ?_
            refine y_iload_n Z dX6_doesAll_68 0 rfl rfl ?_
            refine y_iconst (v := 3) Z dX6_doesAll_69 (by decide) ?_
            refine y_iadd Z dX6_doesAll_70 ?_
            refine y_iald Z 3 0 rfl ht0 (ix6 (da_in h_n hI (by assumption)) 3 (by decide)).1 (6 * cl x.2 + 3) (ix6 (da_in h_n hI (by assumption)) 3 (by decide)).2 dX6_doesAll_71 ?_
            refine y_aload_n Z dX6_doesAll_72 1 rfl rfl ?_
            refine y_get (C := RX6) (T := TX6) (N := 19) Z 6 inlX6 rfl 0 rfl 3 (by decide) fl_RX6_16 rfl dX6_doesAll_73 ?_
            refine y_iload_n Z dX6_doesAll_76 0 rfl rfl ?_
            refine y_iconst (v := 4) Z dX6_doesAll_77 (by decide) ?_
            refine y_iadd Z dX6_doesAll_78 ?_
            refine y_iald Z 3 0 rfl ht0 (ix6 (da_in h_n hI (by assumption)) 4 (by decide)).1 (6 * cl x.2 + 4) (ix6 (da_in h_n hI (by assumption)) 4 (by decide)).2 dX6_doesAll_79 ?_
            refine y_aload_n Z dX6_doesAll_80 1 rfl rfl ?_
            refine y_get (C := RX6) (T := TX6) (N := 19) Z 6 inlX6 rfl 0 rfl 3 (by decide) fl_RX6_16 rfl dX6_doesAll_81 ?_
            refine y_iload_n Z dX6_doesAll_84 0 rfl rfl ?_
            refine y_iconst (v := 5) Z dX6_doesAll_85 (by decide) ?_
            refine y_iadd Z dX6_doesAll_86 ?_
            refine y_iald Z 3 0 rfl ht0 (ix6 (da_in h_n hI (by assumption)) 5 (by decide)).1 (6 * cl x.2 + 5) (ix6 (da_in h_n hI (by assumption)) 5 (by decide)).2 dX6_doesAll_87 ?_
            refine y_VIw Z (k_X6_does l D ht0 aS (sF (sR S 1 x.1) 0 4 x.2) (S 3 (6 * cl x.2 + 1)) (S 3 (6 * cl x.2 + 2)) (S 3 (6 * cl x.2 + 3)) (S 3 (6 * cl x.2 + 4)) (S 3 (6 * cl x.2 + 5)) (fun e => by obtain ⟨j, hj, hj2, ej⟩ := da_x h_n hI (by assumption); rw [ej, show cl (nI j) = j from nI_clamp (by omega)] at e ⊢; exact (h_v j hj2).2.2.1 e)) (y_cwV 5 Z ml_RX6_74 im_X6_does se_X6_does in_X6 co_X6_does rfl rfl hd_X6_does ⟨Nat.le_of_ble_eq_true rfl, Nat.le_of_ble_eq_true rfl⟩) List.nil List.nil (by simp only [List.nil_append, List.append_nil, wMix, wLog, wPic, wRep, wScr, wVM, wMd, sR_eq, sR_ne, sF_eq, sF_ne, upd_eq, upd_ne, gs_eq, gs_ne, gm_4, gm_ne, Nat.reduceBEq]) 6 0 rfl rfl rfl rfl (Nat.le_of_ble_eq_true rfl) dX6_doesAll_88 ⟨Nat.le_of_ble_eq_true rfl, Nat.le_of_ble_eq_true rfl⟩ (wMdR cI aS (S 0 0) (S 0 1) (S 0 2) (S 0 3) x.2 (S 0 5) (S 0 6) (S 0 7) (S 0 8) (S 0 9) (S 0 10) (S 0 11) (S 0 12) (mr_ds x.1 (S 3 (6 * cl x.2 + 1)) (S 3 (6 * cl x.2 + 2)) (S 3 (6 * cl x.2 + 3)) (S 3 (6 * cl x.2 + 4)) (S 3 (6 * cl x.2 + 5))) (S 2) (S 3) (S 4) (S 5) (S 6)) (by simp only [List.nil_append, List.append_nil, wMix, wLog, wPic, wRep, wScr, wVM, wMd, sR_eq, sR_ne, sF_eq, sF_ne, upd_eq, upd_ne, gs_eq, gs_ne, gm_4, gm_ne, Nat.reduceBEq]) ?_
            refine y_eq rfl rfl (st' := [.int (mv_ds x.1 (S 3 (6 * cl x.2 + 1)) (S 3 (6 * cl x.2 + 2)) (S 3 (6 * cl x.2 + 3)) (S 3 (6 * cl x.2 + 4)) (S 3 (6 * cl x.2 + 5)))]) (by first | with_reducible rfl | simp only [wMix, wLog, wPic, wRep, wScr, wVM, wMd, sR_eq, sR_ne, sF_eq, sF_ne, upd_eq, upd_ne, gs_eq, gs_ne, gm_4, gm_ne, Nat.reduceBEq]) ?_
            refine y_istore Z [(4, .int (mv_ds x.1 (S 3 (6 * cl x.2 + 1)) (S 3 (6 * cl x.2 + 2)) (S 3 (6 * cl x.2 + 3)) (S 3 (6 * cl x.2 + 4)) (S 3 (6 * cl x.2 + 5)))), (3, .int (6 * x.2)), (0, .ref (aS 0)), (1, .int t), (2, .int wo)] dX6_doesAll_91 (by decide) rfl ?_
            refine y_aload_n Z dX6_doesAll_93 2 rfl rfl ?_
            refine y_dup Z dX6_doesAll_94 rfl ?_
            refine y_get (C := RX6) (T := TX6) (N := 19) Z 6 inlX6 rfl 0 rfl 8 (by decide) fl_RX6_150 rfl dX6_doesAll_95 ?_
            refine y_iconst (v := 1) Z dX6_doesAll_98 (by decide) ?_
            refine y_iadd Z dX6_doesAll_99 ?_
            refine y_put (C := RX6) (T := TX6) (N := 19) Z 6 inlX6 rfl tyX6 tyX6_ok nmX6 0 rfl 8 (by decide) fl_RX6_150 rfl rfl rfl (Nat.le_of_ble_eq_true rfl) (wMdR cI aS (S 0 0) (S 0 1) (S 0 2) (S 0 3) (x.2 + 1) (S 0 5) (S 0 6) (S 0 7) (S 0 8) (S 0 9) (S 0 10) (S 0 11) (S 0 12) (mr_ds x.1 (S 3 (6 * cl x.2 + 1)) (S 3 (6 * cl x.2 + 2)) (S 3 (6 * cl x.2 + 3)) (S 3 (6 * cl x.2 + 4)) (S 3 (6 * cl x.2 + 5))) (S 2) (S 3) (S 4) (S 5) (S 6)) rfl dX6_doesAll_100 ?_
            refine y_goto (tgt := 0) Z dX6_doesAll_103 (by decide) ?_
            refine y_lv [2, 3, 4] (lv' := [(0, .ref (aS 0)), (1, .int t), (2, .int wo)]) rfl ?_
            refine y_eq (ws' := (wMdR cI aS (S 0 0) (S 0 1) (S 0 2) (S 0 3) (((daB (S 3) wo) x).2) (S 0 5) (S 0 6) (S 0 7) (S 0 8) (S 0 9) (S 0 10) (S 0 11) (S 0 12) (((daB (S 3) wo) x).1) (S 2) (S 3) (S 4) (S 5) (S 6))) (lv' := [(0, .ref (aS 0)), (1, .int t), (2, .int wo)]) (st' := []) (by first | (simp only [daB, h6, eq_true h8, h9, if_true, if_false, not_false_eq_true, not_true_eq_false, ↓reduceIte]; done) | (simp only [daB, h6, eq_true h8, h9, if_true, if_false, not_false_eq_true, not_true_eq_false, ↓reduceIte, wMix, wLog, wPic, wRep, wScr, wVM, wMd, sR_eq, sR_ne, sF_eq, sF_ne, upd_eq, upd_ne, gs_eq, gs_ne, gm_4, gm_ne, Nat.reduceBEq]; done) | (with_reducible rfl) | contradiction | (simp only [daB, h6, eq_true h8, h9, if_true, if_false, not_false_eq_true, not_true_eq_false, ↓reduceIte]; rfl) | rfl) (by first | (simp only [daB, h6, eq_true h8, h9, if_true, if_false, not_false_eq_true, not_true_eq_false, ↓reduceIte]; done) | (simp only [daB, h6, eq_true h8, h9, if_true, if_false, not_false_eq_true, not_true_eq_false, ↓reduceIte, wMix, wLog, wPic, wRep, wScr, wVM, wMd, sR_eq, sR_ne, sF_eq, sF_ne, upd_eq, upd_ne, gs_eq, gs_ne, gm_4, gm_ne, Nat.reduceBEq]; done) | (with_reducible rfl) | contradiction | (simp only [daB, h6, eq_true h8, h9, if_true, if_false, not_false_eq_true, not_true_eq_false, ↓reduceIte]; rfl) | rfl) rfl ?_
            exact ih _ (da_nn1 h_n hI (da_c hb)) (by rw [lw_t hb] at hc; exact hc) (by rw [lw_t hb] at hx; exact hx)
          · refine y_iconst (v := 0) Z dX6_doesAll_43 (by decide) ?_
            refine y_goto (tgt := 91) Z dX6_doesAll_44 (by decide) ?_
            refine y_istore Z [(4, .int 0), (3, .int (6 * x.2)), (0, .ref (aS 0)), (1, .int t), (2, .int wo)] dX6_doesAll_91 (by decide) rfl ?_
            refine y_aload_n Z dX6_doesAll_93 2 rfl rfl ?_
            refine y_dup Z dX6_doesAll_94 rfl ?_
            refine y_get (C := RX6) (T := TX6) (N := 19) Z 6 inlX6 rfl 0 rfl 8 (by decide) fl_RX6_150 rfl dX6_doesAll_95 ?_
            refine y_iconst (v := 1) Z dX6_doesAll_98 (by decide) ?_
            refine y_iadd Z dX6_doesAll_99 ?_
            refine y_put (C := RX6) (T := TX6) (N := 19) Z 6 inlX6 rfl tyX6 tyX6_ok nmX6 0 rfl 8 (by decide) fl_RX6_150 rfl rfl rfl (Nat.le_of_ble_eq_true rfl) (wMdR cI aS (S 0 0) (S 0 1) (S 0 2) (S 0 3) (x.2 + 1) (S 0 5) (S 0 6) (S 0 7) (S 0 8) (S 0 9) (S 0 10) (S 0 11) (S 0 12) x.1 (S 2) (S 3) (S 4) (S 5) (S 6)) rfl dX6_doesAll_100 ?_
            refine y_goto (tgt := 0) Z dX6_doesAll_103 (by decide) ?_
            refine y_lv [2, 3, 4] (lv' := [(0, .ref (aS 0)), (1, .int t), (2, .int wo)]) rfl ?_
            refine y_eq (ws' := (wMdR cI aS (S 0 0) (S 0 1) (S 0 2) (S 0 3) (((daB (S 3) wo) x).2) (S 0 5) (S 0 6) (S 0 7) (S 0 8) (S 0 9) (S 0 10) (S 0 11) (S 0 12) (((daB (S 3) wo) x).1) (S 2) (S 3) (S 4) (S 5) (S 6))) (lv' := [(0, .ref (aS 0)), (1, .int t), (2, .int wo)]) (st' := []) (by first | (simp only [daB, h6, eq_true h8, eq_true h10, if_true, if_false, not_false_eq_true, not_true_eq_false, ↓reduceIte]; done) | (simp only [daB, h6, eq_true h8, eq_true h10, if_true, if_false, not_false_eq_true, not_true_eq_false, ↓reduceIte, wMix, wLog, wPic, wRep, wScr, wVM, wMd, sR_eq, sR_ne, sF_eq, sF_ne, upd_eq, upd_ne, gs_eq, gs_ne, gm_4, gm_ne, Nat.reduceBEq]; done) | (with_reducible rfl) | contradiction | (simp only [daB, h6, eq_true h8, eq_true h10, if_true, if_false, not_false_eq_true, not_true_eq_false, ↓reduceIte]; rfl) | rfl) (by first | (simp only [daB, h6, eq_true h8, eq_true h10, if_true, if_false, not_false_eq_true, not_true_eq_false, ↓reduceIte]; done) | (simp only [daB, h6, eq_true h8, eq_true h10, if_true, if_false, not_false_eq_true, not_true_eq_false, ↓reduceIte, wMix, wLog, wPic, wRep, wScr, wVM, wMd, sR_eq, sR_ne, sF_eq, sF_ne, upd_eq, upd_ne, gs_eq, gs_ne, gm_4, gm_ne, Nat.reduceBEq]; done) | (with_reducible rfl) | contradiction | (simp only [daB, h6, eq_true h8, eq_true h10, if_true, if_false, not_false_eq_true, not_true_eq_false, ↓reduceIte]; rfl) | rfl) rfl ?_
            exact ih _ (da_nn1 h_n hI (da_c hb)) (by rw [lw_t hb] at hc; exact hc) (by rw [lw_t hb] at hx; exact hx)
  exact L0 101 (S 1, S 0 4) h_u (da_stop _ _ _ _ h_n h_u) rfl
set_option maxHeartbeats 4000000 in
set_option maxRecDepth 100000 in
theorem k_X6_goesTo (l : Launch) (D : va_G) {cI : ClassId} {tys : List (ClassId × FieldType)} (ht0 : tys[0]? = some (cI, .int)) (aS : Nat → Nat) (S : Nat → Nat → Int32) (tt : Int32) (wo : Int32) (h_n : (S 0 1) ≤ 100) (h_v : lgv (S 3) (S 0 1)) (h_t : tt ≤ 5000) (sz : Nat) : kV l yX6_goesTo cX6_goesTo 4 none { frames := 5, cells := 0, slots := 0, locals := 115 } D tys [.ref (aS 0), .int tt, .int wo] (wMd cI aS S) (wMdR cI aS (S 0 0) (S 0 1) (S 0 2) ((gtX (S 3) (S 0 1) tt wo (S 1)).2.1) ((gtX (S 3) (S 0 1) tt wo (S 1)).2.2.1) (S 0 5) (S 0 6) (S 0 7) (S 0 8) (S 0 9) (S 0 10) (S 0 11) (S 0 12) ((gtX (S 3) (S 0 1) tt wo (S 1)).1) (S 2) (S 3) (S 4) (S 5) (S 6)) 0 0 sz := by
  refine y_enterV (cc := cX6_goesTo) (maxL := 4) (ret := none) (own := RX6) (by decide) rfl (lv0 := [(0, .ref (aS 0)), (1, .int tt), (2, .int wo)]) rfl (Nat.le_of_ble_eq_true rfl) ?_
  intro p e s m args below meth c A Z hr hlk _
  have L22 : ∀ (n : Nat) (x : (Nat → Int32) × Int32 × Int32 × Int32), okm x.1 ∧ ¬ x.2.2.1 < 0 → (gtC tt) (lw (gtC tt) (gtB (S 3) (S 0 1) wo) n x) = false → lw (gtC tt) (gtB (S 3) (S 0 1) wo) n x = (lw (gtC tt) (gtB (S 3) (S 0 1) wo) 5001 ((daX (S 3) (S 0 1) 0 wo (mr_bg (S 1)) 0).1, 0, (daX (S 3) (S 0 1) 0 wo (mr_bg (S 1)) 0).2, 1)) → Yy p l e { frames := 5, cells := 0, slots := 0, locals := 115 } s m args below meth c (QV D tys A (wMdR cI aS (S 0 0) (S 0 1) (S 0 2) ((gtX (S 3) (S 0 1) tt wo (S 1)).2.1) ((gtX (S 3) (S 0 1) tt wo (S 1)).2.2.1) (S 0 5) (S 0 6) (S 0 7) (S 0 8) (S 0 9) (S 0 10) (S 0 11) (S 0 12) ((gtX (S 3) (S 0 1) tt wo (S 1)).1) (S 2) (S 3) (S 4) (S 5) (S 6)) below args s 0 0) D A 4 0 0 (wMdR cI aS (S 0 0) (S 0 1) (S 0 2) x.2.1 x.2.2.1 (S 0 5) (S 0 6) (S 0 7) (S 0 8) (S 0 9) (S 0 10) (S 0 11) (S 0 12) x.1 (S 2) (S 3) (S 4) (S 5) (S 6)) [(0, .ref (aS 0)), (1, .int tt), (2, .int wo), (3, .int x.2.2.2)] [] 22 := by
    intro n; induction n with
    | zero =>
      intro x hI hc hx
      refine y_iload_n Z dX6_goesTo_22 3 rfl rfl ?_
      refine y_iload_n Z dX6_goesTo_23 1 rfl rfl ?_
      refine y_icmp_gt (tgt := 43) Z dX6_goesTo_24 (by decide) (fun h1 => ?_) (fun h2 => ?_)
      · have hb : (gtC tt) x = false := by simp only [gtC, h1, ↓reduceIte]
        have ex : x = (lw (gtC tt) (gtB (S 3) (S 0 1) wo) 5001 ((daX (S 3) (S 0 1) 0 wo (mr_bg (S 1)) 0).1, 0, (daX (S 3) (S 0 1) 0 wo (mr_bg (S 1)) 0).2, 1)) := by rw [← hx, lw_f hb]
        exact y_retV Z hr hlk dX6_goesTo_43 (by subst ex; first | (simp only [gtX, h1, if_true, if_false, not_false_eq_true, not_true_eq_false, ↓reduceIte]; done) | (simp only [gtX, h1, if_true, if_false, not_false_eq_true, not_true_eq_false, ↓reduceIte, wMix, wLog, wPic, wRep, wScr, wVM, wMd, sR_eq, sR_ne, sF_eq, sF_ne, upd_eq, upd_ne, gs_eq, gs_ne, gm_4, gm_ne, Nat.reduceBEq]; done) | (with_reducible rfl) | contradiction | (simp only [gtX, h1, if_true, if_false, not_false_eq_true, not_true_eq_false, ↓reduceIte]; rfl) | rfl)
      · exact absurd (show (gtC tt) x = true by simp only [gtC, h2, ↓reduceIte]) (by rw [show (gtC tt) x = false from hc]; decide)
    | succ n ih =>
      intro x hI hc hx
      refine y_iload_n Z dX6_goesTo_22 3 rfl rfl ?_
      refine y_iload_n Z dX6_goesTo_23 1 rfl rfl ?_
      refine y_icmp_gt (tgt := 43) Z dX6_goesTo_24 (by decide) (fun h3 => ?_) (fun h4 => ?_)
      · have hb : (gtC tt) x = false := by simp only [gtC, h3, ↓reduceIte]
        have ex : x = (lw (gtC tt) (gtB (S 3) (S 0 1) wo) 5001 ((daX (S 3) (S 0 1) 0 wo (mr_bg (S 1)) 0).1, 0, (daX (S 3) (S 0 1) 0 wo (mr_bg (S 1)) 0).2, 1)) := by rw [← hx, lw_f hb]
        exact y_retV Z hr hlk dX6_goesTo_43 (by subst ex; first | (simp only [gtX, h3, if_true, if_false, not_false_eq_true, not_true_eq_false, ↓reduceIte]; done) | (simp only [gtX, h3, if_true, if_false, not_false_eq_true, not_true_eq_false, ↓reduceIte, wMix, wLog, wPic, wRep, wScr, wVM, wMd, sR_eq, sR_ne, sF_eq, sF_ne, upd_eq, upd_ne, gs_eq, gs_ne, gm_4, gm_ne, Nat.reduceBEq]; done) | (with_reducible rfl) | contradiction | (simp only [gtX, h3, if_true, if_false, not_false_eq_true, not_true_eq_false, ↓reduceIte]; rfl) | rfl)
      · have hb : (gtC tt) x = true := by simp only [gtC, h4, ↓reduceIte]
        refine y_aload_n Z dX6_goesTo_27 0 rfl rfl ?_
        refine y_VVw Z (k_X6_frame l D ht0 aS (sF (sF (sR S 1 x.1) 0 3 x.2.1) 0 4 x.2.2.1) (by first | exact hI.1.2.2.2.2.2 | (simp only [sR_eq, sR_ne, sF_eq, sF_ne, upd_eq, upd_ne, Nat.reduceBEq]; exact hI.1.2.2.2.2.2))) (y_cwV 0 Z ml_RX6_105 im_X6_frame se_X6_frame in_X6 co_X6_frame rfl rfl hd_X6_frame ⟨Nat.le_of_ble_eq_true rfl, Nat.le_of_ble_eq_true rfl⟩) List.nil List.nil (by simp only [List.nil_append, List.append_nil, wMix, wLog, wPic, wRep, wScr, wVM, wMd, sR_eq, sR_ne, sF_eq, sF_ne, upd_eq, upd_ne, gs_eq, gs_ne, gm_4, gm_ne, Nat.reduceBEq]) 6 0 rfl rfl rfl rfl (Nat.le_of_ble_eq_true rfl) dX6_goesTo_28 ⟨Nat.le_of_ble_eq_true rfl, Nat.le_of_ble_eq_true rfl⟩ (wMdR cI aS (S 0 0) (S 0 1) (S 0 2) (mv_fn x.1 x.2.1) x.2.2.1 (S 0 5) (S 0 6) (S 0 7) (S 0 8) (S 0 9) (S 0 10) (S 0 11) (S 0 12) (mr_fr x.1) (S 2) (S 3) (S 4) (S 5) (S 6)) (by simp only [List.nil_append, List.append_nil, wMix, wLog, wPic, wRep, wScr, wVM, wMd, sR_eq, sR_ne, sF_eq, sF_ne, upd_eq, upd_ne, gs_eq, gs_ne, gm_4, gm_ne, Nat.reduceBEq]) ?_
        refine y_aload_n Z dX6_goesTo_31 0 rfl rfl ?_
        refine y_iload_n Z dX6_goesTo_32 3 rfl rfl ?_
        refine y_iload_n Z dX6_goesTo_33 2 rfl rfl ?_
        refine y_VVw Z (k_X6_doesAll l D ht0 aS (sF (sR (sF S 0 4 x.2.2.1) 1 (mr_fr x.1)) 0 3 (mv_fn x.1 x.2.1)) x.2.2.2 wo (by first | exact h_n | (simp only [sR_eq, sR_ne, sF_eq, sF_ne, upd_eq, upd_ne, Nat.reduceBEq]; exact h_n)) (by first | exact h_v | (simp only [sR_eq, sR_ne, sF_eq, sF_ne, upd_eq, upd_ne, Nat.reduceBEq]; exact h_v)) (by first | exact hI.2 | (simp only [sR_eq, sR_ne, sF_eq, sF_ne, upd_eq, upd_ne, Nat.reduceBEq]; exact hI.2))) (y_cwV 2 Z ml_RX6_153 im_X6_doesAll se_X6_doesAll in_X6 co_X6_doesAll rfl rfl hd_X6_doesAll ⟨Nat.le_of_ble_eq_true rfl, Nat.le_of_ble_eq_true rfl⟩) List.nil List.nil (by simp only [List.nil_append, List.append_nil, wMix, wLog, wPic, wRep, wScr, wVM, wMd, sR_eq, sR_ne, sF_eq, sF_ne, upd_eq, upd_ne, gs_eq, gs_ne, gm_4, gm_ne, Nat.reduceBEq]) 6 0 rfl rfl rfl rfl (Nat.le_of_ble_eq_true rfl) dX6_goesTo_34 ⟨Nat.le_of_ble_eq_true rfl, Nat.le_of_ble_eq_true rfl⟩ (wMdR cI aS (S 0 0) (S 0 1) (S 0 2) (mv_fn x.1 x.2.1) ((daX (S 3) (S 0 1) x.2.2.2 wo (mr_fr x.1) x.2.2.1).2) (S 0 5) (S 0 6) (S 0 7) (S 0 8) (S 0 9) (S 0 10) (S 0 11) (S 0 12) ((daX (S 3) (S 0 1) x.2.2.2 wo (mr_fr x.1) x.2.2.1).1) (S 2) (S 3) (S 4) (S 5) (S 6)) (by simp only [List.nil_append, List.append_nil, wMix, wLog, wPic, wRep, wScr, wVM, wMd, sR_eq, sR_ne, sF_eq, sF_ne, upd_eq, upd_ne, gs_eq, gs_ne, gm_4, gm_ne, Nat.reduceBEq]) ?_
        refine y_iinc Z [(3, .int (x.2.2.2 + 1)), (0, .ref (aS 0)), (1, .int tt), (2, .int wo)] dX6_goesTo_37 3 rfl rfl (by decide) rfl ?_
        refine y_goto (tgt := 22) Z dX6_goesTo_40 (by decide) ?_
        refine y_lv [1, 2, 3, 0] (lv' := [(0, .ref (aS 0)), (1, .int tt), (2, .int wo), (3, .int (x.2.2.2 + 1))]) rfl ?_
        refine y_eq (ws' := (wMdR cI aS (S 0 0) (S 0 1) (S 0 2) (((gtB (S 3) (S 0 1) wo) x).2.1) (((gtB (S 3) (S 0 1) wo) x).2.2.1) (S 0 5) (S 0 6) (S 0 7) (S 0 8) (S 0 9) (S 0 10) (S 0 11) (S 0 12) (((gtB (S 3) (S 0 1) wo) x).1) (S 2) (S 3) (S 4) (S 5) (S 6))) (lv' := [(0, .ref (aS 0)), (1, .int tt), (2, .int wo), (3, .int (((gtB (S 3) (S 0 1) wo) x).2.2.2))]) (st' := []) (by first | (simp only [gtB, h4, if_true, if_false, not_false_eq_true, not_true_eq_false, ↓reduceIte]; done) | (simp only [gtB, h4, if_true, if_false, not_false_eq_true, not_true_eq_false, ↓reduceIte, wMix, wLog, wPic, wRep, wScr, wVM, wMd, sR_eq, sR_ne, sF_eq, sF_ne, upd_eq, upd_ne, gs_eq, gs_ne, gm_4, gm_ne, Nat.reduceBEq]; done) | (with_reducible rfl) | contradiction | (simp only [gtB, h4, if_true, if_false, not_false_eq_true, not_true_eq_false, ↓reduceIte]; rfl) | rfl) (by first | (simp only [gtB, h4, if_true, if_false, not_false_eq_true, not_true_eq_false, ↓reduceIte]; done) | (simp only [gtB, h4, if_true, if_false, not_false_eq_true, not_true_eq_false, ↓reduceIte, wMix, wLog, wPic, wRep, wScr, wVM, wMd, sR_eq, sR_ne, sF_eq, sF_ne, upd_eq, upd_ne, gs_eq, gs_ne, gm_4, gm_ne, Nat.reduceBEq]; done) | (with_reducible rfl) | contradiction | (simp only [gtB, h4, if_true, if_false, not_false_eq_true, not_true_eq_false, ↓reduceIte]; rfl) | rfl) rfl ?_
        exact ih _ (gt_ok1 h_n h_v hI) (by rw [lw_t hb] at hc; exact hc) (by rw [lw_t hb] at hx; exact hx)
  refine y_aload_n Z dX6_goesTo_0 0 rfl rfl ?_
  refine y_VVw Z (k_X6_begins l D ht0 aS S) (y_cwV 0 Z ml_RX6_28 im_X6_begins se_X6_begins in_X6 co_X6_begins rfl rfl hd_X6_begins ⟨Nat.le_of_ble_eq_true rfl, Nat.le_of_ble_eq_true rfl⟩) List.nil List.nil (by simp only [List.nil_append, List.append_nil, wMix, wLog, wPic, wRep, wScr, wVM, wMd, sR_eq, sR_ne, sF_eq, sF_ne, upd_eq, upd_ne, gs_eq, gs_ne, gm_4, gm_ne, Nat.reduceBEq]) 6 0 rfl rfl rfl rfl (Nat.le_of_ble_eq_true rfl) dX6_goesTo_1 ⟨Nat.le_of_ble_eq_true rfl, Nat.le_of_ble_eq_true rfl⟩ (wMdR cI aS (S 0 0) (S 0 1) (S 0 2) (S 0 3) (S 0 4) (S 0 5) (S 0 6) (S 0 7) (S 0 8) (S 0 9) (S 0 10) (S 0 11) (S 0 12) (mr_bg (S 1)) (S 2) (S 3) (S 4) (S 5) (S 6)) (by simp only [List.nil_append, List.append_nil, wMix, wLog, wPic, wRep, wScr, wVM, wMd, sR_eq, sR_ne, sF_eq, sF_ne, upd_eq, upd_ne, gs_eq, gs_ne, gm_4, gm_ne, Nat.reduceBEq]) ?_
  refine y_aload_n Z dX6_goesTo_4 0 rfl rfl ?_
  refine y_iconst (v := 0) Z dX6_goesTo_5 (by decide) ?_
  refine y_put (C := RX6) (T := TX6) (N := 19) Z 6 inlX6 rfl tyX6 tyX6_ok nmX6 0 rfl 8 (by decide) fl_RX6_150 rfl rfl rfl (Nat.le_of_ble_eq_true rfl) (wMdR cI aS (S 0 0) (S 0 1) (S 0 2) (S 0 3) 0 (S 0 5) (S 0 6) (S 0 7) (S 0 8) (S 0 9) (S 0 10) (S 0 11) (S 0 12) (mr_bg (S 1)) (S 2) (S 3) (S 4) (S 5) (S 6)) rfl dX6_goesTo_6 ?_
  refine y_aload_n Z dX6_goesTo_9 0 rfl rfl ?_
  refine y_iconst (v := 0) Z dX6_goesTo_10 (by decide) ?_
  refine y_put (C := RX6) (T := TX6) (N := 19) Z 6 inlX6 rfl tyX6 tyX6_ok nmX6 0 rfl 6 (by decide) fl_RX6_50 rfl rfl rfl (Nat.le_of_ble_eq_true rfl) (wMdR cI aS (S 0 0) (S 0 1) (S 0 2) 0 0 (S 0 5) (S 0 6) (S 0 7) (S 0 8) (S 0 9) (S 0 10) (S 0 11) (S 0 12) (mr_bg (S 1)) (S 2) (S 3) (S 4) (S 5) (S 6)) rfl dX6_goesTo_11 ?_
  refine y_aload_n Z dX6_goesTo_14 0 rfl rfl ?_
  refine y_iconst (v := 0) Z dX6_goesTo_15 (by decide) ?_
  refine y_iload_n Z dX6_goesTo_16 2 rfl rfl ?_
  refine y_VVw Z (k_X6_doesAll l D ht0 aS (sF (sF (sR S 1 (mr_bg (S 1))) 0 4 0) 0 3 0) 0 wo (by first | exact h_n | (simp only [sR_eq, sR_ne, sF_eq, sF_ne, upd_eq, upd_ne, Nat.reduceBEq]; exact h_n)) (by first | exact h_v | (simp only [sR_eq, sR_ne, sF_eq, sF_ne, upd_eq, upd_ne, Nat.reduceBEq]; exact h_v)) (by first | exact (by decide) | (simp only [sR_eq, sR_ne, sF_eq, sF_ne, upd_eq, upd_ne, Nat.reduceBEq]; exact (by decide)))) (y_cwV 2 Z ml_RX6_153 im_X6_doesAll se_X6_doesAll in_X6 co_X6_doesAll rfl rfl hd_X6_doesAll ⟨Nat.le_of_ble_eq_true rfl, Nat.le_of_ble_eq_true rfl⟩) List.nil List.nil (by simp only [List.nil_append, List.append_nil, wMix, wLog, wPic, wRep, wScr, wVM, wMd, sR_eq, sR_ne, sF_eq, sF_ne, upd_eq, upd_ne, gs_eq, gs_ne, gm_4, gm_ne, Nat.reduceBEq]) 6 0 rfl rfl rfl rfl (Nat.le_of_ble_eq_true rfl) dX6_goesTo_17 ⟨Nat.le_of_ble_eq_true rfl, Nat.le_of_ble_eq_true rfl⟩ (wMdR cI aS (S 0 0) (S 0 1) (S 0 2) 0 ((daX (S 3) (S 0 1) 0 wo (mr_bg (S 1)) 0).2) (S 0 5) (S 0 6) (S 0 7) (S 0 8) (S 0 9) (S 0 10) (S 0 11) (S 0 12) ((daX (S 3) (S 0 1) 0 wo (mr_bg (S 1)) 0).1) (S 2) (S 3) (S 4) (S 5) (S 6)) (by simp only [List.nil_append, List.append_nil, wMix, wLog, wPic, wRep, wScr, wVM, wMd, sR_eq, sR_ne, sF_eq, sF_ne, upd_eq, upd_ne, gs_eq, gs_ne, gm_4, gm_ne, Nat.reduceBEq]) ?_
  refine y_iconst (v := 1) Z dX6_goesTo_20 (by decide) ?_
  refine y_istore_n Z [(3, .int 1), (0, .ref (aS 0)), (1, .int tt), (2, .int wo)] dX6_goesTo_21 rfl (by decide) rfl ?_
  refine y_lv [1, 2, 3, 0] (lv' := [(0, .ref (aS 0)), (1, .int tt), (2, .int wo), (3, .int 1)]) rfl ?_
  exact L22 5001 ((daX (S 3) (S 0 1) 0 wo (mr_bg (S 1)) 0).1, 0, (daX (S 3) (S 0 1) 0 wo (mr_bg (S 1)) 0).2, 1) (gt_0 _ h_n h_v) (gt_stop _ _ _ _ _ h_t) rfl
set_option maxHeartbeats 4000000 in
set_option maxRecDepth 100000 in
theorem k_X6_isTime (l : Launch) (D : va_G) {cI : ClassId} {tys : List (ClassId × FieldType)} (ht0 : tys[0]? = some (cI, .int)) (aS : Nat → Nat) (S : Nat → Nat → Int32) (t : Int32) (sz : Nat) : kI l yX6_isTime cX6_isTime 2 (some .boolean) { frames := 1, cells := 0, slots := 0, locals := 25 } D tys [.ref (aS 0), .int t] (wMd cI aS S) (wMd cI aS S) (mv_it t (S 0 0)) 0 0 sz := by
  refine y_enterI (cc := cX6_isTime) (maxL := 2) (ret := (some .boolean)) (own := RX6) (by decide) rfl (lv0 := [(0, .ref (aS 0)), (1, .int t)]) rfl (Nat.le_of_ble_eq_true rfl) ?_
  intro p e s m args below meth c A Z hr hlk _
  refine y_iload_n Z dX6_isTime_0 1 rfl rfl ?_
  refine y_i2l Z dX6_isTime_1 ?_
  refine y_lconst (v := 0) Z dX6_isTime_2 (by decide) ?_
  refine y_aload_n Z dX6_isTime_3 0 rfl rfl ?_
  refine y_get (C := RX6) (T := TX6) (N := 19) Z 6 inlX6 rfl 0 rfl 2 (by decide) fl_RX6_71 rfl dX6_isTime_4 ?_
  refine y_i2l Z dX6_isTime_7 ?_
  refine y_SI Z (k_X6_in l D ht0 (Int32.toInt64 t) 0 (Int32.toInt64 (S 0 0))) (y_cwS 3 Z ml_RX6_37 st_X6_in in_X6 co_X6_in rfl rfl hs_X6_in ⟨Nat.le_of_ble_eq_true rfl, Nat.le_of_ble_eq_true rfl⟩) [] rfl (by decide) rfl rfl (Nat.le_of_ble_eq_true rfl) dX6_isTime_8 ⟨Nat.le_of_ble_eq_true rfl, Nat.le_of_ble_eq_true rfl⟩ [] rfl rfl (wMd cI aS S) rfl ?_
  exact y_retZ Z hr hlk ((nb01 (mv_in01 _ _ _))) dX6_isTime_11 (by first | (simp only [mv_it, if_true, if_false, not_false_eq_true, not_true_eq_false, ↓reduceIte]; done) | (simp only [mv_it, if_true, if_false, not_false_eq_true, not_true_eq_false, ↓reduceIte, wMix, wLog, wPic, wRep, wScr, wVM, wMd, sR_eq, sR_ne, sF_eq, sF_ne, upd_eq, upd_ne, gs_eq, gs_ne, gm_4, gm_ne, Nat.reduceBEq]; done) | (with_reducible rfl) | contradiction | (simp only [mv_it, if_true, if_false, not_false_eq_true, not_true_eq_false, ↓reduceIte]; rfl) | rfl) (by first | (simp only [mv_it, if_true, if_false, not_false_eq_true, not_true_eq_false, ↓reduceIte]; done) | (simp only [mv_it, if_true, if_false, not_false_eq_true, not_true_eq_false, ↓reduceIte, wMix, wLog, wPic, wRep, wScr, wVM, wMd, sR_eq, sR_ne, sF_eq, sF_ne, upd_eq, upd_ne, gs_eq, gs_ne, gm_4, gm_ne, Nat.reduceBEq]; done) | (with_reducible rfl) | contradiction | (simp only [mv_it, if_true, if_false, not_false_eq_true, not_true_eq_false, ↓reduceIte]; rfl) | rfl)
set_option maxHeartbeats 4000000 in
set_option maxRecDepth 100000 in
theorem k_X6_settingAt (l : Launch) (D : va_G) {cI : ClassId} {tys : List (ClassId × FieldType)} (ht0 : tys[0]? = some (cI, .int)) (aS : Nat → Nat) (S : Nat → Nat → Int32) (t : Int32) (w : Int32) (h_n : (S 0 1) ≤ 100) (h_v : lgv (S 3) (S 0 1)) (h_c : (S 0 0) ≤ 5000) (sz : Nat) : kI l yX6_settingAt cX6_settingAt 4 (some .int) { frames := 6, cells := 0, slots := 0, locals := 138 } D tys [.ref (aS 0), .int t, .int w] (wMd cI aS S) (wMdR cI aS (S 0 0) (S 0 1) (mv_gf (mv_it t (S 0 0)) (mv_in (Int32.toInt64 w) 0 6) 1) (if mv_go (mv_it t (S 0 0)) (mv_in (Int32.toInt64 w) 0 6) 1 = 0 then (S 0 3) else (gtX (S 3) (S 0 1) (S 0 0) (-1) (gtX (S 3) (S 0 1) t (-1) (S 1)).1).2.1) (if mv_go (mv_it t (S 0 0)) (mv_in (Int32.toInt64 w) 0 6) 1 = 0 then (S 0 4) else (gtX (S 3) (S 0 1) (S 0 0) (-1) (gtX (S 3) (S 0 1) t (-1) (S 1)).1).2.2.1) (S 0 5) (S 0 6) (S 0 7) (S 0 8) (S 0 9) (S 0 10) (S 0 11) (S 0 12) (if mv_go (mv_it t (S 0 0)) (mv_in (Int32.toInt64 w) 0 6) 1 = 0 then (S 1) else (gtX (S 3) (S 0 1) (S 0 0) (-1) (gtX (S 3) (S 0 1) t (-1) (S 1)).1).1) (S 2) (S 3) (S 4) (S 5) (S 6)) (if mv_go (mv_it t (S 0 0)) (mv_in (Int32.toInt64 w) 0 6) 1 = 0 then 0 else (gtX (S 3) (S 0 1) t (-1) (S 1)).1 (cl w)) 0 0 sz := by
  refine y_enterI (cc := cX6_settingAt) (maxL := 4) (ret := (some .int)) (own := RX6) (by decide) rfl (lv0 := [(0, .ref (aS 0)), (1, .int t), (2, .int w)]) rfl (Nat.le_of_ble_eq_true rfl) ?_
  intro p e s m args below meth c A Z hr hlk _
  refine y_aload_n Z dX6_settingAt_0 0 rfl rfl ?_
  refine y_aload_n Z dX6_settingAt_1 0 rfl rfl ?_
  refine y_iload_n Z dX6_settingAt_2 1 rfl rfl ?_
  refine y_VIw Z (k_X6_isTime l D ht0 aS S t) (y_cwV 1 Z ml_RX6_156 im_X6_isTime se_X6_isTime in_X6 co_X6_isTime rfl rfl hd_X6_isTime ⟨Nat.le_of_ble_eq_true rfl, Nat.le_of_ble_eq_true rfl⟩) List.nil List.nil (by simp only [List.nil_append, List.append_nil, wMix, wLog, wPic, wRep, wScr, wVM, wMd, sR_eq, sR_ne, sF_eq, sF_ne, upd_eq, upd_ne, gs_eq, gs_ne, gm_4, gm_ne, Nat.reduceBEq]) 6 0 rfl rfl rfl rfl (Nat.le_of_ble_eq_true rfl) dX6_settingAt_3 ⟨Nat.le_of_ble_eq_true rfl, Nat.le_of_ble_eq_true rfl⟩ (wMd cI aS S) (by simp only [List.nil_append, List.append_nil, wMix, wLog, wPic, wRep, wScr, wVM, wMd, sR_eq, sR_ne, sF_eq, sF_ne, upd_eq, upd_ne, gs_eq, gs_ne, gm_4, gm_ne, Nat.reduceBEq]) ?_
  refine y_eq rfl rfl (st' := [.int (mv_it t (S 0 0)), .ref (aS 0)]) (by first | with_reducible rfl | simp only [wMix, wLog, wPic, wRep, wScr, wVM, wMd, sR_eq, sR_ne, sF_eq, sF_ne, upd_eq, upd_ne, gs_eq, gs_ne, gm_4, gm_ne, Nat.reduceBEq]) ?_
  refine y_iload_n Z dX6_settingAt_6 2 rfl rfl ?_
  refine y_i2l Z dX6_settingAt_7 ?_
  refine y_lconst (v := 0) Z dX6_settingAt_8 (by decide) ?_
  refine y_ldc2 Z (6) ct_RX6_159 dX6_settingAt_9 ?_
  refine y_SI Z (k_X6_in l D ht0 (Int32.toInt64 w) 0 6) (y_cwS 3 Z ml_RX6_37 st_X6_in in_X6 co_X6_in rfl rfl hs_X6_in ⟨Nat.le_of_ble_eq_true rfl, Nat.le_of_ble_eq_true rfl⟩) [] rfl (by decide) rfl rfl (Nat.le_of_ble_eq_true rfl) dX6_settingAt_12 ⟨Nat.le_of_ble_eq_true rfl, Nat.le_of_ble_eq_true rfl⟩ [] rfl rfl (wMd cI aS S) rfl ?_
  refine y_iconst (v := 1) Z dX6_settingAt_15 (by decide) ?_
  refine y_VIw Z (k_X6_goes l D ht0 aS S (mv_it t (S 0 0)) (mv_in (Int32.toInt64 w) 0 6) 1) (y_cwV 3 Z ml_RX6_84 im_X6_goes se_X6_goes in_X6 co_X6_goes rfl rfl hd_X6_goes ⟨Nat.le_of_ble_eq_true rfl, Nat.le_of_ble_eq_true rfl⟩) List.nil List.nil (by simp only [List.nil_append, List.append_nil, wMix, wLog, wPic, wRep, wScr, wVM, wMd, sR_eq, sR_ne, sF_eq, sF_ne, upd_eq, upd_ne, gs_eq, gs_ne, gm_4, gm_ne, Nat.reduceBEq]) 6 0 rfl rfl rfl rfl (Nat.le_of_ble_eq_true rfl) dX6_settingAt_16 ⟨Nat.le_of_ble_eq_true rfl, Nat.le_of_ble_eq_true rfl⟩ (wMdR cI aS (S 0 0) (S 0 1) (mv_gf (mv_it t (S 0 0)) (mv_in (Int32.toInt64 w) 0 6) 1) (S 0 3) (S 0 4) (S 0 5) (S 0 6) (S 0 7) (S 0 8) (S 0 9) (S 0 10) (S 0 11) (S 0 12) (S 1) (S 2) (S 3) (S 4) (S 5) (S 6)) (by simp only [List.nil_append, List.append_nil, wMix, wLog, wPic, wRep, wScr, wVM, wMd, sR_eq, sR_ne, sF_eq, sF_ne, upd_eq, upd_ne, gs_eq, gs_ne, gm_4, gm_ne, Nat.reduceBEq]) ?_
  refine y_eq rfl rfl (st' := [.int (mv_go (mv_it t (S 0 0)) (mv_in (Int32.toInt64 w) 0 6) 1)]) (by first | with_reducible rfl | simp only [wMix, wLog, wPic, wRep, wScr, wVM, wMd, sR_eq, sR_ne, sF_eq, sF_ne, upd_eq, upd_ne, gs_eq, gs_ne, gm_4, gm_ne, Nat.reduceBEq]) ?_
  refine y_if_ne (tgt := 24) Z dX6_settingAt_19 (by decide) (fun h1 => ?_) (fun h2 => ?_)
  · refine y_aload_n Z dX6_settingAt_24 0 rfl rfl ?_
    refine y_iload_n Z dX6_settingAt_25 1 rfl rfl ?_
    refine y_iconst (v := -1) Z dX6_settingAt_26 (by decide) ?_
    refine y_VVw Z (k_X6_goesTo l D ht0 aS (sF S 0 2 (mv_gf (mv_it t (S 0 0)) (mv_in (Int32.toInt64 w) 0 6) 1)) t (-1) (by first | exact h_n | (simp only [sR_eq, sR_ne, sF_eq, sF_ne, upd_eq, upd_ne, Nat.reduceBEq]; exact h_n)) (by first | exact h_v | (simp only [sR_eq, sR_ne, sF_eq, sF_ne, upd_eq, upd_ne, Nat.reduceBEq]; exact h_v)) (Int32.le_trans (in_le (go_a h1)) h_c)) (y_cwV 2 Z ml_RX6_161 im_X6_goesTo se_X6_goesTo in_X6 co_X6_goesTo rfl rfl hd_X6_goesTo ⟨Nat.le_of_ble_eq_true rfl, Nat.le_of_ble_eq_true rfl⟩) List.nil List.nil (by simp only [List.nil_append, List.append_nil, wMix, wLog, wPic, wRep, wScr, wVM, wMd, sR_eq, sR_ne, sF_eq, sF_ne, upd_eq, upd_ne, gs_eq, gs_ne, gm_4, gm_ne, Nat.reduceBEq]) 6 0 rfl rfl rfl rfl (Nat.le_of_ble_eq_true rfl) dX6_settingAt_27 ⟨Nat.le_of_ble_eq_true rfl, Nat.le_of_ble_eq_true rfl⟩ (wMdR cI aS (S 0 0) (S 0 1) (mv_gf (mv_it t (S 0 0)) (mv_in (Int32.toInt64 w) 0 6) 1) ((gtX (S 3) (S 0 1) t (-1) (S 1)).2.1) ((gtX (S 3) (S 0 1) t (-1) (S 1)).2.2.1) (S 0 5) (S 0 6) (S 0 7) (S 0 8) (S 0 9) (S 0 10) (S 0 11) (S 0 12) ((gtX (S 3) (S 0 1) t (-1) (S 1)).1) (S 2) (S 3) (S 4) (S 5) (S 6)) (by simp only [List.nil_append, List.append_nil, wMix, wLog, wPic, wRep, wScr, wVM, wMd, sR_eq, sR_ne, sF_eq, sF_ne, upd_eq, upd_ne, gs_eq, gs_ne, gm_4, gm_ne, Nat.reduceBEq]) ?_
    refine y_aload_n Z dX6_settingAt_30 0 rfl rfl ?_
    refine y_get (C := RX6) (T := TX6) (N := 19) Z 6 inlX6 rfl 0 rfl 0 (by decide) fl_RX6_7 rfl dX6_settingAt_31 ?_
    refine y_iload_n Z dX6_settingAt_34 2 rfl rfl ?_
    refine y_iald Z 1 0 rfl ht0 (vp_mo (in_k (n := 6) (by decide) (go_b h1)) (by decide)) (cl w) rfl dX6_settingAt_35 ?_
    refine y_istore_n Z [(3, .int (((gtX (S 3) (S 0 1) t (-1) (S 1)).1) (cl w))), (0, .ref (aS 0)), (1, .int t), (2, .int w)] dX6_settingAt_36 rfl (by decide) rfl ?_
    refine y_aload_n Z dX6_settingAt_37 1 rfl rfl ?_
    refine y_aload_n Z dX6_settingAt_38 1 rfl rfl ?_
    refine y_get (C := RX6) (T := TX6) (N := 19) Z 6 inlX6 rfl 0 rfl 2 (by decide) fl_RX6_71 rfl dX6_settingAt_39 ?_
    refine y_iconst (v := -1) Z dX6_settingAt_42 (by decide) ?_
    refine y_VVw Z (k_X6_goesTo l D ht0 aS (sF (sF (sR (sF S 0 2 (mv_gf (mv_it t (S 0 0)) (mv_in (Int32.toInt64 w) 0 6) 1)) 1 ((gtX (S 3) (S 0 1) t (-1) (S 1)).1)) 0 3 ((gtX (S 3) (S 0 1) t (-1) (S 1)).2.1)) 0 4 ((gtX (S 3) (S 0 1) t (-1) (S 1)).2.2.1)) (S 0 0) (-1) (by first | exact h_n | (simp only [sR_eq, sR_ne, sF_eq, sF_ne, upd_eq, upd_ne, Nat.reduceBEq]; exact h_n)) (by first | exact h_v | (simp only [sR_eq, sR_ne, sF_eq, sF_ne, upd_eq, upd_ne, Nat.reduceBEq]; exact h_v)) (by first | exact h_c | (simp only [sR_eq, sR_ne, sF_eq, sF_ne, upd_eq, upd_ne, Nat.reduceBEq]; exact h_c))) (y_cwV 2 Z ml_RX6_161 im_X6_goesTo se_X6_goesTo in_X6 co_X6_goesTo rfl rfl hd_X6_goesTo ⟨Nat.le_of_ble_eq_true rfl, Nat.le_of_ble_eq_true rfl⟩) List.nil List.nil (by simp only [List.nil_append, List.append_nil, wMix, wLog, wPic, wRep, wScr, wVM, wMd, sR_eq, sR_ne, sF_eq, sF_ne, upd_eq, upd_ne, gs_eq, gs_ne, gm_4, gm_ne, Nat.reduceBEq]) 6 0 rfl rfl rfl rfl (Nat.le_of_ble_eq_true rfl) dX6_settingAt_43 ⟨Nat.le_of_ble_eq_true rfl, Nat.le_of_ble_eq_true rfl⟩ (wMdR cI aS (S 0 0) (S 0 1) (mv_gf (mv_it t (S 0 0)) (mv_in (Int32.toInt64 w) 0 6) 1) ((gtX (S 3) (S 0 1) (S 0 0) (-1) ((gtX (S 3) (S 0 1) t (-1) (S 1)).1)).2.1) ((gtX (S 3) (S 0 1) (S 0 0) (-1) ((gtX (S 3) (S 0 1) t (-1) (S 1)).1)).2.2.1) (S 0 5) (S 0 6) (S 0 7) (S 0 8) (S 0 9) (S 0 10) (S 0 11) (S 0 12) ((gtX (S 3) (S 0 1) (S 0 0) (-1) ((gtX (S 3) (S 0 1) t (-1) (S 1)).1)).1) (S 2) (S 3) (S 4) (S 5) (S 6)) (by simp only [List.nil_append, List.append_nil, wMix, wLog, wPic, wRep, wScr, wVM, wMd, sR_eq, sR_ne, sF_eq, sF_ne, upd_eq, upd_ne, gs_eq, gs_ne, gm_4, gm_ne, Nat.reduceBEq]) ?_
    refine y_iload_n Z dX6_settingAt_46 0 rfl rfl ?_
    exact y_retI Z hr hlk dX6_settingAt_47 (by first | (simp only [h1, if_true, if_false, not_false_eq_true, not_true_eq_false, ↓reduceIte]; done) | (simp only [h1, if_true, if_false, not_false_eq_true, not_true_eq_false, ↓reduceIte, wMix, wLog, wPic, wRep, wScr, wVM, wMd, sR_eq, sR_ne, sF_eq, sF_ne, upd_eq, upd_ne, gs_eq, gs_ne, gm_4, gm_ne, Nat.reduceBEq]; done) | (with_reducible rfl) | contradiction | (simp only [h1, if_true, if_false, not_false_eq_true, not_true_eq_false, ↓reduceIte]; rfl) | rfl) (by first | (simp only [h1, if_true, if_false, not_false_eq_true, not_true_eq_false, ↓reduceIte]; done) | (simp only [h1, if_true, if_false, not_false_eq_true, not_true_eq_false, ↓reduceIte, wMix, wLog, wPic, wRep, wScr, wVM, wMd, sR_eq, sR_ne, sF_eq, sF_ne, upd_eq, upd_ne, gs_eq, gs_ne, gm_4, gm_ne, Nat.reduceBEq]; done) | (with_reducible rfl) | contradiction | (simp only [h1, if_true, if_false, not_false_eq_true, not_true_eq_false, ↓reduceIte]; rfl) | rfl)
  · refine y_iconst (v := 0) Z dX6_settingAt_22 (by decide) ?_
    exact y_retI Z hr hlk dX6_settingAt_23 (by first | (simp only [eq_true h2, if_true, if_false, not_false_eq_true, not_true_eq_false, ↓reduceIte]; done) | (simp only [eq_true h2, if_true, if_false, not_false_eq_true, not_true_eq_false, ↓reduceIte, wMix, wLog, wPic, wRep, wScr, wVM, wMd, sR_eq, sR_ne, sF_eq, sF_ne, upd_eq, upd_ne, gs_eq, gs_ne, gm_4, gm_ne, Nat.reduceBEq]; done) | (with_reducible rfl) | contradiction | (simp only [eq_true h2, if_true, if_false, not_false_eq_true, not_true_eq_false, ↓reduceIte]; rfl) | rfl) (by first | (simp only [eq_true h2, if_true, if_false, not_false_eq_true, not_true_eq_false, ↓reduceIte]; done) | (simp only [eq_true h2, if_true, if_false, not_false_eq_true, not_true_eq_false, ↓reduceIte, wMix, wLog, wPic, wRep, wScr, wVM, wMd, sR_eq, sR_ne, sF_eq, sF_ne, upd_eq, upd_ne, gs_eq, gs_ne, gm_4, gm_ne, Nat.reduceBEq]; done) | (with_reducible rfl) | contradiction | (simp only [eq_true h2, if_true, if_false, not_false_eq_true, not_true_eq_false, ↓reduceIte]; rfl) | rfl)
set_option maxHeartbeats 4000000 in
set_option maxRecDepth 100000 in
theorem k_X6_shareAt (l : Launch) (D : va_G) {cI : ClassId} {tys : List (ClassId × FieldType)} (ht0 : tys[0]? = some (cI, .int)) (aS : Nat → Nat) (S : Nat → Nat → Int32) (t : Int32) (q : Int32) (h_n : (S 0 1) ≤ 100) (h_v : lgv (S 3) (S 0 1)) (h_c : (S 0 0) ≤ 5000) (sz : Nat) : kI l yX6_shareAt cX6_shareAt 4 (some .int) { frames := 6, cells := 0, slots := 0, locals := 138 } D tys [.ref (aS 0), .int t, .int q] (wMd cI aS S) (wMdR cI aS (S 0 0) (S 0 1) (mv_gf (mv_an (mv_it t (S 0 0)) (mv_is q)) 1 1) (if mv_go (mv_an (mv_it t (S 0 0)) (mv_is q)) 1 1 = 0 then (S 0 3) else (gtX (S 3) (S 0 1) (S 0 0) (-1) (gtX (S 3) (S 0 1) t (-1) (S 1)).1).2.1) (if mv_go (mv_an (mv_it t (S 0 0)) (mv_is q)) 1 1 = 0 then (S 0 4) else (gtX (S 3) (S 0 1) (S 0 0) (-1) (gtX (S 3) (S 0 1) t (-1) (S 1)).1).2.2.1) (S 0 5) (S 0 6) (S 0 7) (S 0 8) (S 0 9) (S 0 10) (S 0 11) (S 0 12) (if mv_go (mv_an (mv_it t (S 0 0)) (mv_is q)) 1 1 = 0 then (S 1) else (gtX (S 3) (S 0 1) (S 0 0) (-1) (gtX (S 3) (S 0 1) t (-1) (S 1)).1).1) (S 2) (S 3) (if mv_go (mv_an (mv_it t (S 0 0)) (mv_is q)) 1 1 = 0 then (S 4) else mr_ls (gtX (S 3) (S 0 1) t (-1) (S 1)).1 (S 4)) (S 5) (S 6)) (if mv_go (mv_an (mv_it t (S 0 0)) (mv_is q)) 1 1 = 0 then 0 else mv_sh (gtX (S 3) (S 0 1) t (-1) (S 1)).1 (mr_ls (gtX (S 3) (S 0 1) t (-1) (S 1)).1 (S 4)) q 0) 0 0 sz := by
  refine y_enterI (cc := cX6_shareAt) (maxL := 4) (ret := (some .int)) (own := RX6) (by decide) rfl (lv0 := [(0, .ref (aS 0)), (1, .int t), (2, .int q)]) rfl (Nat.le_of_ble_eq_true rfl) ?_
  intro p e s m args below meth c A Z hr hlk _
  refine y_aload_n Z dX6_shareAt_0 0 rfl rfl ?_
  have hJ1 : Yy p l e { frames := 6, cells := 0, slots := 0, locals := 138 } s m args below meth c (QI D tys A (wMdR cI aS (S 0 0) (S 0 1) (mv_gf (mv_an (mv_it t (S 0 0)) (mv_is q)) 1 1) (if mv_go (mv_an (mv_it t (S 0 0)) (mv_is q)) 1 1 = 0 then (S 0 3) else (gtX (S 3) (S 0 1) (S 0 0) (-1) (gtX (S 3) (S 0 1) t (-1) (S 1)).1).2.1) (if mv_go (mv_an (mv_it t (S 0 0)) (mv_is q)) 1 1 = 0 then (S 0 4) else (gtX (S 3) (S 0 1) (S 0 0) (-1) (gtX (S 3) (S 0 1) t (-1) (S 1)).1).2.2.1) (S 0 5) (S 0 6) (S 0 7) (S 0 8) (S 0 9) (S 0 10) (S 0 11) (S 0 12) (if mv_go (mv_an (mv_it t (S 0 0)) (mv_is q)) 1 1 = 0 then (S 1) else (gtX (S 3) (S 0 1) (S 0 0) (-1) (gtX (S 3) (S 0 1) t (-1) (S 1)).1).1) (S 2) (S 3) (if mv_go (mv_an (mv_it t (S 0 0)) (mv_is q)) 1 1 = 0 then (S 4) else mr_ls (gtX (S 3) (S 0 1) t (-1) (S 1)).1 (S 4)) (S 5) (S 6)) (if mv_go (mv_an (mv_it t (S 0 0)) (mv_is q)) 1 1 = 0 then 0 else mv_sh (gtX (S 3) (S 0 1) t (-1) (S 1)).1 (mr_ls (gtX (S 3) (S 0 1) t (-1) (S 1)).1 (S 4)) q 0) below args s 0 0) D A 4 0 0 (wMd cI aS S) [(0, .ref (aS 0)), (1, .int t), (2, .int q)] [.int (mv_an (mv_it t (S 0 0)) (mv_is q)), .ref (aS 0)] 21 := by
    refine y_iconst (v := 1) Z dX6_shareAt_21 (by decide) ?_
    refine y_iconst (v := 1) Z dX6_shareAt_22 (by decide) ?_
    refine y_VIw Z (k_X6_goes l D ht0 aS S (mv_an (mv_it t (S 0 0)) (mv_is q)) 1 1) (y_cwV 3 Z ml_RX6_84 im_X6_goes se_X6_goes in_X6 co_X6_goes rfl rfl hd_X6_goes ⟨Nat.le_of_ble_eq_true rfl, Nat.le_of_ble_eq_true rfl⟩) List.nil List.nil (by simp only [List.nil_append, List.append_nil, wMix, wLog, wPic, wRep, wScr, wVM, wMd, sR_eq, sR_ne, sF_eq, sF_ne, upd_eq, upd_ne, gs_eq, gs_ne, gm_4, gm_ne, Nat.reduceBEq]) 6 0 rfl rfl rfl rfl (Nat.le_of_ble_eq_true rfl) dX6_shareAt_23 ⟨Nat.le_of_ble_eq_true rfl, Nat.le_of_ble_eq_true rfl⟩ (wMdR cI aS (S 0 0) (S 0 1) (mv_gf (mv_an (mv_it t (S 0 0)) (mv_is q)) 1 1) (S 0 3) (S 0 4) (S 0 5) (S 0 6) (S 0 7) (S 0 8) (S 0 9) (S 0 10) (S 0 11) (S 0 12) (S 1) (S 2) (S 3) (S 4) (S 5) (S 6)) (by simp only [List.nil_append, List.append_nil, wMix, wLog, wPic, wRep, wScr, wVM, wMd, sR_eq, sR_ne, sF_eq, sF_ne, upd_eq, upd_ne, gs_eq, gs_ne, gm_4, gm_ne, Nat.reduceBEq]) ?_
    refine y_eq rfl rfl (st' := [.int (mv_go (mv_an (mv_it t (S 0 0)) (mv_is q)) 1 1)]) (by first | with_reducible rfl | simp only [wMix, wLog, wPic, wRep, wScr, wVM, wMd, sR_eq, sR_ne, sF_eq, sF_ne, upd_eq, upd_ne, gs_eq, gs_ne, gm_4, gm_ne, Nat.reduceBEq]) ?_
    refine y_if_ne (tgt := 31) Z dX6_shareAt_26 (by decide) (fun h2 => ?_) (fun h3 => ?_)
    · refine y_aload_n Z dX6_shareAt_31 0 rfl rfl ?_
      refine y_iload_n Z dX6_shareAt_32 1 rfl rfl ?_
      refine y_iconst (v := -1) Z dX6_shareAt_33 (by decide) ?_
      refine y_VVw Z (k_X6_goesTo l D ht0 aS (sF S 0 2 (mv_gf (mv_an (mv_it t (S 0 0)) (mv_is q)) 1 1)) t (-1) (by first | exact h_n | (simp only [sR_eq, sR_ne, sF_eq, sF_ne, upd_eq, upd_ne, Nat.reduceBEq]; exact h_n)) (by first | exact h_v | (simp only [sR_eq, sR_ne, sF_eq, sF_ne, upd_eq, upd_ne, Nat.reduceBEq]; exact h_v)) (Int32.le_trans (in_le (an_1 <| go_a h2)) h_c)) (y_cwV 2 Z ml_RX6_161 im_X6_goesTo se_X6_goesTo in_X6 co_X6_goesTo rfl rfl hd_X6_goesTo ⟨Nat.le_of_ble_eq_true rfl, Nat.le_of_ble_eq_true rfl⟩) List.nil List.nil (by simp only [List.nil_append, List.append_nil, wMix, wLog, wPic, wRep, wScr, wVM, wMd, sR_eq, sR_ne, sF_eq, sF_ne, upd_eq, upd_ne, gs_eq, gs_ne, gm_4, gm_ne, Nat.reduceBEq]) 6 0 rfl rfl rfl rfl (Nat.le_of_ble_eq_true rfl) dX6_shareAt_34 ⟨Nat.le_of_ble_eq_true rfl, Nat.le_of_ble_eq_true rfl⟩ (wMdR cI aS (S 0 0) (S 0 1) (mv_gf (mv_an (mv_it t (S 0 0)) (mv_is q)) 1 1) ((gtX (S 3) (S 0 1) t (-1) (S 1)).2.1) ((gtX (S 3) (S 0 1) t (-1) (S 1)).2.2.1) (S 0 5) (S 0 6) (S 0 7) (S 0 8) (S 0 9) (S 0 10) (S 0 11) (S 0 12) ((gtX (S 3) (S 0 1) t (-1) (S 1)).1) (S 2) (S 3) (S 4) (S 5) (S 6)) (by simp only [List.nil_append, List.append_nil, wMix, wLog, wPic, wRep, wScr, wVM, wMd, sR_eq, sR_ne, sF_eq, sF_ne, upd_eq, upd_ne, gs_eq, gs_ne, gm_4, gm_ne, Nat.reduceBEq]) ?_
      refine y_aload_n Z dX6_shareAt_37 0 rfl rfl ?_
      refine y_iload_n Z dX6_shareAt_38 2 rfl rfl ?_
      refine y_iconst (v := 0) Z dX6_shareAt_39 (by decide) ?_
      refine y_VIw Z (k_X6_shareOf l D ht0 aS (sF (sF (sR (sF S 0 2 (mv_gf (mv_an (mv_it t (S 0 0)) (mv_is q)) 1 1)) 1 ((gtX (S 3) (S 0 1) t (-1) (S 1)).1)) 0 3 ((gtX (S 3) (S 0 1) t (-1) (S 1)).2.1)) 0 4 ((gtX (S 3) (S 0 1) t (-1) (S 1)).2.2.1)) q 0 (by first | exact (gt_okm _ _ _ h_n h_v) | (simp only [sR_eq, sR_ne, sF_eq, sF_ne, upd_eq, upd_ne, Nat.reduceBEq]; exact (gt_okm _ _ _ h_n h_v))) (is_q (an_2 (go_a h2)))) (y_cwV 2 Z ml_RX6_134 im_X6_shareOf se_X6_shareOf in_X6 co_X6_shareOf rfl rfl hd_X6_shareOf ⟨Nat.le_of_ble_eq_true rfl, Nat.le_of_ble_eq_true rfl⟩) List.nil List.nil (by simp only [List.nil_append, List.append_nil, wMix, wLog, wPic, wRep, wScr, wVM, wMd, sR_eq, sR_ne, sF_eq, sF_ne, upd_eq, upd_ne, gs_eq, gs_ne, gm_4, gm_ne, Nat.reduceBEq]) 6 0 rfl rfl rfl rfl (Nat.le_of_ble_eq_true rfl) dX6_shareAt_40 ⟨Nat.le_of_ble_eq_true rfl, Nat.le_of_ble_eq_true rfl⟩ (wMdR cI aS (S 0 0) (S 0 1) (mv_gf (mv_an (mv_it t (S 0 0)) (mv_is q)) 1 1) ((gtX (S 3) (S 0 1) t (-1) (S 1)).2.1) ((gtX (S 3) (S 0 1) t (-1) (S 1)).2.2.1) (S 0 5) (S 0 6) (S 0 7) (S 0 8) (S 0 9) (S 0 10) (S 0 11) (S 0 12) ((gtX (S 3) (S 0 1) t (-1) (S 1)).1) (S 2) (S 3) (mr_ls ((gtX (S 3) (S 0 1) t (-1) (S 1)).1) (S 4)) (S 5) (S 6)) (by simp only [List.nil_append, List.append_nil, wMix, wLog, wPic, wRep, wScr, wVM, wMd, sR_eq, sR_ne, sF_eq, sF_ne, upd_eq, upd_ne, gs_eq, gs_ne, gm_4, gm_ne, Nat.reduceBEq]) ?_
      refine y_eq rfl rfl (st' := [.int (mv_sh ((gtX (S 3) (S 0 1) t (-1) (S 1)).1) (mr_ls ((gtX (S 3) (S 0 1) t (-1) (S 1)).1) (S 4)) q 0)]) (by first | with_reducible rfl | simp only [wMix, wLog, wPic, wRep, wScr, wVM, wMd, sR_eq, sR_ne, sF_eq, sF_ne, upd_eq, upd_ne, gs_eq, gs_ne, gm_4, gm_ne, Nat.reduceBEq]) ?_
      refine y_istore_n Z [(3, .int (mv_sh ((gtX (S 3) (S 0 1) t (-1) (S 1)).1) (mr_ls ((gtX (S 3) (S 0 1) t (-1) (S 1)).1) (S 4)) q 0)), (0, .ref (aS 0)), (1, .int t), (2, .int q)] dX6_shareAt_43 rfl (by decide) rfl ?_
      refine y_aload_n Z dX6_shareAt_44 1 rfl rfl ?_
      refine y_aload_n Z dX6_shareAt_45 1 rfl rfl ?_
      refine y_get (C := RX6) (T := TX6) (N := 19) Z 6 inlX6 rfl 0 rfl 2 (by decide) fl_RX6_71 rfl dX6_shareAt_46 ?_
      refine y_iconst (v := -1) Z dX6_shareAt_49 (by decide) ?_
      refine y_VVw Z (k_X6_goesTo l D ht0 aS (sR (sF (sF (sR (sF S 0 2 (mv_gf (mv_an (mv_it t (S 0 0)) (mv_is q)) 1 1)) 1 ((gtX (S 3) (S 0 1) t (-1) (S 1)).1)) 0 3 ((gtX (S 3) (S 0 1) t (-1) (S 1)).2.1)) 0 4 ((gtX (S 3) (S 0 1) t (-1) (S 1)).2.2.1)) 4 (mr_ls ((gtX (S 3) (S 0 1) t (-1) (S 1)).1) (S 4))) (S 0 0) (-1) (by first | exact h_n | (simp only [sR_eq, sR_ne, sF_eq, sF_ne, upd_eq, upd_ne, Nat.reduceBEq]; exact h_n)) (by first | exact h_v | (simp only [sR_eq, sR_ne, sF_eq, sF_ne, upd_eq, upd_ne, Nat.reduceBEq]; exact h_v)) (by first | exact h_c | (simp only [sR_eq, sR_ne, sF_eq, sF_ne, upd_eq, upd_ne, Nat.reduceBEq]; exact h_c))) (y_cwV 2 Z ml_RX6_161 im_X6_goesTo se_X6_goesTo in_X6 co_X6_goesTo rfl rfl hd_X6_goesTo ⟨Nat.le_of_ble_eq_true rfl, Nat.le_of_ble_eq_true rfl⟩) List.nil List.nil (by simp only [List.nil_append, List.append_nil, wMix, wLog, wPic, wRep, wScr, wVM, wMd, sR_eq, sR_ne, sF_eq, sF_ne, upd_eq, upd_ne, gs_eq, gs_ne, gm_4, gm_ne, Nat.reduceBEq]) 6 0 rfl rfl rfl rfl (Nat.le_of_ble_eq_true rfl) dX6_shareAt_50 ⟨Nat.le_of_ble_eq_true rfl, Nat.le_of_ble_eq_true rfl⟩ (wMdR cI aS (S 0 0) (S 0 1) (mv_gf (mv_an (mv_it t (S 0 0)) (mv_is q)) 1 1) ((gtX (S 3) (S 0 1) (S 0 0) (-1) ((gtX (S 3) (S 0 1) t (-1) (S 1)).1)).2.1) ((gtX (S 3) (S 0 1) (S 0 0) (-1) ((gtX (S 3) (S 0 1) t (-1) (S 1)).1)).2.2.1) (S 0 5) (S 0 6) (S 0 7) (S 0 8) (S 0 9) (S 0 10) (S 0 11) (S 0 12) ((gtX (S 3) (S 0 1) (S 0 0) (-1) ((gtX (S 3) (S 0 1) t (-1) (S 1)).1)).1) (S 2) (S 3) (mr_ls ((gtX (S 3) (S 0 1) t (-1) (S 1)).1) (S 4)) (S 5) (S 6)) (by simp only [List.nil_append, List.append_nil, wMix, wLog, wPic, wRep, wScr, wVM, wMd, sR_eq, sR_ne, sF_eq, sF_ne, upd_eq, upd_ne, gs_eq, gs_ne, gm_4, gm_ne, Nat.reduceBEq]) ?_
      refine y_iload_n Z dX6_shareAt_53 0 rfl rfl ?_
      exact y_retI Z hr hlk dX6_shareAt_54 (by first | (simp only [h2, if_true, if_false, not_false_eq_true, not_true_eq_false, ↓reduceIte]; done) | (simp only [h2, if_true, if_false, not_false_eq_true, not_true_eq_false, ↓reduceIte, wMix, wLog, wPic, wRep, wScr, wVM, wMd, sR_eq, sR_ne, sF_eq, sF_ne, upd_eq, upd_ne, gs_eq, gs_ne, gm_4, gm_ne, Nat.reduceBEq]; done) | (with_reducible rfl) | contradiction | (simp only [h2, if_true, if_false, not_false_eq_true, not_true_eq_false, ↓reduceIte]; rfl) | rfl) (by first | (simp only [h2, if_true, if_false, not_false_eq_true, not_true_eq_false, ↓reduceIte]; done) | (simp only [h2, if_true, if_false, not_false_eq_true, not_true_eq_false, ↓reduceIte, wMix, wLog, wPic, wRep, wScr, wVM, wMd, sR_eq, sR_ne, sF_eq, sF_ne, upd_eq, upd_ne, gs_eq, gs_ne, gm_4, gm_ne, Nat.reduceBEq]; done) | (with_reducible rfl) | contradiction | (simp only [h2, if_true, if_false, not_false_eq_true, not_true_eq_false, ↓reduceIte]; rfl) | rfl)
    · refine y_iconst (v := 0) Z dX6_shareAt_29 (by decide) ?_
      exact y_retI Z hr hlk dX6_shareAt_30 (by first | (simp only [eq_true h3, if_true, if_false, not_false_eq_true, not_true_eq_false, ↓reduceIte]; done) | (simp only [eq_true h3, if_true, if_false, not_false_eq_true, not_true_eq_false, ↓reduceIte, wMix, wLog, wPic, wRep, wScr, wVM, wMd, sR_eq, sR_ne, sF_eq, sF_ne, upd_eq, upd_ne, gs_eq, gs_ne, gm_4, gm_ne, Nat.reduceBEq]; done) | (with_reducible rfl) | contradiction | (simp only [eq_true h3, if_true, if_false, not_false_eq_true, not_true_eq_false, ↓reduceIte]; rfl) | rfl) (by first | (simp only [eq_true h3, if_true, if_false, not_false_eq_true, not_true_eq_false, ↓reduceIte]; done) | (simp only [eq_true h3, if_true, if_false, not_false_eq_true, not_true_eq_false, ↓reduceIte, wMix, wLog, wPic, wRep, wScr, wVM, wMd, sR_eq, sR_ne, sF_eq, sF_ne, upd_eq, upd_ne, gs_eq, gs_ne, gm_4, gm_ne, Nat.reduceBEq]; done) | (with_reducible rfl) | contradiction | (simp only [eq_true h3, if_true, if_false, not_false_eq_true, not_true_eq_false, ↓reduceIte]; rfl) | rfl)
  refine y_aload_n Z dX6_shareAt_1 0 rfl rfl ?_
  refine y_iload_n Z dX6_shareAt_2 1 rfl rfl ?_
  refine y_VIw Z (k_X6_isTime l D ht0 aS S t) (y_cwV 1 Z ml_RX6_156 im_X6_isTime se_X6_isTime in_X6 co_X6_isTime rfl rfl hd_X6_isTime ⟨Nat.le_of_ble_eq_true rfl, Nat.le_of_ble_eq_true rfl⟩) List.nil List.nil (by simp only [List.nil_append, List.append_nil, wMix, wLog, wPic, wRep, wScr, wVM, wMd, sR_eq, sR_ne, sF_eq, sF_ne, upd_eq, upd_ne, gs_eq, gs_ne, gm_4, gm_ne, Nat.reduceBEq]) 6 0 rfl rfl rfl rfl (Nat.le_of_ble_eq_true rfl) dX6_shareAt_3 ⟨Nat.le_of_ble_eq_true rfl, Nat.le_of_ble_eq_true rfl⟩ (wMd cI aS S) (by simp only [List.nil_append, List.append_nil, wMix, wLog, wPic, wRep, wScr, wVM, wMd, sR_eq, sR_ne, sF_eq, sF_ne, upd_eq, upd_ne, gs_eq, gs_ne, gm_4, gm_ne, Nat.reduceBEq]) ?_
  refine y_eq rfl rfl (st' := [.int (mv_it t (S 0 0)), .ref (aS 0)]) (by first | with_reducible rfl | simp only [wMix, wLog, wPic, wRep, wScr, wVM, wMd, sR_eq, sR_ne, sF_eq, sF_ne, upd_eq, upd_ne, gs_eq, gs_ne, gm_4, gm_ne, Nat.reduceBEq]) ?_
  refine y_if_eq (tgt := 20) Z dX6_shareAt_6 (by decide) (fun h4 => ?_) (fun h5 => ?_)
  · refine y_iconst (v := 0) Z dX6_shareAt_20 (by decide) ?_
    exact y_eq rfl rfl (st' := [.int (mv_an (mv_it t (S 0 0)) (mv_is q)), .ref (aS 0)]) (by first | (simp only [mv_an, eq_true h4, if_true, if_false, not_false_eq_true, not_true_eq_false, ↓reduceIte]; done) | (simp only [mv_an, eq_true h4, if_true, if_false, not_false_eq_true, not_true_eq_false, ↓reduceIte, wMix, wLog, wPic, wRep, wScr, wVM, wMd, sR_eq, sR_ne, sF_eq, sF_ne, upd_eq, upd_ne, gs_eq, gs_ne, gm_4, gm_ne, Nat.reduceBEq]; done) | (with_reducible rfl) | contradiction | (simp only [mv_an, eq_true h4, if_true, if_false, not_false_eq_true, not_true_eq_false, ↓reduceIte]; rfl) | rfl) hJ1
  · refine y_iload_n Z dX6_shareAt_9 2 rfl rfl ?_
    refine y_SI Z (k_X6_isSource l D ht0 q) (y_cwS 1 Z ml_RX6_78 st_X6_isSource in_X6 co_X6_isSource rfl rfl hs_X6_isSource ⟨Nat.le_of_ble_eq_true rfl, Nat.le_of_ble_eq_true rfl⟩) [] rfl (by decide) rfl rfl (Nat.le_of_ble_eq_true rfl) dX6_shareAt_10 ⟨Nat.le_of_ble_eq_true rfl, Nat.le_of_ble_eq_true rfl⟩ [] rfl rfl (wMd cI aS S) rfl ?_
    refine y_if_eq (tgt := 20) Z dX6_shareAt_13 (by decide) (fun h6 => ?_) (fun h7 => ?_)
    · refine y_iconst (v := 0) Z dX6_shareAt_20 (by decide) ?_
      exact y_eq rfl rfl (st' := [.int (mv_an (mv_it t (S 0 0)) (mv_is q)), .ref (aS 0)]) (by first | (simp only [mv_an, h5, eq_true h6, if_true, if_false, not_false_eq_true, not_true_eq_false, ↓reduceIte]; done) | (simp only [mv_an, h5, eq_true h6, if_true, if_false, not_false_eq_true, not_true_eq_false, ↓reduceIte, wMix, wLog, wPic, wRep, wScr, wVM, wMd, sR_eq, sR_ne, sF_eq, sF_ne, upd_eq, upd_ne, gs_eq, gs_ne, gm_4, gm_ne, Nat.reduceBEq]; done) | (with_reducible rfl) | contradiction | (simp only [mv_an, h5, eq_true h6, if_true, if_false, not_false_eq_true, not_true_eq_false, ↓reduceIte]; rfl) | rfl) hJ1
    · refine y_iconst (v := 1) Z dX6_shareAt_16 (by decide) ?_
      refine y_goto (tgt := 21) Z dX6_shareAt_17 (by decide) ?_
      exact y_eq rfl rfl (st' := [.int (mv_an (mv_it t (S 0 0)) (mv_is q)), .ref (aS 0)]) (by first | (simp only [mv_an, h5, h7, if_true, if_false, not_false_eq_true, not_true_eq_false, ↓reduceIte]; done) | (simp only [mv_an, h5, h7, if_true, if_false, not_false_eq_true, not_true_eq_false, ↓reduceIte, wMix, wLog, wPic, wRep, wScr, wVM, wMd, sR_eq, sR_ne, sF_eq, sF_ne, upd_eq, upd_ne, gs_eq, gs_ne, gm_4, gm_ne, Nat.reduceBEq]; done) | (with_reducible rfl) | contradiction | (simp only [mv_an, h5, h7, if_true, if_false, not_false_eq_true, not_true_eq_false, ↓reduceIte]; rfl) | rfl) hJ1
set_option maxHeartbeats 4000000 in
set_option maxRecDepth 100000 in
theorem k_X6_runs (l : Launch) (D : va_G) {cI : ClassId} {tys : List (ClassId × FieldType)} (ht0 : tys[0]? = some (cI, .int)) (aS : Nat → Nat) (S : Nat → Nat → Int32) (h_n : (S 0 1) ≤ 100) (h_v : lgv (S 3) (S 0 1)) (h_c : (S 0 0) ≤ 5000) (sz : Nat) : kI l yX6_runs cX6_runs 1 (some .int) { frames := 6, cells := 0, slots := 0, locals := 138 } D tys [.ref (aS 0)] (wMd cI aS S) (wMdR cI aS (S 0 0) (S 0 1) 0 ((gtX (S 3) (S 0 1) (S 0 0) (-1) (S 1)).2.1) ((gtX (S 3) (S 0 1) (S 0 0) (-1) (S 1)).2.2.1) (S 0 5) (S 0 6) (S 0 7) (S 0 8) (S 0 9) (S 0 10) (S 0 11) (S 0 12) ((gtX (S 3) (S 0 1) (S 0 0) (-1) (S 1)).1) (S 2) (S 3) (S 4) (S 5) (S 6)) ((gtX (S 3) (S 0 1) (S 0 0) (-1) (S 1)).2.1) 0 0 sz := by
  refine y_enterI (cc := cX6_runs) (maxL := 1) (ret := (some .int)) (own := RX6) (by decide) rfl (lv0 := [(0, .ref (aS 0))]) rfl (Nat.le_of_ble_eq_true rfl) ?_
  intro p e s m args below meth c A Z hr hlk _
  refine y_aload_n Z dX6_runs_0 0 rfl rfl ?_
  refine y_iconst (v := 0) Z dX6_runs_1 (by decide) ?_
  refine y_put (C := RX6) (T := TX6) (N := 19) Z 6 inlX6 rfl tyX6 tyX6_ok nmX6 0 rfl 5 (by decide) fl_RX6_31 rfl rfl rfl (Nat.le_of_ble_eq_true rfl) (wMdR cI aS (S 0 0) (S 0 1) 0 (S 0 3) (S 0 4) (S 0 5) (S 0 6) (S 0 7) (S 0 8) (S 0 9) (S 0 10) (S 0 11) (S 0 12) (S 1) (S 2) (S 3) (S 4) (S 5) (S 6)) rfl dX6_runs_2 ?_
  refine y_aload_n Z dX6_runs_5 0 rfl rfl ?_
  refine y_aload_n Z dX6_runs_6 0 rfl rfl ?_
  refine y_get (C := RX6) (T := TX6) (N := 19) Z 6 inlX6 rfl 0 rfl 2 (by decide) fl_RX6_71 rfl dX6_runs_7 ?_
  refine y_iconst (v := -1) Z dX6_runs_10 (by decide) ?_
  refine y_VVw Z (k_X6_goesTo l D ht0 aS (sF S 0 2 0) (S 0 0) (-1) (by first | exact h_n | (simp only [sR_eq, sR_ne, sF_eq, sF_ne, upd_eq, upd_ne, Nat.reduceBEq]; exact h_n)) (by first | exact h_v | (simp only [sR_eq, sR_ne, sF_eq, sF_ne, upd_eq, upd_ne, Nat.reduceBEq]; exact h_v)) (by first | exact h_c | (simp only [sR_eq, sR_ne, sF_eq, sF_ne, upd_eq, upd_ne, Nat.reduceBEq]; exact h_c))) (y_cwV 2 Z ml_RX6_161 im_X6_goesTo se_X6_goesTo in_X6 co_X6_goesTo rfl rfl hd_X6_goesTo ⟨Nat.le_of_ble_eq_true rfl, Nat.le_of_ble_eq_true rfl⟩) List.nil List.nil (by simp only [List.nil_append, List.append_nil, wMix, wLog, wPic, wRep, wScr, wVM, wMd, sR_eq, sR_ne, sF_eq, sF_ne, upd_eq, upd_ne, gs_eq, gs_ne, gm_4, gm_ne, Nat.reduceBEq]) 6 0 rfl rfl rfl rfl (Nat.le_of_ble_eq_true rfl) dX6_runs_11 ⟨Nat.le_of_ble_eq_true rfl, Nat.le_of_ble_eq_true rfl⟩ (wMdR cI aS (S 0 0) (S 0 1) 0 ((gtX (S 3) (S 0 1) (S 0 0) (-1) (S 1)).2.1) ((gtX (S 3) (S 0 1) (S 0 0) (-1) (S 1)).2.2.1) (S 0 5) (S 0 6) (S 0 7) (S 0 8) (S 0 9) (S 0 10) (S 0 11) (S 0 12) ((gtX (S 3) (S 0 1) (S 0 0) (-1) (S 1)).1) (S 2) (S 3) (S 4) (S 5) (S 6)) (by simp only [List.nil_append, List.append_nil, wMix, wLog, wPic, wRep, wScr, wVM, wMd, sR_eq, sR_ne, sF_eq, sF_ne, upd_eq, upd_ne, gs_eq, gs_ne, gm_4, gm_ne, Nat.reduceBEq]) ?_
  refine y_aload_n Z dX6_runs_14 0 rfl rfl ?_
  refine y_get (C := RX6) (T := TX6) (N := 19) Z 6 inlX6 rfl 0 rfl 6 (by decide) fl_RX6_50 rfl dX6_runs_15 ?_
  exact y_retI Z hr hlk dX6_runs_18 (by first | (with_reducible rfl) | (simp only [wMix, wLog, wPic, wRep, wScr, wVM, wMd, sR_eq, sR_ne, sF_eq, sF_ne, upd_eq, upd_ne, gs_eq, gs_ne, gm_4, gm_ne, Nat.reduceBEq]; done) | rfl) (by first | (with_reducible rfl) | (simp only [wMix, wLog, wPic, wRep, wScr, wVM, wMd, sR_eq, sR_ne, sF_eq, sF_ne, upd_eq, upd_ne, gs_eq, gs_ne, gm_4, gm_ne, Nat.reduceBEq]; done) | rfl)
set_option maxHeartbeats 4000000 in
set_option maxRecDepth 100000 in
theorem k_X6_isAct (l : Launch) (D : va_G) {cI : ClassId} {tys : List (ClassId × FieldType)} (ht0 : tys[0]? = some (cI, .int)) (aS : Nat → Nat) (S : Nat → Nat → Int32) (a : Int32) (sz : Nat) : kI l yX6_isAct cX6_isAct 2 (some .boolean) { frames := 1, cells := 0, slots := 0, locals := 25 } D tys [.ref (aS 0), .int a] (wMd cI aS S) (wMd cI aS S) (mv_ia a (S 0 1)) 0 0 sz := by
  refine y_enterI (cc := cX6_isAct) (maxL := 2) (ret := (some .boolean)) (own := RX6) (by decide) rfl (lv0 := [(0, .ref (aS 0)), (1, .int a)]) rfl (Nat.le_of_ble_eq_true rfl) ?_
  intro p e s m args below meth c A Z hr hlk _
  refine y_iload_n Z dX6_isAct_0 1 rfl rfl ?_
  refine y_i2l Z dX6_isAct_1 ?_
  refine y_lconst (v := 0) Z dX6_isAct_2 (by decide) ?_
  refine y_aload_n Z dX6_isAct_3 0 rfl rfl ?_
  refine y_get (C := RX6) (T := TX6) (N := 19) Z 6 inlX6 rfl 0 rfl 4 (by decide) fl_RX6_68 rfl dX6_isAct_4 ?_
  refine y_i2l Z dX6_isAct_7 ?_
  refine y_lconst (v := 1) Z dX6_isAct_8 (by decide) ?_
  refine y_lsub Z dX6_isAct_9 ?_
  refine y_SI Z (k_X6_in l D ht0 (Int32.toInt64 a) 0 ((Int32.toInt64 (S 0 1)) - 1)) (y_cwS 3 Z ml_RX6_37 st_X6_in in_X6 co_X6_in rfl rfl hs_X6_in ⟨Nat.le_of_ble_eq_true rfl, Nat.le_of_ble_eq_true rfl⟩) [] rfl (by decide) rfl rfl (Nat.le_of_ble_eq_true rfl) dX6_isAct_10 ⟨Nat.le_of_ble_eq_true rfl, Nat.le_of_ble_eq_true rfl⟩ [] rfl rfl (wMd cI aS S) rfl ?_
  exact y_retZ Z hr hlk ((nb01 (mv_in01 _ _ _))) dX6_isAct_13 (by first | (simp only [mv_ia, if_true, if_false, not_false_eq_true, not_true_eq_false, ↓reduceIte]; done) | (simp only [mv_ia, if_true, if_false, not_false_eq_true, not_true_eq_false, ↓reduceIte, wMix, wLog, wPic, wRep, wScr, wVM, wMd, sR_eq, sR_ne, sF_eq, sF_ne, upd_eq, upd_ne, gs_eq, gs_ne, gm_4, gm_ne, Nat.reduceBEq]; done) | (with_reducible rfl) | contradiction | (simp only [mv_ia, if_true, if_false, not_false_eq_true, not_true_eq_false, ↓reduceIte]; rfl) | rfl) (by first | (simp only [mv_ia, if_true, if_false, not_false_eq_true, not_true_eq_false, ↓reduceIte]; done) | (simp only [mv_ia, if_true, if_false, not_false_eq_true, not_true_eq_false, ↓reduceIte, wMix, wLog, wPic, wRep, wScr, wVM, wMd, sR_eq, sR_ne, sF_eq, sF_ne, upd_eq, upd_ne, gs_eq, gs_ne, gm_4, gm_ne, Nat.reduceBEq]; done) | (with_reducible rfl) | contradiction | (simp only [mv_ia, if_true, if_false, not_false_eq_true, not_true_eq_false, ↓reduceIte]; rfl) | rfl)
set_option maxHeartbeats 4000000 in
set_option maxRecDepth 100000 in
theorem k_X6_act (l : Launch) (D : va_G) {cI : ClassId} {tys : List (ClassId × FieldType)} (ht0 : tys[0]? = some (cI, .int)) (aS : Nat → Nat) (S : Nat → Nat → Int32) (a : Int32) (w : Int32) (h_n : (S 0 1) ≤ 100) (sz : Nat) : kI l yX6_act cX6_act 3 (some .int) { frames := 2, cells := 0, slots := 0, locals := 46 } D tys [.ref (aS 0), .int a, .int w] (wMd cI aS S) (wMdR cI aS (S 0 0) (S 0 1) (mv_gf (mv_ia a (S 0 1)) (mv_in (Int32.toInt64 w) 0 3) 1) (S 0 3) (S 0 4) (S 0 5) (S 0 6) (S 0 7) (S 0 8) (S 0 9) (S 0 10) (S 0 11) (S 0 12) (S 1) (S 2) (S 3) (S 4) (S 5) (S 6)) (if mv_go (mv_ia a (S 0 1)) (mv_in (Int32.toInt64 w) 0 3) 1 = 0 then 0 else (S 3) (cl (6 * a + w))) 0 0 sz := by
  refine y_enterI (cc := cX6_act) (maxL := 3) (ret := (some .int)) (own := RX6) (by decide) rfl (lv0 := [(0, .ref (aS 0)), (1, .int a), (2, .int w)]) rfl (Nat.le_of_ble_eq_true rfl) ?_
  intro p e s m args below meth c A Z hr hlk _
  refine y_aload_n Z dX6_act_0 0 rfl rfl ?_
  refine y_aload_n Z dX6_act_1 0 rfl rfl ?_
  refine y_iload_n Z dX6_act_2 1 rfl rfl ?_
  refine y_VIw Z (k_X6_isAct l D ht0 aS S a) (y_cwV 1 Z ml_RX6_176 im_X6_isAct se_X6_isAct in_X6 co_X6_isAct rfl rfl hd_X6_isAct ⟨Nat.le_of_ble_eq_true rfl, Nat.le_of_ble_eq_true rfl⟩) List.nil List.nil (by simp only [List.nil_append, List.append_nil, wMix, wLog, wPic, wRep, wScr, wVM, wMd, sR_eq, sR_ne, sF_eq, sF_ne, upd_eq, upd_ne, gs_eq, gs_ne, gm_4, gm_ne, Nat.reduceBEq]) 6 0 rfl rfl rfl rfl (Nat.le_of_ble_eq_true rfl) dX6_act_3 ⟨Nat.le_of_ble_eq_true rfl, Nat.le_of_ble_eq_true rfl⟩ (wMd cI aS S) (by simp only [List.nil_append, List.append_nil, wMix, wLog, wPic, wRep, wScr, wVM, wMd, sR_eq, sR_ne, sF_eq, sF_ne, upd_eq, upd_ne, gs_eq, gs_ne, gm_4, gm_ne, Nat.reduceBEq]) ?_
  refine y_eq rfl rfl (st' := [.int (mv_ia a (S 0 1)), .ref (aS 0)]) (by first | with_reducible rfl | simp only [wMix, wLog, wPic, wRep, wScr, wVM, wMd, sR_eq, sR_ne, sF_eq, sF_ne, upd_eq, upd_ne, gs_eq, gs_ne, gm_4, gm_ne, Nat.reduceBEq]) ?_
  refine y_iload_n Z dX6_act_6 2 rfl rfl ?_
  refine y_i2l Z dX6_act_7 ?_
  refine y_lconst (v := 0) Z dX6_act_8 (by decide) ?_
  refine y_ldc2 Z (3) ct_RX6_148 dX6_act_9 ?_
  refine y_SI Z (k_X6_in l D ht0 (Int32.toInt64 w) 0 3) (y_cwS 3 Z ml_RX6_37 st_X6_in in_X6 co_X6_in rfl rfl hs_X6_in ⟨Nat.le_of_ble_eq_true rfl, Nat.le_of_ble_eq_true rfl⟩) [] rfl (by decide) rfl rfl (Nat.le_of_ble_eq_true rfl) dX6_act_12 ⟨Nat.le_of_ble_eq_true rfl, Nat.le_of_ble_eq_true rfl⟩ [] rfl rfl (wMd cI aS S) rfl ?_
  refine y_iconst (v := 1) Z dX6_act_15 (by decide) ?_
  refine y_VIw Z (k_X6_goes l D ht0 aS S (mv_ia a (S 0 1)) (mv_in (Int32.toInt64 w) 0 3) 1) (y_cwV 3 Z ml_RX6_84 im_X6_goes se_X6_goes in_X6 co_X6_goes rfl rfl hd_X6_goes ⟨Nat.le_of_ble_eq_true rfl, Nat.le_of_ble_eq_true rfl⟩) List.nil List.nil (by simp only [List.nil_append, List.append_nil, wMix, wLog, wPic, wRep, wScr, wVM, wMd, sR_eq, sR_ne, sF_eq, sF_ne, upd_eq, upd_ne, gs_eq, gs_ne, gm_4, gm_ne, Nat.reduceBEq]) 6 0 rfl rfl rfl rfl (Nat.le_of_ble_eq_true rfl) dX6_act_16 ⟨Nat.le_of_ble_eq_true rfl, Nat.le_of_ble_eq_true rfl⟩ (wMdR cI aS (S 0 0) (S 0 1) (mv_gf (mv_ia a (S 0 1)) (mv_in (Int32.toInt64 w) 0 3) 1) (S 0 3) (S 0 4) (S 0 5) (S 0 6) (S 0 7) (S 0 8) (S 0 9) (S 0 10) (S 0 11) (S 0 12) (S 1) (S 2) (S 3) (S 4) (S 5) (S 6)) (by simp only [List.nil_append, List.append_nil, wMix, wLog, wPic, wRep, wScr, wVM, wMd, sR_eq, sR_ne, sF_eq, sF_ne, upd_eq, upd_ne, gs_eq, gs_ne, gm_4, gm_ne, Nat.reduceBEq]) ?_
  refine y_eq rfl rfl (st' := [.int (mv_go (mv_ia a (S 0 1)) (mv_in (Int32.toInt64 w) 0 3) 1)]) (by first | with_reducible rfl | simp only [wMix, wLog, wPic, wRep, wScr, wVM, wMd, sR_eq, sR_ne, sF_eq, sF_ne, upd_eq, upd_ne, gs_eq, gs_ne, gm_4, gm_ne, Nat.reduceBEq]) ?_
  refine y_if_eq (tgt := 36) Z dX6_act_19 (by decide) (fun h1 => ?_) (fun h2 => ?_)
  · refine y_iconst (v := 0) Z dX6_act_36 (by decide) ?_
    exact y_retI Z hr hlk dX6_act_37 (by first | (simp only [eq_true h1, if_true, if_false, not_false_eq_true, not_true_eq_false, ↓reduceIte]; done) | (simp only [eq_true h1, if_true, if_false, not_false_eq_true, not_true_eq_false, ↓reduceIte, wMix, wLog, wPic, wRep, wScr, wVM, wMd, sR_eq, sR_ne, sF_eq, sF_ne, upd_eq, upd_ne, gs_eq, gs_ne, gm_4, gm_ne, Nat.reduceBEq]; done) | (with_reducible rfl) | contradiction | (simp only [eq_true h1, if_true, if_false, not_false_eq_true, not_true_eq_false, ↓reduceIte]; rfl) | rfl) (by first | (simp only [eq_true h1, if_true, if_false, not_false_eq_true, not_true_eq_false, ↓reduceIte]; done) | (simp only [eq_true h1, if_true, if_false, not_false_eq_true, not_true_eq_false, ↓reduceIte, wMix, wLog, wPic, wRep, wScr, wVM, wMd, sR_eq, sR_ne, sF_eq, sF_ne, upd_eq, upd_ne, gs_eq, gs_ne, gm_4, gm_ne, Nat.reduceBEq]; done) | (with_reducible rfl) | contradiction | (simp only [eq_true h1, if_true, if_false, not_false_eq_true, not_true_eq_false, ↓reduceIte]; rfl) | rfl)
  · refine y_aload_n Z dX6_act_22 0 rfl rfl ?_
    refine y_get (C := RX6) (T := TX6) (N := 19) Z 6 inlX6 rfl 0 rfl 3 (by decide) fl_RX6_16 rfl dX6_act_23 ?_
    refine y_bipush (v := 6) Z dX6_act_26 (by decide) ?_
    refine y_iload_n Z dX6_act_28 1 rfl rfl ?_
    refine y_imul Z dX6_act_29 ?_
    refine y_iload_n Z dX6_act_30 2 rfl rfl ?_
    refine y_iadd Z dX6_act_31 ?_
    refine y_iald Z 3 0 rfl ht0 (aw_in (ia_in h_n (go_a h2)).1 (in_k (n := 3) (by decide) (go_b h2))) (cl (6 * a + w)) rfl dX6_act_32 ?_
    refine y_goto (tgt := 37) Z dX6_act_33 (by decide) ?_
    exact y_retI Z hr hlk dX6_act_37 (by first | (simp only [h2, if_true, if_false, not_false_eq_true, not_true_eq_false, ↓reduceIte]; done) | (simp only [h2, if_true, if_false, not_false_eq_true, not_true_eq_false, ↓reduceIte, wMix, wLog, wPic, wRep, wScr, wVM, wMd, sR_eq, sR_ne, sF_eq, sF_ne, upd_eq, upd_ne, gs_eq, gs_ne, gm_4, gm_ne, Nat.reduceBEq]; done) | (with_reducible rfl) | contradiction | (simp only [h2, if_true, if_false, not_false_eq_true, not_true_eq_false, ↓reduceIte]; rfl) | rfl) (by first | (simp only [h2, if_true, if_false, not_false_eq_true, not_true_eq_false, ↓reduceIte]; done) | (simp only [h2, if_true, if_false, not_false_eq_true, not_true_eq_false, ↓reduceIte, wMix, wLog, wPic, wRep, wScr, wVM, wMd, sR_eq, sR_ne, sF_eq, sF_ne, upd_eq, upd_ne, gs_eq, gs_ne, gm_4, gm_ne, Nat.reduceBEq]; done) | (with_reducible rfl) | contradiction | (simp only [h2, if_true, if_false, not_false_eq_true, not_true_eq_false, ↓reduceIte]; rfl) | rfl)
set_option maxHeartbeats 4000000 in
set_option maxRecDepth 100000 in
theorem k_X6_takesOut (l : Launch) (D : va_G) {cI : ClassId} {tys : List (ClassId × FieldType)} (ht0 : tys[0]? = some (cI, .int)) (aS : Nat → Nat) (S : Nat → Nat → Int32) (a : Int32) (h_a : vp_in a 100) (h_m : vp_in ((S 0 1) - 1) 100) (h_v2 : lgv (rxX (S 3) ((S 0 1) - 1) a).1 ((S 0 1) - 1)) (h_c : (S 0 0) ≤ 5000) (sz : Nat) : kI l yX6_takesOut cX6_takesOut 3 (some .int) { frames := 6, cells := 0, slots := 0, locals := 138 } D tys [.ref (aS 0), .int a] (wMd cI aS S) (wMdR cI aS (S 0 0) ((S 0 1) - 1) (S 0 2) ((gtX (rxX (S 3) ((S 0 1) - 1) a).1 ((S 0 1) - 1) (S 0 0) (-1) (S 1)).2.1) ((gtX (rxX (S 3) ((S 0 1) - 1) a).1 ((S 0 1) - 1) (S 0 0) (-1) (S 1)).2.2.1) (S 0 5) (S 0 6) (S 0 7) (S 0 8) (S 0 9) (S 0 10) (S 0 11) (S 0 12) ((gtX (rxX (S 3) ((S 0 1) - 1) a).1 ((S 0 1) - 1) (S 0 0) (-1) (S 1)).1) (S 2) ((rxX (S 3) ((S 0 1) - 1) a).1) (S 4) (S 5) (S 6)) ((S 0 1) - 1) 0 0 sz := by
  refine y_enterI (cc := cX6_takesOut) (maxL := 3) (ret := (some .int)) (own := RX6) (by decide) rfl (lv0 := [(0, .ref (aS 0)), (1, .int a)]) rfl (Nat.le_of_ble_eq_true rfl) ?_
  intro p e s m args below meth c A Z hr hlk _
  have L15 : ∀ (n : Nat) (x : (Nat → Int32) × Int32), (∃ k : Nat, k ≤ 600 ∧ x.2 = nI k) → (rxC (S 0 1 - 1)) (lw (rxC (S 0 1 - 1)) rxB n x) = false → lw (rxC (S 0 1 - 1)) rxB n x = (lw (rxC (S 0 1 - 1)) rxB 601 (S 3, 6 * a)) → Yy p l e { frames := 6, cells := 0, slots := 0, locals := 138 } s m args below meth c (QI D tys A (wMdR cI aS (S 0 0) ((S 0 1) - 1) (S 0 2) ((gtX (rxX (S 3) ((S 0 1) - 1) a).1 ((S 0 1) - 1) (S 0 0) (-1) (S 1)).2.1) ((gtX (rxX (S 3) ((S 0 1) - 1) a).1 ((S 0 1) - 1) (S 0 0) (-1) (S 1)).2.2.1) (S 0 5) (S 0 6) (S 0 7) (S 0 8) (S 0 9) (S 0 10) (S 0 11) (S 0 12) ((gtX (rxX (S 3) ((S 0 1) - 1) a).1 ((S 0 1) - 1) (S 0 0) (-1) (S 1)).1) (S 2) ((rxX (S 3) ((S 0 1) - 1) a).1) (S 4) (S 5) (S 6)) ((S 0 1) - 1) below args s 0 0) D A 3 0 0 (wMdR cI aS (S 0 0) (S 0 1 - 1) (S 0 2) (S 0 3) (S 0 4) (S 0 5) (S 0 6) (S 0 7) (S 0 8) (S 0 9) (S 0 10) (S 0 11) (S 0 12) (S 1) (S 2) x.1 (S 4) (S 5) (S 6)) [(0, .ref (aS 0)), (1, .int a), (2, .int x.2)] [] 15 := by
    intro n; induction n with
    | zero =>
      intro x hI hc hx
      refine y_iload_n Z dX6_takesOut_15 2 rfl rfl ?_
      refine y_bipush (v := 6) Z dX6_takesOut_16 (by decide) ?_
      refine y_aload_n Z dX6_takesOut_18 0 rfl rfl ?_
      refine y_get (C := RX6) (T := TX6) (N := 19) Z 6 inlX6 rfl 0 rfl 4 (by decide) fl_RX6_68 rfl dX6_takesOut_19 ?_
      refine y_imul Z dX6_takesOut_22 ?_
      refine y_icmp_ge (tgt := 47) Z dX6_takesOut_23 (by decide) (fun h1 => ?_) (fun h2 => ?_)
      · have hb : (rxC (S 0 1 - 1)) x = false := by simp only [rxC, h1, ↓reduceIte]
        have ex : x = (lw (rxC (S 0 1 - 1)) rxB 601 (S 3, 6 * a)) := by rw [← hx, lw_f hb]
        refine y_aload_n Z dX6_takesOut_47 0 rfl rfl ?_
        refine y_aload_n Z dX6_takesOut_48 0 rfl rfl ?_
        refine y_get (C := RX6) (T := TX6) (N := 19) Z 6 inlX6 rfl 0 rfl 2 (by decide) fl_RX6_71 rfl dX6_takesOut_49 ?_
        refine y_iconst (v := -1) Z dX6_takesOut_52 (by decide) ?_
        refine y_VVw Z (k_X6_goesTo l D ht0 aS (sF (sR S 3 x.1) 0 1 (S 0 1 - 1)) (S 0 0) (-1) (by first | exact (m_le h_m) | (simp only [sR_eq, sR_ne, sF_eq, sF_ne, upd_eq, upd_ne, Nat.reduceBEq]; exact (m_le h_m))) (by simp only [sR_eq, sR_ne, sF_eq, sF_ne, upd_eq, upd_ne, Nat.reduceBEq]; rw [ex]; exact h_v2) (by first | exact h_c | (simp only [sR_eq, sR_ne, sF_eq, sF_ne, upd_eq, upd_ne, Nat.reduceBEq]; exact h_c))) (y_cwV 2 Z ml_RX6_161 im_X6_goesTo se_X6_goesTo in_X6 co_X6_goesTo rfl rfl hd_X6_goesTo ⟨Nat.le_of_ble_eq_true rfl, Nat.le_of_ble_eq_true rfl⟩) List.nil List.nil (by simp only [List.nil_append, List.append_nil, wMix, wLog, wPic, wRep, wScr, wVM, wMd, sR_eq, sR_ne, sF_eq, sF_ne, upd_eq, upd_ne, gs_eq, gs_ne, gm_4, gm_ne, Nat.reduceBEq]) 6 0 rfl rfl rfl rfl (Nat.le_of_ble_eq_true rfl) dX6_takesOut_53 ⟨Nat.le_of_ble_eq_true rfl, Nat.le_of_ble_eq_true rfl⟩ (wMdR cI aS (S 0 0) (S 0 1 - 1) (S 0 2) ((gtX x.1 (S 0 1 - 1) (S 0 0) (-1) (S 1)).2.1) ((gtX x.1 (S 0 1 - 1) (S 0 0) (-1) (S 1)).2.2.1) (S 0 5) (S 0 6) (S 0 7) (S 0 8) (S 0 9) (S 0 10) (S 0 11) (S 0 12) ((gtX x.1 (S 0 1 - 1) (S 0 0) (-1) (S 1)).1) (S 2) x.1 (S 4) (S 5) (S 6)) (by simp only [List.nil_append, List.append_nil, wMix, wLog, wPic, wRep, wScr, wVM, wMd, sR_eq, sR_ne, sF_eq, sF_ne, upd_eq, upd_ne, gs_eq, gs_ne, gm_4, gm_ne, Nat.reduceBEq]) ?_
        refine y_aload_n Z dX6_takesOut_56 0 rfl rfl ?_
        refine y_get (C := RX6) (T := TX6) (N := 19) Z 6 inlX6 rfl 0 rfl 4 (by decide) fl_RX6_68 rfl dX6_takesOut_57 ?_
        exact y_retI Z hr hlk dX6_takesOut_60 (by subst ex; first | (simp only [rxX, h1, if_true, if_false, not_false_eq_true, not_true_eq_false, ↓reduceIte]; done) | (simp only [rxX, h1, if_true, if_false, not_false_eq_true, not_true_eq_false, ↓reduceIte, wMix, wLog, wPic, wRep, wScr, wVM, wMd, sR_eq, sR_ne, sF_eq, sF_ne, upd_eq, upd_ne, gs_eq, gs_ne, gm_4, gm_ne, Nat.reduceBEq]; done) | (with_reducible rfl) | contradiction | (simp only [rxX, h1, if_true, if_false, not_false_eq_true, not_true_eq_false, ↓reduceIte]; rfl) | rfl) (by subst ex; first | (simp only [rxX, h1, if_true, if_false, not_false_eq_true, not_true_eq_false, ↓reduceIte]; done) | (simp only [rxX, h1, if_true, if_false, not_false_eq_true, not_true_eq_false, ↓reduceIte, wMix, wLog, wPic, wRep, wScr, wVM, wMd, sR_eq, sR_ne, sF_eq, sF_ne, upd_eq, upd_ne, gs_eq, gs_ne, gm_4, gm_ne, Nat.reduceBEq]; done) | (with_reducible rfl) | contradiction | (simp only [rxX, h1, if_true, if_false, not_false_eq_true, not_true_eq_false, ↓reduceIte]; rfl) | rfl)
      · exact absurd (show (rxC (S 0 1 - 1)) x = true by simp only [rxC, h2, ↓reduceIte]) (by rw [show (rxC (S 0 1 - 1)) x = false from hc]; decide)
    | succ n ih =>
      intro x hI hc hx
      refine y_iload_n Z dX6_takesOut_15 2 rfl rfl ?_
      refine y_bipush (v := 6) Z dX6_takesOut_16 (by decide) ?_
      refine y_aload_n Z dX6_takesOut_18 0 rfl rfl ?_
      refine y_get (C := RX6) (T := TX6) (N := 19) Z 6 inlX6 rfl 0 rfl 4 (by decide) fl_RX6_68 rfl dX6_takesOut_19 ?_
      refine y_imul Z dX6_takesOut_22 ?_
      refine y_icmp_ge (tgt := 47) Z dX6_takesOut_23 (by decide) (fun h3 => ?_) (fun h4 => ?_)
      · have hb : (rxC (S 0 1 - 1)) x = false := by simp only [rxC, h3, ↓reduceIte]
        have ex : x = (lw (rxC (S 0 1 - 1)) rxB 601 (S 3, 6 * a)) := by rw [← hx, lw_f hb]
        refine y_aload_n Z dX6_takesOut_47 0 rfl rfl ?_
        refine y_aload_n Z dX6_takesOut_48 0 rfl rfl ?_
        refine y_get (C := RX6) (T := TX6) (N := 19) Z 6 inlX6 rfl 0 rfl 2 (by decide) fl_RX6_71 rfl dX6_takesOut_49 ?_
        refine y_iconst (v := -1) Z dX6_takesOut_52 (by decide) ?_
        refine y_VVw Z (k_X6_goesTo l D ht0 aS (sF (sR S 3 x.1) 0 1 (S 0 1 - 1)) (S 0 0) (-1) (by first | exact (m_le h_m) | (simp only [sR_eq, sR_ne, sF_eq, sF_ne, upd_eq, upd_ne, Nat.reduceBEq]; exact (m_le h_m))) (by simp only [sR_eq, sR_ne, sF_eq, sF_ne, upd_eq, upd_ne, Nat.reduceBEq]; rw [ex]; exact h_v2) (by first | exact h_c | (simp only [sR_eq, sR_ne, sF_eq, sF_ne, upd_eq, upd_ne, Nat.reduceBEq]; exact h_c))) (y_cwV 2 Z ml_RX6_161 im_X6_goesTo se_X6_goesTo in_X6 co_X6_goesTo rfl rfl hd_X6_goesTo ⟨Nat.le_of_ble_eq_true rfl, Nat.le_of_ble_eq_true rfl⟩) List.nil List.nil (by simp only [List.nil_append, List.append_nil, wMix, wLog, wPic, wRep, wScr, wVM, wMd, sR_eq, sR_ne, sF_eq, sF_ne, upd_eq, upd_ne, gs_eq, gs_ne, gm_4, gm_ne, Nat.reduceBEq]) 6 0 rfl rfl rfl rfl (Nat.le_of_ble_eq_true rfl) dX6_takesOut_53 ⟨Nat.le_of_ble_eq_true rfl, Nat.le_of_ble_eq_true rfl⟩ (wMdR cI aS (S 0 0) (S 0 1 - 1) (S 0 2) ((gtX x.1 (S 0 1 - 1) (S 0 0) (-1) (S 1)).2.1) ((gtX x.1 (S 0 1 - 1) (S 0 0) (-1) (S 1)).2.2.1) (S 0 5) (S 0 6) (S 0 7) (S 0 8) (S 0 9) (S 0 10) (S 0 11) (S 0 12) ((gtX x.1 (S 0 1 - 1) (S 0 0) (-1) (S 1)).1) (S 2) x.1 (S 4) (S 5) (S 6)) (by simp only [List.nil_append, List.append_nil, wMix, wLog, wPic, wRep, wScr, wVM, wMd, sR_eq, sR_ne, sF_eq, sF_ne, upd_eq, upd_ne, gs_eq, gs_ne, gm_4, gm_ne, Nat.reduceBEq]) ?_
        refine y_aload_n Z dX6_takesOut_56 0 rfl rfl ?_
        refine y_get (C := RX6) (T := TX6) (N := 19) Z 6 inlX6 rfl 0 rfl 4 (by decide) fl_RX6_68 rfl dX6_takesOut_57 ?_
        exact y_retI Z hr hlk dX6_takesOut_60 (by subst ex; first | (simp only [rxX, h3, if_true, if_false, not_false_eq_true, not_true_eq_false, ↓reduceIte]; done) | (simp only [rxX, h3, if_true, if_false, not_false_eq_true, not_true_eq_false, ↓reduceIte, wMix, wLog, wPic, wRep, wScr, wVM, wMd, sR_eq, sR_ne, sF_eq, sF_ne, upd_eq, upd_ne, gs_eq, gs_ne, gm_4, gm_ne, Nat.reduceBEq]; done) | (with_reducible rfl) | contradiction | (simp only [rxX, h3, if_true, if_false, not_false_eq_true, not_true_eq_false, ↓reduceIte]; rfl) | rfl) (by subst ex; first | (simp only [rxX, h3, if_true, if_false, not_false_eq_true, not_true_eq_false, ↓reduceIte]; done) | (simp only [rxX, h3, if_true, if_false, not_false_eq_true, not_true_eq_false, ↓reduceIte, wMix, wLog, wPic, wRep, wScr, wVM, wMd, sR_eq, sR_ne, sF_eq, sF_ne, upd_eq, upd_ne, gs_eq, gs_ne, gm_4, gm_ne, Nat.reduceBEq]; done) | (with_reducible rfl) | contradiction | (simp only [rxX, h3, if_true, if_false, not_false_eq_true, not_true_eq_false, ↓reduceIte]; rfl) | rfl)
      · have hb : (rxC (S 0 1 - 1)) x = true := by simp only [rxC, h4, ↓reduceIte]
        refine y_aload_n Z dX6_takesOut_26 0 rfl rfl ?_
        refine y_get (C := RX6) (T := TX6) (N := 19) Z 6 inlX6 rfl 0 rfl 3 (by decide) fl_RX6_16 rfl dX6_takesOut_27 ?_
        refine y_iload_n Z dX6_takesOut_30 2 rfl rfl ?_
        refine y_aload_n Z dX6_takesOut_31 0 rfl rfl ?_
        refine y_get (C := RX6) (T := TX6) (N := 19) Z 6 inlX6 rfl 0 rfl 3 (by decide) fl_RX6_16 rfl dX6_takesOut_32 ?_
        refine y_iload_n Z dX6_takesOut_35 2 rfl rfl ?_
        refine y_bipush (v := 6) Z dX6_takesOut_36 (by decide) ?_
        refine y_iadd Z dX6_takesOut_38 ?_
        refine y_iald Z 3 0 rfl ht0 (rx_i h_m hI (by assumption)).2 (cl (x.2 + 6)) rfl dX6_takesOut_39 ?_
        refine y_iast Z 3 0 rfl ht0 (rx_i h_m hI (by assumption)).1 (cl x.2) rfl (wMdR cI aS (S 0 0) (S 0 1 - 1) (S 0 2) (S 0 3) (S 0 4) (S 0 5) (S 0 6) (S 0 7) (S 0 8) (S 0 9) (S 0 10) (S 0 11) (S 0 12) (S 1) (S 2) (upd x.1 (cl x.2) (x.1 (cl (x.2 + 6)))) (S 4) (S 5) (S 6)) rfl dX6_takesOut_40 ?_
        refine y_iinc Z [(2, .int (x.2 + 1)), (0, .ref (aS 0)), (1, .int a)] dX6_takesOut_41 2 rfl rfl (by decide) rfl ?_
        refine y_goto (tgt := 15) Z dX6_takesOut_44 (by decide) ?_
        refine y_lv [1, 2, 0] (lv' := [(0, .ref (aS 0)), (1, .int a), (2, .int (x.2 + 1))]) rfl ?_
        refine y_eq (ws' := (wMdR cI aS (S 0 0) (S 0 1 - 1) (S 0 2) (S 0 3) (S 0 4) (S 0 5) (S 0 6) (S 0 7) (S 0 8) (S 0 9) (S 0 10) (S 0 11) (S 0 12) (S 1) (S 2) ((rxB x).1) (S 4) (S 5) (S 6))) (lv' := [(0, .ref (aS 0)), (1, .int a), (2, .int ((rxB x).2))]) (st' := []) (by first | (simp only [rxB, h4, if_true, if_false, not_false_eq_true, not_true_eq_false, ↓reduceIte]; done) | (simp only [rxB, h4, if_true, if_false, not_false_eq_true, not_true_eq_false, ↓reduceIte, wMix, wLog, wPic, wRep, wScr, wVM, wMd, sR_eq, sR_ne, sF_eq, sF_ne, upd_eq, upd_ne, gs_eq, gs_ne, gm_4, gm_ne, Nat.reduceBEq]; done) | (with_reducible rfl) | contradiction | (simp only [rxB, h4, if_true, if_false, not_false_eq_true, not_true_eq_false, ↓reduceIte]; rfl) | rfl) (by first | (simp only [rxB, h4, if_true, if_false, not_false_eq_true, not_true_eq_false, ↓reduceIte]; done) | (simp only [rxB, h4, if_true, if_false, not_false_eq_true, not_true_eq_false, ↓reduceIte, wMix, wLog, wPic, wRep, wScr, wVM, wMd, sR_eq, sR_ne, sF_eq, sF_ne, upd_eq, upd_ne, gs_eq, gs_ne, gm_4, gm_ne, Nat.reduceBEq]; done) | (with_reducible rfl) | contradiction | (simp only [rxB, h4, if_true, if_false, not_false_eq_true, not_true_eq_false, ↓reduceIte]; rfl) | rfl) rfl ?_
        exact ih _ (rx_1 h_m hI (rx_c hb)) (by rw [lw_t hb] at hc; exact hc) (by rw [lw_t hb] at hx; exact hx)
  refine y_aload_n Z dX6_takesOut_0 0 rfl rfl ?_
  refine y_dup Z dX6_takesOut_1 rfl ?_
  refine y_get (C := RX6) (T := TX6) (N := 19) Z 6 inlX6 rfl 0 rfl 4 (by decide) fl_RX6_68 rfl dX6_takesOut_2 ?_
  refine y_iconst (v := 1) Z dX6_takesOut_5 (by decide) ?_
  refine y_isub Z dX6_takesOut_6 ?_
  refine y_put (C := RX6) (T := TX6) (N := 19) Z 6 inlX6 rfl tyX6 tyX6_ok nmX6 0 rfl 4 (by decide) fl_RX6_68 rfl rfl rfl (Nat.le_of_ble_eq_true rfl) (wMdR cI aS (S 0 0) ((S 0 1) - 1) (S 0 2) (S 0 3) (S 0 4) (S 0 5) (S 0 6) (S 0 7) (S 0 8) (S 0 9) (S 0 10) (S 0 11) (S 0 12) (S 1) (S 2) (S 3) (S 4) (S 5) (S 6)) rfl dX6_takesOut_7 ?_
  refine y_bipush (v := 6) Z dX6_takesOut_10 (by decide) ?_
  refine y_iload_n Z dX6_takesOut_12 1 rfl rfl ?_
  refine y_imul Z dX6_takesOut_13 ?_
  refine y_istore_n Z [(2, .int (6 * a)), (0, .ref (aS 0)), (1, .int a)] dX6_takesOut_14 rfl (by decide) rfl ?_
  refine y_lv [1, 2, 0] (lv' := [(0, .ref (aS 0)), (1, .int a), (2, .int (6 * a))]) rfl ?_
  exact L15 601 (S 3, 6 * a) (rx_0 h_a) (rx_stop _ h_m h_a) rfl
set_option maxHeartbeats 4000000 in
set_option maxRecDepth 100000 in
theorem k_X6_takeOut (l : Launch) (D : va_G) {cI : ClassId} {tys : List (ClassId × FieldType)} (ht0 : tys[0]? = some (cI, .int)) (aS : Nat → Nat) (S : Nat → Nat → Int32) (a : Int32) (h_a : ¬ mv_go (mv_ia a (S 0 1)) 1 1 = 0 → vp_in a 100) (h_m : ¬ mv_go (mv_ia a (S 0 1)) 1 1 = 0 → vp_in ((S 0 1) - 1) 100) (h_v2 : ¬ mv_go (mv_ia a (S 0 1)) 1 1 = 0 → lgv (rxX (S 3) ((S 0 1) - 1) a).1 ((S 0 1) - 1)) (h_c : (S 0 0) ≤ 5000) (sz : Nat) : kI l yX6_takeOut cX6_takeOut 2 (some .int) { frames := 7, cells := 0, slots := 0, locals := 160 } D tys [.ref (aS 0), .int a] (wMd cI aS S) (wMdR cI aS (S 0 0) (if mv_go (mv_ia a (S 0 1)) 1 1 = 0 then (S 0 1) else (S 0 1) - 1) (mv_gf (mv_ia a (S 0 1)) 1 1) (if mv_go (mv_ia a (S 0 1)) 1 1 = 0 then (S 0 3) else (gtX (rxX (S 3) ((S 0 1) - 1) a).1 ((S 0 1) - 1) (S 0 0) (-1) (S 1)).2.1) (if mv_go (mv_ia a (S 0 1)) 1 1 = 0 then (S 0 4) else (gtX (rxX (S 3) ((S 0 1) - 1) a).1 ((S 0 1) - 1) (S 0 0) (-1) (S 1)).2.2.1) (S 0 5) (S 0 6) (S 0 7) (S 0 8) (S 0 9) (S 0 10) (S 0 11) (S 0 12) (if mv_go (mv_ia a (S 0 1)) 1 1 = 0 then (S 1) else (gtX (rxX (S 3) ((S 0 1) - 1) a).1 ((S 0 1) - 1) (S 0 0) (-1) (S 1)).1) (S 2) (if mv_go (mv_ia a (S 0 1)) 1 1 = 0 then (S 3) else (rxX (S 3) ((S 0 1) - 1) a).1) (S 4) (S 5) (S 6)) (if mv_go (mv_ia a (S 0 1)) 1 1 = 0 then 0 else (S 0 1) - 1) 0 0 sz := by
  refine y_enterI (cc := cX6_takeOut) (maxL := 2) (ret := (some .int)) (own := RX6) (by decide) rfl (lv0 := [(0, .ref (aS 0)), (1, .int a)]) rfl (Nat.le_of_ble_eq_true rfl) ?_
  intro p e s m args below meth c A Z hr hlk _
  refine y_aload_n Z dX6_takeOut_0 0 rfl rfl ?_
  refine y_aload_n Z dX6_takeOut_1 0 rfl rfl ?_
  refine y_iload_n Z dX6_takeOut_2 1 rfl rfl ?_
  refine y_VIw Z (k_X6_isAct l D ht0 aS S a) (y_cwV 1 Z ml_RX6_176 im_X6_isAct se_X6_isAct in_X6 co_X6_isAct rfl rfl hd_X6_isAct ⟨Nat.le_of_ble_eq_true rfl, Nat.le_of_ble_eq_true rfl⟩) List.nil List.nil (by simp only [List.nil_append, List.append_nil, wMix, wLog, wPic, wRep, wScr, wVM, wMd, sR_eq, sR_ne, sF_eq, sF_ne, upd_eq, upd_ne, gs_eq, gs_ne, gm_4, gm_ne, Nat.reduceBEq]) 6 0 rfl rfl rfl rfl (Nat.le_of_ble_eq_true rfl) dX6_takeOut_3 ⟨Nat.le_of_ble_eq_true rfl, Nat.le_of_ble_eq_true rfl⟩ (wMd cI aS S) (by simp only [List.nil_append, List.append_nil, wMix, wLog, wPic, wRep, wScr, wVM, wMd, sR_eq, sR_ne, sF_eq, sF_ne, upd_eq, upd_ne, gs_eq, gs_ne, gm_4, gm_ne, Nat.reduceBEq]) ?_
  refine y_eq rfl rfl (st' := [.int (mv_ia a (S 0 1)), .ref (aS 0)]) (by first | with_reducible rfl | simp only [wMix, wLog, wPic, wRep, wScr, wVM, wMd, sR_eq, sR_ne, sF_eq, sF_ne, upd_eq, upd_ne, gs_eq, gs_ne, gm_4, gm_ne, Nat.reduceBEq]) ?_
  refine y_iconst (v := 1) Z dX6_takeOut_6 (by decide) ?_
  refine y_iconst (v := 1) Z dX6_takeOut_7 (by decide) ?_
  refine y_VIw Z (k_X6_goes l D ht0 aS S (mv_ia a (S 0 1)) 1 1) (y_cwV 3 Z ml_RX6_84 im_X6_goes se_X6_goes in_X6 co_X6_goes rfl rfl hd_X6_goes ⟨Nat.le_of_ble_eq_true rfl, Nat.le_of_ble_eq_true rfl⟩) List.nil List.nil (by simp only [List.nil_append, List.append_nil, wMix, wLog, wPic, wRep, wScr, wVM, wMd, sR_eq, sR_ne, sF_eq, sF_ne, upd_eq, upd_ne, gs_eq, gs_ne, gm_4, gm_ne, Nat.reduceBEq]) 6 0 rfl rfl rfl rfl (Nat.le_of_ble_eq_true rfl) dX6_takeOut_8 ⟨Nat.le_of_ble_eq_true rfl, Nat.le_of_ble_eq_true rfl⟩ (wMdR cI aS (S 0 0) (S 0 1) (mv_gf (mv_ia a (S 0 1)) 1 1) (S 0 3) (S 0 4) (S 0 5) (S 0 6) (S 0 7) (S 0 8) (S 0 9) (S 0 10) (S 0 11) (S 0 12) (S 1) (S 2) (S 3) (S 4) (S 5) (S 6)) (by simp only [List.nil_append, List.append_nil, wMix, wLog, wPic, wRep, wScr, wVM, wMd, sR_eq, sR_ne, sF_eq, sF_ne, upd_eq, upd_ne, gs_eq, gs_ne, gm_4, gm_ne, Nat.reduceBEq]) ?_
  refine y_eq rfl rfl (st' := [.int (mv_go (mv_ia a (S 0 1)) 1 1)]) (by first | with_reducible rfl | simp only [wMix, wLog, wPic, wRep, wScr, wVM, wMd, sR_eq, sR_ne, sF_eq, sF_ne, upd_eq, upd_ne, gs_eq, gs_ne, gm_4, gm_ne, Nat.reduceBEq]) ?_
  refine y_if_eq (tgt := 22) Z dX6_takeOut_11 (by decide) (fun h1 => ?_) (fun h2 => ?_)
  · refine y_iconst (v := 0) Z dX6_takeOut_22 (by decide) ?_
    exact y_retI Z hr hlk dX6_takeOut_23 (by first | (simp only [eq_true h1, if_true, if_false, not_false_eq_true, not_true_eq_false, ↓reduceIte]; done) | (simp only [eq_true h1, if_true, if_false, not_false_eq_true, not_true_eq_false, ↓reduceIte, wMix, wLog, wPic, wRep, wScr, wVM, wMd, sR_eq, sR_ne, sF_eq, sF_ne, upd_eq, upd_ne, gs_eq, gs_ne, gm_4, gm_ne, Nat.reduceBEq]; done) | (with_reducible rfl) | contradiction | (simp only [eq_true h1, if_true, if_false, not_false_eq_true, not_true_eq_false, ↓reduceIte]; rfl) | rfl) (by first | (simp only [eq_true h1, if_true, if_false, not_false_eq_true, not_true_eq_false, ↓reduceIte]; done) | (simp only [eq_true h1, if_true, if_false, not_false_eq_true, not_true_eq_false, ↓reduceIte, wMix, wLog, wPic, wRep, wScr, wVM, wMd, sR_eq, sR_ne, sF_eq, sF_ne, upd_eq, upd_ne, gs_eq, gs_ne, gm_4, gm_ne, Nat.reduceBEq]; done) | (with_reducible rfl) | contradiction | (simp only [eq_true h1, if_true, if_false, not_false_eq_true, not_true_eq_false, ↓reduceIte]; rfl) | rfl)
  · refine y_aload_n Z dX6_takeOut_14 0 rfl rfl ?_
    refine y_iload_n Z dX6_takeOut_15 1 rfl rfl ?_
    refine y_VIw Z (k_X6_takesOut l D ht0 aS (sF S 0 2 (mv_gf (mv_ia a (S 0 1)) 1 1)) a (by first | exact (h_a h2) | (simp only [sR_eq, sR_ne, sF_eq, sF_ne, upd_eq, upd_ne, Nat.reduceBEq]; exact (h_a h2))) (by first | exact (h_m h2) | (simp only [sR_eq, sR_ne, sF_eq, sF_ne, upd_eq, upd_ne, Nat.reduceBEq]; exact (h_m h2))) (by first | exact (h_v2 h2) | (simp only [sR_eq, sR_ne, sF_eq, sF_ne, upd_eq, upd_ne, Nat.reduceBEq]; exact (h_v2 h2))) (by first | exact h_c | (simp only [sR_eq, sR_ne, sF_eq, sF_ne, upd_eq, upd_ne, Nat.reduceBEq]; exact h_c))) (y_cwV 1 Z ml_RX6_179 im_X6_takesOut se_X6_takesOut in_X6 co_X6_takesOut rfl rfl hd_X6_takesOut ⟨Nat.le_of_ble_eq_true rfl, Nat.le_of_ble_eq_true rfl⟩) List.nil List.nil (by simp only [List.nil_append, List.append_nil, wMix, wLog, wPic, wRep, wScr, wVM, wMd, sR_eq, sR_ne, sF_eq, sF_ne, upd_eq, upd_ne, gs_eq, gs_ne, gm_4, gm_ne, Nat.reduceBEq]) 6 0 rfl rfl rfl rfl (Nat.le_of_ble_eq_true rfl) dX6_takeOut_16 ⟨Nat.le_of_ble_eq_true rfl, Nat.le_of_ble_eq_true rfl⟩ (wMdR cI aS (S 0 0) ((S 0 1) - 1) (mv_gf (mv_ia a (S 0 1)) 1 1) ((gtX (rxX (S 3) ((S 0 1) - 1) a).1 ((S 0 1) - 1) (S 0 0) (-1) (S 1)).2.1) ((gtX (rxX (S 3) ((S 0 1) - 1) a).1 ((S 0 1) - 1) (S 0 0) (-1) (S 1)).2.2.1) (S 0 5) (S 0 6) (S 0 7) (S 0 8) (S 0 9) (S 0 10) (S 0 11) (S 0 12) ((gtX (rxX (S 3) ((S 0 1) - 1) a).1 ((S 0 1) - 1) (S 0 0) (-1) (S 1)).1) (S 2) ((rxX (S 3) ((S 0 1) - 1) a).1) (S 4) (S 5) (S 6)) (by simp only [List.nil_append, List.append_nil, wMix, wLog, wPic, wRep, wScr, wVM, wMd, sR_eq, sR_ne, sF_eq, sF_ne, upd_eq, upd_ne, gs_eq, gs_ne, gm_4, gm_ne, Nat.reduceBEq]) ?_
    refine y_eq rfl rfl (st' := [.int ((S 0 1) - 1)]) (by first | with_reducible rfl | simp only [wMix, wLog, wPic, wRep, wScr, wVM, wMd, sR_eq, sR_ne, sF_eq, sF_ne, upd_eq, upd_ne, gs_eq, gs_ne, gm_4, gm_ne, Nat.reduceBEq]) ?_
    refine y_goto (tgt := 23) Z dX6_takeOut_19 (by decide) ?_
    exact y_retI Z hr hlk dX6_takeOut_23 (by first | (simp only [h2, if_true, if_false, not_false_eq_true, not_true_eq_false, ↓reduceIte]; done) | (simp only [h2, if_true, if_false, not_false_eq_true, not_true_eq_false, ↓reduceIte, wMix, wLog, wPic, wRep, wScr, wVM, wMd, sR_eq, sR_ne, sF_eq, sF_ne, upd_eq, upd_ne, gs_eq, gs_ne, gm_4, gm_ne, Nat.reduceBEq]; done) | (with_reducible rfl) | contradiction | (simp only [h2, if_true, if_false, not_false_eq_true, not_true_eq_false, ↓reduceIte]; rfl) | rfl) (by first | (simp only [h2, if_true, if_false, not_false_eq_true, not_true_eq_false, ↓reduceIte]; done) | (simp only [h2, if_true, if_false, not_false_eq_true, not_true_eq_false, ↓reduceIte, wMix, wLog, wPic, wRep, wScr, wVM, wMd, sR_eq, sR_ne, sF_eq, sF_ne, upd_eq, upd_ne, gs_eq, gs_ne, gm_4, gm_ne, Nat.reduceBEq]; done) | (with_reducible rfl) | contradiction | (simp only [h2, if_true, if_false, not_false_eq_true, not_true_eq_false, ↓reduceIte]; rfl) | rfl)
set_option maxHeartbeats 4000000 in
set_option maxRecDepth 100000 in
theorem k_X6_undo (l : Launch) (D : va_G) {cI : ClassId} {tys : List (ClassId × FieldType)} (ht0 : tys[0]? = some (cI, .int)) (aS : Nat → Nat) (S : Nat → Nat → Int32) (h_a : ¬ mv_go (mv_po (S 0 1)) 1 1 = 0 → vp_in ((S 0 1) - 1) 100) (h_m : ¬ mv_go (mv_po (S 0 1)) 1 1 = 0 → vp_in ((S 0 1) - 1) 100) (h_v2 : ¬ mv_go (mv_po (S 0 1)) 1 1 = 0 → lgv (rxX (S 3) ((S 0 1) - 1) ((S 0 1) - 1)).1 ((S 0 1) - 1)) (h_c : (S 0 0) ≤ 5000) (sz : Nat) : kI l yX6_undo cX6_undo 1 (some .int) { frames := 7, cells := 0, slots := 0, locals := 160 } D tys [.ref (aS 0)] (wMd cI aS S) (wMdR cI aS (S 0 0) (if mv_go (mv_po (S 0 1)) 1 1 = 0 then (S 0 1) else (S 0 1) - 1) (mv_gf (mv_po (S 0 1)) 1 1) (if mv_go (mv_po (S 0 1)) 1 1 = 0 then (S 0 3) else (gtX (rxX (S 3) ((S 0 1) - 1) ((S 0 1) - 1)).1 ((S 0 1) - 1) (S 0 0) (-1) (S 1)).2.1) (if mv_go (mv_po (S 0 1)) 1 1 = 0 then (S 0 4) else (gtX (rxX (S 3) ((S 0 1) - 1) ((S 0 1) - 1)).1 ((S 0 1) - 1) (S 0 0) (-1) (S 1)).2.2.1) (S 0 5) (S 0 6) (S 0 7) (S 0 8) (S 0 9) (S 0 10) (S 0 11) (S 0 12) (if mv_go (mv_po (S 0 1)) 1 1 = 0 then (S 1) else (gtX (rxX (S 3) ((S 0 1) - 1) ((S 0 1) - 1)).1 ((S 0 1) - 1) (S 0 0) (-1) (S 1)).1) (S 2) (if mv_go (mv_po (S 0 1)) 1 1 = 0 then (S 3) else (rxX (S 3) ((S 0 1) - 1) ((S 0 1) - 1)).1) (S 4) (S 5) (S 6)) (if mv_go (mv_po (S 0 1)) 1 1 = 0 then 0 else (S 0 1) - 1) 0 0 sz := by
  refine y_enterI (cc := cX6_undo) (maxL := 1) (ret := (some .int)) (own := RX6) (by decide) rfl (lv0 := [(0, .ref (aS 0))]) rfl (Nat.le_of_ble_eq_true rfl) ?_
  intro p e s m args below meth c A Z hr hlk _
  refine y_aload_n Z dX6_undo_0 0 rfl rfl ?_
  have hJ1 : Yy p l e { frames := 7, cells := 0, slots := 0, locals := 160 } s m args below meth c (QI D tys A (wMdR cI aS (S 0 0) (if mv_go (mv_po (S 0 1)) 1 1 = 0 then (S 0 1) else (S 0 1) - 1) (mv_gf (mv_po (S 0 1)) 1 1) (if mv_go (mv_po (S 0 1)) 1 1 = 0 then (S 0 3) else (gtX (rxX (S 3) ((S 0 1) - 1) ((S 0 1) - 1)).1 ((S 0 1) - 1) (S 0 0) (-1) (S 1)).2.1) (if mv_go (mv_po (S 0 1)) 1 1 = 0 then (S 0 4) else (gtX (rxX (S 3) ((S 0 1) - 1) ((S 0 1) - 1)).1 ((S 0 1) - 1) (S 0 0) (-1) (S 1)).2.2.1) (S 0 5) (S 0 6) (S 0 7) (S 0 8) (S 0 9) (S 0 10) (S 0 11) (S 0 12) (if mv_go (mv_po (S 0 1)) 1 1 = 0 then (S 1) else (gtX (rxX (S 3) ((S 0 1) - 1) ((S 0 1) - 1)).1 ((S 0 1) - 1) (S 0 0) (-1) (S 1)).1) (S 2) (if mv_go (mv_po (S 0 1)) 1 1 = 0 then (S 3) else (rxX (S 3) ((S 0 1) - 1) ((S 0 1) - 1)).1) (S 4) (S 5) (S 6)) (if mv_go (mv_po (S 0 1)) 1 1 = 0 then 0 else (S 0 1) - 1) below args s 0 0) D A 1 0 0 (wMd cI aS S) [(0, .ref (aS 0))] [.int (mv_po (S 0 1)), .ref (aS 0)] 13 := by
    refine y_iconst (v := 1) Z dX6_undo_13 (by decide) ?_
    refine y_iconst (v := 1) Z dX6_undo_14 (by decide) ?_
    refine y_VIw Z (k_X6_goes l D ht0 aS S (mv_po (S 0 1)) 1 1) (y_cwV 3 Z ml_RX6_84 im_X6_goes se_X6_goes in_X6 co_X6_goes rfl rfl hd_X6_goes ⟨Nat.le_of_ble_eq_true rfl, Nat.le_of_ble_eq_true rfl⟩) List.nil List.nil (by simp only [List.nil_append, List.append_nil, wMix, wLog, wPic, wRep, wScr, wVM, wMd, sR_eq, sR_ne, sF_eq, sF_ne, upd_eq, upd_ne, gs_eq, gs_ne, gm_4, gm_ne, Nat.reduceBEq]) 6 0 rfl rfl rfl rfl (Nat.le_of_ble_eq_true rfl) dX6_undo_15 ⟨Nat.le_of_ble_eq_true rfl, Nat.le_of_ble_eq_true rfl⟩ (wMdR cI aS (S 0 0) (S 0 1) (mv_gf (mv_po (S 0 1)) 1 1) (S 0 3) (S 0 4) (S 0 5) (S 0 6) (S 0 7) (S 0 8) (S 0 9) (S 0 10) (S 0 11) (S 0 12) (S 1) (S 2) (S 3) (S 4) (S 5) (S 6)) (by simp only [List.nil_append, List.append_nil, wMix, wLog, wPic, wRep, wScr, wVM, wMd, sR_eq, sR_ne, sF_eq, sF_ne, upd_eq, upd_ne, gs_eq, gs_ne, gm_4, gm_ne, Nat.reduceBEq]) ?_
    refine y_eq rfl rfl (st' := [.int (mv_go (mv_po (S 0 1)) 1 1)]) (by first | with_reducible rfl | simp only [wMix, wLog, wPic, wRep, wScr, wVM, wMd, sR_eq, sR_ne, sF_eq, sF_ne, upd_eq, upd_ne, gs_eq, gs_ne, gm_4, gm_ne, Nat.reduceBEq]) ?_
    refine y_if_eq (tgt := 34) Z dX6_undo_18 (by decide) (fun h2 => ?_) (fun h3 => ?_)
    · refine y_iconst (v := 0) Z dX6_undo_34 (by decide) ?_
      exact y_retI Z hr hlk dX6_undo_35 (by first | (simp only [eq_true h2, if_true, if_false, not_false_eq_true, not_true_eq_false, ↓reduceIte]; done) | (simp only [eq_true h2, if_true, if_false, not_false_eq_true, not_true_eq_false, ↓reduceIte, wMix, wLog, wPic, wRep, wScr, wVM, wMd, sR_eq, sR_ne, sF_eq, sF_ne, upd_eq, upd_ne, gs_eq, gs_ne, gm_4, gm_ne, Nat.reduceBEq]; done) | (with_reducible rfl) | contradiction | (simp only [eq_true h2, if_true, if_false, not_false_eq_true, not_true_eq_false, ↓reduceIte]; rfl) | rfl) (by first | (simp only [eq_true h2, if_true, if_false, not_false_eq_true, not_true_eq_false, ↓reduceIte]; done) | (simp only [eq_true h2, if_true, if_false, not_false_eq_true, not_true_eq_false, ↓reduceIte, wMix, wLog, wPic, wRep, wScr, wVM, wMd, sR_eq, sR_ne, sF_eq, sF_ne, upd_eq, upd_ne, gs_eq, gs_ne, gm_4, gm_ne, Nat.reduceBEq]; done) | (with_reducible rfl) | contradiction | (simp only [eq_true h2, if_true, if_false, not_false_eq_true, not_true_eq_false, ↓reduceIte]; rfl) | rfl)
    · refine y_aload_n Z dX6_undo_21 0 rfl rfl ?_
      refine y_aload_n Z dX6_undo_22 0 rfl rfl ?_
      refine y_get (C := RX6) (T := TX6) (N := 19) Z 6 inlX6 rfl 0 rfl 4 (by decide) fl_RX6_68 rfl dX6_undo_23 ?_
      refine y_iconst (v := 1) Z dX6_undo_26 (by decide) ?_
      refine y_isub Z dX6_undo_27 ?_
      refine y_VIw Z (k_X6_takesOut l D ht0 aS (sF S 0 2 (mv_gf (mv_po (S 0 1)) 1 1)) ((S 0 1) - 1) (by first | exact (h_a h3) | (simp only [sR_eq, sR_ne, sF_eq, sF_ne, upd_eq, upd_ne, Nat.reduceBEq]; exact (h_a h3))) (by first | exact (h_m h3) | (simp only [sR_eq, sR_ne, sF_eq, sF_ne, upd_eq, upd_ne, Nat.reduceBEq]; exact (h_m h3))) (by first | exact (h_v2 h3) | (simp only [sR_eq, sR_ne, sF_eq, sF_ne, upd_eq, upd_ne, Nat.reduceBEq]; exact (h_v2 h3))) (by first | exact h_c | (simp only [sR_eq, sR_ne, sF_eq, sF_ne, upd_eq, upd_ne, Nat.reduceBEq]; exact h_c))) (y_cwV 1 Z ml_RX6_179 im_X6_takesOut se_X6_takesOut in_X6 co_X6_takesOut rfl rfl hd_X6_takesOut ⟨Nat.le_of_ble_eq_true rfl, Nat.le_of_ble_eq_true rfl⟩) List.nil List.nil (by simp only [List.nil_append, List.append_nil, wMix, wLog, wPic, wRep, wScr, wVM, wMd, sR_eq, sR_ne, sF_eq, sF_ne, upd_eq, upd_ne, gs_eq, gs_ne, gm_4, gm_ne, Nat.reduceBEq]) 6 0 rfl rfl rfl rfl (Nat.le_of_ble_eq_true rfl) dX6_undo_28 ⟨Nat.le_of_ble_eq_true rfl, Nat.le_of_ble_eq_true rfl⟩ (wMdR cI aS (S 0 0) ((S 0 1) - 1) (mv_gf (mv_po (S 0 1)) 1 1) ((gtX (rxX (S 3) ((S 0 1) - 1) ((S 0 1) - 1)).1 ((S 0 1) - 1) (S 0 0) (-1) (S 1)).2.1) ((gtX (rxX (S 3) ((S 0 1) - 1) ((S 0 1) - 1)).1 ((S 0 1) - 1) (S 0 0) (-1) (S 1)).2.2.1) (S 0 5) (S 0 6) (S 0 7) (S 0 8) (S 0 9) (S 0 10) (S 0 11) (S 0 12) ((gtX (rxX (S 3) ((S 0 1) - 1) ((S 0 1) - 1)).1 ((S 0 1) - 1) (S 0 0) (-1) (S 1)).1) (S 2) ((rxX (S 3) ((S 0 1) - 1) ((S 0 1) - 1)).1) (S 4) (S 5) (S 6)) (by simp only [List.nil_append, List.append_nil, wMix, wLog, wPic, wRep, wScr, wVM, wMd, sR_eq, sR_ne, sF_eq, sF_ne, upd_eq, upd_ne, gs_eq, gs_ne, gm_4, gm_ne, Nat.reduceBEq]) ?_
      refine y_eq rfl rfl (st' := [.int ((S 0 1) - 1)]) (by first | with_reducible rfl | simp only [wMix, wLog, wPic, wRep, wScr, wVM, wMd, sR_eq, sR_ne, sF_eq, sF_ne, upd_eq, upd_ne, gs_eq, gs_ne, gm_4, gm_ne, Nat.reduceBEq]) ?_
      refine y_goto (tgt := 35) Z dX6_undo_31 (by decide) ?_
      exact y_retI Z hr hlk dX6_undo_35 (by first | (simp only [h3, if_true, if_false, not_false_eq_true, not_true_eq_false, ↓reduceIte]; done) | (simp only [h3, if_true, if_false, not_false_eq_true, not_true_eq_false, ↓reduceIte, wMix, wLog, wPic, wRep, wScr, wVM, wMd, sR_eq, sR_ne, sF_eq, sF_ne, upd_eq, upd_ne, gs_eq, gs_ne, gm_4, gm_ne, Nat.reduceBEq]; done) | (with_reducible rfl) | contradiction | (simp only [h3, if_true, if_false, not_false_eq_true, not_true_eq_false, ↓reduceIte]; rfl) | rfl) (by first | (simp only [h3, if_true, if_false, not_false_eq_true, not_true_eq_false, ↓reduceIte]; done) | (simp only [h3, if_true, if_false, not_false_eq_true, not_true_eq_false, ↓reduceIte, wMix, wLog, wPic, wRep, wScr, wVM, wMd, sR_eq, sR_ne, sF_eq, sF_ne, upd_eq, upd_ne, gs_eq, gs_ne, gm_4, gm_ne, Nat.reduceBEq]; done) | (with_reducible rfl) | contradiction | (simp only [h3, if_true, if_false, not_false_eq_true, not_true_eq_false, ↓reduceIte]; rfl) | rfl)
  refine y_aload_n Z dX6_undo_1 0 rfl rfl ?_
  refine y_get (C := RX6) (T := TX6) (N := 19) Z 6 inlX6 rfl 0 rfl 4 (by decide) fl_RX6_68 rfl dX6_undo_2 ?_
  refine y_if_le (tgt := 12) Z dX6_undo_5 (by decide) (fun h4 => ?_) (fun h5 => ?_)
  · refine y_iconst (v := 0) Z dX6_undo_12 (by decide) ?_
    exact y_eq rfl rfl (st' := [.int (mv_po (S 0 1)), .ref (aS 0)]) (by first | (simp only [mv_po, h4, if_true, if_false, not_false_eq_true, not_true_eq_false, ↓reduceIte]; done) | (simp only [mv_po, h4, if_true, if_false, not_false_eq_true, not_true_eq_false, ↓reduceIte, wMix, wLog, wPic, wRep, wScr, wVM, wMd, sR_eq, sR_ne, sF_eq, sF_ne, upd_eq, upd_ne, gs_eq, gs_ne, gm_4, gm_ne, Nat.reduceBEq]; done) | (with_reducible rfl) | contradiction | (simp only [mv_po, h4, if_true, if_false, not_false_eq_true, not_true_eq_false, ↓reduceIte]; rfl) | rfl) hJ1
  · refine y_iconst (v := 1) Z dX6_undo_8 (by decide) ?_
    refine y_goto (tgt := 13) Z dX6_undo_9 (by decide) ?_
    exact y_eq rfl rfl (st' := [.int (mv_po (S 0 1)), .ref (aS 0)]) (by first | (simp only [mv_po, h5, if_true, if_false, not_false_eq_true, not_true_eq_false, ↓reduceIte]; done) | (simp only [mv_po, h5, if_true, if_false, not_false_eq_true, not_true_eq_false, ↓reduceIte, wMix, wLog, wPic, wRep, wScr, wVM, wMd, sR_eq, sR_ne, sF_eq, sF_ne, upd_eq, upd_ne, gs_eq, gs_ne, gm_4, gm_ne, Nat.reduceBEq]; done) | (with_reducible rfl) | contradiction | (simp only [mv_po, h5, if_true, if_false, not_false_eq_true, not_true_eq_false, ↓reduceIte]; rfl) | rfl) hJ1
set_option maxHeartbeats 4000000 in
set_option maxRecDepth 100000 in
theorem k_X6_redWithout (l : Launch) (D : va_G) {cI : ClassId} {tys : List (ClassId × FieldType)} (ht0 : tys[0]? = some (cI, .int)) (aS : Nat → Nat) (S : Nat → Nat → Int32) (a : Int32) (h_n : (S 0 1) ≤ 100) (h_v : lgv (S 3) (S 0 1)) (h_c : (S 0 0) ≤ 5000) (sz : Nat) : kI l yX6_redWithout cX6_redWithout 3 (some .int) { frames := 6, cells := 0, slots := 0, locals := 138 } D tys [.ref (aS 0), .int a] (wMd cI aS S) (wMdR cI aS (S 0 0) (S 0 1) (mv_gf (mv_ia a (S 0 1)) 1 1) (if mv_go (mv_ia a (S 0 1)) 1 1 = 0 then (S 0 3) else (gtX (S 3) (S 0 1) (S 0 0) (-1) (gtX (S 3) (S 0 1) (S 0 0) a (S 1)).1).2.1) (if mv_go (mv_ia a (S 0 1)) 1 1 = 0 then (S 0 4) else (gtX (S 3) (S 0 1) (S 0 0) (-1) (gtX (S 3) (S 0 1) (S 0 0) a (S 1)).1).2.2.1) (S 0 5) (S 0 6) (S 0 7) (S 0 8) (S 0 9) (S 0 10) (S 0 11) (S 0 12) (if mv_go (mv_ia a (S 0 1)) 1 1 = 0 then (S 1) else (gtX (S 3) (S 0 1) (S 0 0) (-1) (gtX (S 3) (S 0 1) (S 0 0) a (S 1)).1).1) (S 2) (S 3) (if mv_go (mv_ia a (S 0 1)) 1 1 = 0 then (S 4) else mr_ls (gtX (S 3) (S 0 1) (S 0 0) a (S 1)).1 (S 4)) (S 5) (S 6)) (if mv_go (mv_ia a (S 0 1)) 1 1 = 0 then 0 else mv_rd (mr_ls (gtX (S 3) (S 0 1) (S 0 0) a (S 1)).1 (S 4))) 0 0 sz := by
  refine y_enterI (cc := cX6_redWithout) (maxL := 3) (ret := (some .int)) (own := RX6) (by decide) rfl (lv0 := [(0, .ref (aS 0)), (1, .int a)]) rfl (Nat.le_of_ble_eq_true rfl) ?_
  intro p e s m args below meth c A Z hr hlk _
  refine y_aload_n Z dX6_redWithout_0 0 rfl rfl ?_
  refine y_aload_n Z dX6_redWithout_1 0 rfl rfl ?_
  refine y_iload_n Z dX6_redWithout_2 1 rfl rfl ?_
  refine y_VIw Z (k_X6_isAct l D ht0 aS S a) (y_cwV 1 Z ml_RX6_176 im_X6_isAct se_X6_isAct in_X6 co_X6_isAct rfl rfl hd_X6_isAct ⟨Nat.le_of_ble_eq_true rfl, Nat.le_of_ble_eq_true rfl⟩) List.nil List.nil (by simp only [List.nil_append, List.append_nil, wMix, wLog, wPic, wRep, wScr, wVM, wMd, sR_eq, sR_ne, sF_eq, sF_ne, upd_eq, upd_ne, gs_eq, gs_ne, gm_4, gm_ne, Nat.reduceBEq]) 6 0 rfl rfl rfl rfl (Nat.le_of_ble_eq_true rfl) dX6_redWithout_3 ⟨Nat.le_of_ble_eq_true rfl, Nat.le_of_ble_eq_true rfl⟩ (wMd cI aS S) (by simp only [List.nil_append, List.append_nil, wMix, wLog, wPic, wRep, wScr, wVM, wMd, sR_eq, sR_ne, sF_eq, sF_ne, upd_eq, upd_ne, gs_eq, gs_ne, gm_4, gm_ne, Nat.reduceBEq]) ?_
  refine y_eq rfl rfl (st' := [.int (mv_ia a (S 0 1)), .ref (aS 0)]) (by first | with_reducible rfl | simp only [wMix, wLog, wPic, wRep, wScr, wVM, wMd, sR_eq, sR_ne, sF_eq, sF_ne, upd_eq, upd_ne, gs_eq, gs_ne, gm_4, gm_ne, Nat.reduceBEq]) ?_
  refine y_iconst (v := 1) Z dX6_redWithout_6 (by decide) ?_
  refine y_iconst (v := 1) Z dX6_redWithout_7 (by decide) ?_
  refine y_VIw Z (k_X6_goes l D ht0 aS S (mv_ia a (S 0 1)) 1 1) (y_cwV 3 Z ml_RX6_84 im_X6_goes se_X6_goes in_X6 co_X6_goes rfl rfl hd_X6_goes ⟨Nat.le_of_ble_eq_true rfl, Nat.le_of_ble_eq_true rfl⟩) List.nil List.nil (by simp only [List.nil_append, List.append_nil, wMix, wLog, wPic, wRep, wScr, wVM, wMd, sR_eq, sR_ne, sF_eq, sF_ne, upd_eq, upd_ne, gs_eq, gs_ne, gm_4, gm_ne, Nat.reduceBEq]) 6 0 rfl rfl rfl rfl (Nat.le_of_ble_eq_true rfl) dX6_redWithout_8 ⟨Nat.le_of_ble_eq_true rfl, Nat.le_of_ble_eq_true rfl⟩ (wMdR cI aS (S 0 0) (S 0 1) (mv_gf (mv_ia a (S 0 1)) 1 1) (S 0 3) (S 0 4) (S 0 5) (S 0 6) (S 0 7) (S 0 8) (S 0 9) (S 0 10) (S 0 11) (S 0 12) (S 1) (S 2) (S 3) (S 4) (S 5) (S 6)) (by simp only [List.nil_append, List.append_nil, wMix, wLog, wPic, wRep, wScr, wVM, wMd, sR_eq, sR_ne, sF_eq, sF_ne, upd_eq, upd_ne, gs_eq, gs_ne, gm_4, gm_ne, Nat.reduceBEq]) ?_
  refine y_eq rfl rfl (st' := [.int (mv_go (mv_ia a (S 0 1)) 1 1)]) (by first | with_reducible rfl | simp only [wMix, wLog, wPic, wRep, wScr, wVM, wMd, sR_eq, sR_ne, sF_eq, sF_ne, upd_eq, upd_ne, gs_eq, gs_ne, gm_4, gm_ne, Nat.reduceBEq]) ?_
  refine y_if_ne (tgt := 16) Z dX6_redWithout_11 (by decide) (fun h1 => ?_) (fun h2 => ?_)
  · refine y_aload_n Z dX6_redWithout_16 0 rfl rfl ?_
    refine y_aload_n Z dX6_redWithout_17 0 rfl rfl ?_
    refine y_get (C := RX6) (T := TX6) (N := 19) Z 6 inlX6 rfl 0 rfl 2 (by decide) fl_RX6_71 rfl dX6_redWithout_18 ?_
    refine y_iload_n Z dX6_redWithout_21 1 rfl rfl ?_
    refine y_VVw Z (k_X6_goesTo l D ht0 aS (sF S 0 2 (mv_gf (mv_ia a (S 0 1)) 1 1)) (S 0 0) a (by first | exact h_n | (simp only [sR_eq, sR_ne, sF_eq, sF_ne, upd_eq, upd_ne, Nat.reduceBEq]; exact h_n)) (by first | exact h_v | (simp only [sR_eq, sR_ne, sF_eq, sF_ne, upd_eq, upd_ne, Nat.reduceBEq]; exact h_v)) (by first | exact h_c | (simp only [sR_eq, sR_ne, sF_eq, sF_ne, upd_eq, upd_ne, Nat.reduceBEq]; exact h_c))) (y_cwV 2 Z ml_RX6_161 im_X6_goesTo se_X6_goesTo in_X6 co_X6_goesTo rfl rfl hd_X6_goesTo ⟨Nat.le_of_ble_eq_true rfl, Nat.le_of_ble_eq_true rfl⟩) List.nil List.nil (by simp only [List.nil_append, List.append_nil, wMix, wLog, wPic, wRep, wScr, wVM, wMd, sR_eq, sR_ne, sF_eq, sF_ne, upd_eq, upd_ne, gs_eq, gs_ne, gm_4, gm_ne, Nat.reduceBEq]) 6 0 rfl rfl rfl rfl (Nat.le_of_ble_eq_true rfl) dX6_redWithout_22 ⟨Nat.le_of_ble_eq_true rfl, Nat.le_of_ble_eq_true rfl⟩ (wMdR cI aS (S 0 0) (S 0 1) (mv_gf (mv_ia a (S 0 1)) 1 1) ((gtX (S 3) (S 0 1) (S 0 0) a (S 1)).2.1) ((gtX (S 3) (S 0 1) (S 0 0) a (S 1)).2.2.1) (S 0 5) (S 0 6) (S 0 7) (S 0 8) (S 0 9) (S 0 10) (S 0 11) (S 0 12) ((gtX (S 3) (S 0 1) (S 0 0) a (S 1)).1) (S 2) (S 3) (S 4) (S 5) (S 6)) (by simp only [List.nil_append, List.append_nil, wMix, wLog, wPic, wRep, wScr, wVM, wMd, sR_eq, sR_ne, sF_eq, sF_ne, upd_eq, upd_ne, gs_eq, gs_ne, gm_4, gm_ne, Nat.reduceBEq]) ?_
    refine y_aload_n Z dX6_redWithout_25 0 rfl rfl ?_
    refine y_VIw Z (k_X6_reds l D ht0 aS (sF (sF (sR (sF S 0 2 (mv_gf (mv_ia a (S 0 1)) 1 1)) 1 ((gtX (S 3) (S 0 1) (S 0 0) a (S 1)).1)) 0 3 ((gtX (S 3) (S 0 1) (S 0 0) a (S 1)).2.1)) 0 4 ((gtX (S 3) (S 0 1) (S 0 0) a (S 1)).2.2.1)) (by first | exact (gt_okm _ _ _ h_n h_v) | (simp only [sR_eq, sR_ne, sF_eq, sF_ne, upd_eq, upd_ne, Nat.reduceBEq]; exact (gt_okm _ _ _ h_n h_v)))) (y_cwV 0 Z ml_RX6_124 im_X6_reds se_X6_reds in_X6 co_X6_reds rfl rfl hd_X6_reds ⟨Nat.le_of_ble_eq_true rfl, Nat.le_of_ble_eq_true rfl⟩) List.nil List.nil (by simp only [List.nil_append, List.append_nil, wMix, wLog, wPic, wRep, wScr, wVM, wMd, sR_eq, sR_ne, sF_eq, sF_ne, upd_eq, upd_ne, gs_eq, gs_ne, gm_4, gm_ne, Nat.reduceBEq]) 6 0 rfl rfl rfl rfl (Nat.le_of_ble_eq_true rfl) dX6_redWithout_26 ⟨Nat.le_of_ble_eq_true rfl, Nat.le_of_ble_eq_true rfl⟩ (wMdR cI aS (S 0 0) (S 0 1) (mv_gf (mv_ia a (S 0 1)) 1 1) ((gtX (S 3) (S 0 1) (S 0 0) a (S 1)).2.1) ((gtX (S 3) (S 0 1) (S 0 0) a (S 1)).2.2.1) (S 0 5) (S 0 6) (S 0 7) (S 0 8) (S 0 9) (S 0 10) (S 0 11) (S 0 12) ((gtX (S 3) (S 0 1) (S 0 0) a (S 1)).1) (S 2) (S 3) (mr_ls ((gtX (S 3) (S 0 1) (S 0 0) a (S 1)).1) (S 4)) (S 5) (S 6)) (by simp only [List.nil_append, List.append_nil, wMix, wLog, wPic, wRep, wScr, wVM, wMd, sR_eq, sR_ne, sF_eq, sF_ne, upd_eq, upd_ne, gs_eq, gs_ne, gm_4, gm_ne, Nat.reduceBEq]) ?_
    refine y_eq rfl rfl (st' := [.int (mv_rd (mr_ls ((gtX (S 3) (S 0 1) (S 0 0) a (S 1)).1) (S 4)))]) (by first | with_reducible rfl | simp only [wMix, wLog, wPic, wRep, wScr, wVM, wMd, sR_eq, sR_ne, sF_eq, sF_ne, upd_eq, upd_ne, gs_eq, gs_ne, gm_4, gm_ne, Nat.reduceBEq]) ?_
    refine y_istore_n Z [(2, .int (mv_rd (mr_ls ((gtX (S 3) (S 0 1) (S 0 0) a (S 1)).1) (S 4)))), (0, .ref (aS 0)), (1, .int a)] dX6_redWithout_29 rfl (by decide) rfl ?_
    refine y_aload_n Z dX6_redWithout_30 1 rfl rfl ?_
    refine y_aload_n Z dX6_redWithout_31 1 rfl rfl ?_
    refine y_get (C := RX6) (T := TX6) (N := 19) Z 6 inlX6 rfl 0 rfl 2 (by decide) fl_RX6_71 rfl dX6_redWithout_32 ?_
    refine y_iconst (v := -1) Z dX6_redWithout_35 (by decide) ?_
    refine y_VVw Z (k_X6_goesTo l D ht0 aS (sR (sF (sF (sR (sF S 0 2 (mv_gf (mv_ia a (S 0 1)) 1 1)) 1 ((gtX (S 3) (S 0 1) (S 0 0) a (S 1)).1)) 0 3 ((gtX (S 3) (S 0 1) (S 0 0) a (S 1)).2.1)) 0 4 ((gtX (S 3) (S 0 1) (S 0 0) a (S 1)).2.2.1)) 4 (mr_ls ((gtX (S 3) (S 0 1) (S 0 0) a (S 1)).1) (S 4))) (S 0 0) (-1) (by first | exact h_n | (simp only [sR_eq, sR_ne, sF_eq, sF_ne, upd_eq, upd_ne, Nat.reduceBEq]; exact h_n)) (by first | exact h_v | (simp only [sR_eq, sR_ne, sF_eq, sF_ne, upd_eq, upd_ne, Nat.reduceBEq]; exact h_v)) (by first | exact h_c | (simp only [sR_eq, sR_ne, sF_eq, sF_ne, upd_eq, upd_ne, Nat.reduceBEq]; exact h_c))) (y_cwV 2 Z ml_RX6_161 im_X6_goesTo se_X6_goesTo in_X6 co_X6_goesTo rfl rfl hd_X6_goesTo ⟨Nat.le_of_ble_eq_true rfl, Nat.le_of_ble_eq_true rfl⟩) List.nil List.nil (by simp only [List.nil_append, List.append_nil, wMix, wLog, wPic, wRep, wScr, wVM, wMd, sR_eq, sR_ne, sF_eq, sF_ne, upd_eq, upd_ne, gs_eq, gs_ne, gm_4, gm_ne, Nat.reduceBEq]) 6 0 rfl rfl rfl rfl (Nat.le_of_ble_eq_true rfl) dX6_redWithout_36 ⟨Nat.le_of_ble_eq_true rfl, Nat.le_of_ble_eq_true rfl⟩ (wMdR cI aS (S 0 0) (S 0 1) (mv_gf (mv_ia a (S 0 1)) 1 1) ((gtX (S 3) (S 0 1) (S 0 0) (-1) ((gtX (S 3) (S 0 1) (S 0 0) a (S 1)).1)).2.1) ((gtX (S 3) (S 0 1) (S 0 0) (-1) ((gtX (S 3) (S 0 1) (S 0 0) a (S 1)).1)).2.2.1) (S 0 5) (S 0 6) (S 0 7) (S 0 8) (S 0 9) (S 0 10) (S 0 11) (S 0 12) ((gtX (S 3) (S 0 1) (S 0 0) (-1) ((gtX (S 3) (S 0 1) (S 0 0) a (S 1)).1)).1) (S 2) (S 3) (mr_ls ((gtX (S 3) (S 0 1) (S 0 0) a (S 1)).1) (S 4)) (S 5) (S 6)) (by simp only [List.nil_append, List.append_nil, wMix, wLog, wPic, wRep, wScr, wVM, wMd, sR_eq, sR_ne, sF_eq, sF_ne, upd_eq, upd_ne, gs_eq, gs_ne, gm_4, gm_ne, Nat.reduceBEq]) ?_
    refine y_iload_n Z dX6_redWithout_39 0 rfl rfl ?_
    exact y_retI Z hr hlk dX6_redWithout_40 (by first | (simp only [h1, if_true, if_false, not_false_eq_true, not_true_eq_false, ↓reduceIte]; done) | (simp only [h1, if_true, if_false, not_false_eq_true, not_true_eq_false, ↓reduceIte, wMix, wLog, wPic, wRep, wScr, wVM, wMd, sR_eq, sR_ne, sF_eq, sF_ne, upd_eq, upd_ne, gs_eq, gs_ne, gm_4, gm_ne, Nat.reduceBEq]; done) | (with_reducible rfl) | contradiction | (simp only [h1, if_true, if_false, not_false_eq_true, not_true_eq_false, ↓reduceIte]; rfl) | rfl) (by first | (simp only [h1, if_true, if_false, not_false_eq_true, not_true_eq_false, ↓reduceIte]; done) | (simp only [h1, if_true, if_false, not_false_eq_true, not_true_eq_false, ↓reduceIte, wMix, wLog, wPic, wRep, wScr, wVM, wMd, sR_eq, sR_ne, sF_eq, sF_ne, upd_eq, upd_ne, gs_eq, gs_ne, gm_4, gm_ne, Nat.reduceBEq]; done) | (with_reducible rfl) | contradiction | (simp only [h1, if_true, if_false, not_false_eq_true, not_true_eq_false, ↓reduceIte]; rfl) | rfl)
  · refine y_iconst (v := 0) Z dX6_redWithout_14 (by decide) ?_
    exact y_retI Z hr hlk dX6_redWithout_15 (by first | (simp only [eq_true h2, if_true, if_false, not_false_eq_true, not_true_eq_false, ↓reduceIte]; done) | (simp only [eq_true h2, if_true, if_false, not_false_eq_true, not_true_eq_false, ↓reduceIte, wMix, wLog, wPic, wRep, wScr, wVM, wMd, sR_eq, sR_ne, sF_eq, sF_ne, upd_eq, upd_ne, gs_eq, gs_ne, gm_4, gm_ne, Nat.reduceBEq]; done) | (with_reducible rfl) | contradiction | (simp only [eq_true h2, if_true, if_false, not_false_eq_true, not_true_eq_false, ↓reduceIte]; rfl) | rfl) (by first | (simp only [eq_true h2, if_true, if_false, not_false_eq_true, not_true_eq_false, ↓reduceIte]; done) | (simp only [eq_true h2, if_true, if_false, not_false_eq_true, not_true_eq_false, ↓reduceIte, wMix, wLog, wPic, wRep, wScr, wVM, wMd, sR_eq, sR_ne, sF_eq, sF_ne, upd_eq, upd_ne, gs_eq, gs_ne, gm_4, gm_ne, Nat.reduceBEq]; done) | (with_reducible rfl) | contradiction | (simp only [eq_true h2, if_true, if_false, not_false_eq_true, not_true_eq_false, ↓reduceIte]; rfl) | rfl)
