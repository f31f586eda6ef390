/-! level 2: replaying -/
def LV (E : Nat → Int32) (N : Nat) (τ : Nat → Nat) (T : Nat) : Prop := (∀ i, i < N → E (6 * i) = nI (τ i) ∧ τ i ≤ T ∧ ∃ w : Nat, E (6 * i + 1) = nI w ∧ aOk w (E (6 * i + 2)) (E (6 * i + 3)) (E (6 * i + 4)) (E (6 * i + 5))) ∧ ∀ i j, i ≤ j → j < N → τ i ≤ τ j
def ac (E : Nat → Int32) (i : Nat) (m : Nat → Int32) : Nat → Int32 := mr_ds m (E (6 * i + 1)) (E (6 * i + 2)) (E (6 * i + 3)) (E (6 * i + 4)) (E (6 * i + 5))
/-- the time, the row and the count after the acts below j -/
def uS (E : Nat → Int32) (wo : Int32) : Nat → Nat × ((Nat → Int32) × Int32)
  | 0 => (0, (mr_bg (fun _ => 0), 0))
  | j + 1 => if nI j = wo then uS E wo j else (cl (E (6 * j)), (ac E j (frk (cl (E (6 * j)) - (uS E wo j).1) (uS E wo j).2).1, (frk (cl (E (6 * j)) - (uS E wo j).1) (uS E wo j).2).2))
def uA (E : Nat → Int32) (wo : Int32) (j t : Nat) : (Nat → Int32) × Int32 := frk (t - (uS E wo j).1) (uS E wo j).2
theorem uS_s (E : Nat → Int32) (wo : Int32) (j : Nat) : uS E wo (j + 1) = if nI j = wo then uS E wo j else (cl (E (6 * j)), (ac E j (uA E wo j (cl (E (6 * j)))).1, (uA E wo j (cl (E (6 * j)))).2)) := rfl
theorem uA_wo (E : Nat → Int32) {wo : Int32} {j : Nat} (h : nI j = wo) (t : Nat) : uA E wo (j + 1) t = uA E wo j t := by
  unfold uA; rw [uS_s, if_pos h]
theorem uA_s {E : Nat → Int32} {N : Nat} {τ : Nat → Nat} {T : Nat} (H : LV E N τ T) (hT : T < 2 ^ 30) {wo : Int32} {j : Nat} (hj : j < N) (h : ¬ nI j = wo) (t : Nat) : uA E wo (j + 1) t = frk (t - τ j) (ac E j (uA E wo j (τ j)).1, (uA E wo j (τ j)).2) := by
  obtain ⟨e, ht, -⟩ := H.1 j hj
  have e2 : cl (E (6 * j)) = τ j := by rw [e]; exact cl_k (by omega)
  rw [uA, uS_s, if_neg h, e2]
theorem uS_t {E : Nat → Int32} {N : Nat} {τ : Nat → Nat} {T : Nat} (H : LV E N τ T) (hT : T < 2 ^ 30) (wo : Int32) {s : Nat} : ∀ j : Nat, j ≤ N → (∀ i, i < j → τ i ≤ s) → (uS E wo j).1 ≤ s
  | 0, _, _ => Nat.zero_le _
  | j + 1, hj, h => by
    rw [uS_s]
    split
    · exact uS_t H hT wo j (by omega) (fun i hi => h i (by omega))
    · obtain ⟨e, ht, -⟩ := H.1 j (by omega)
      show cl (E (6 * j)) ≤ s
      rw [e, cl_k (by omega)]
      exact h j (by omega)
theorem uA_add {E : Nat → Int32} {wo : Int32} {j s : Nat} (h : (uS E wo j).1 ≤ s) (n : Nat) : uA E wo j (s + n) = frk n (uA E wo j s) := by
  unfold uA
  rw [show s + n - (uS E wo j).1 = (s - (uS E wo j).1) + n by omega, frk_add]
theorem ac_ok {E : Nat → Int32} {N : Nat} {τ : Nat → Nat} {T : Nat} (H : LV E N τ T) {j : Nat} (hj : j < N) {m : Nat → Int32} (o : mOk m) : mOk (ac E j m) := by
  obtain ⟨-, -, w, e, ha⟩ := H.1 j hj
  unfold ac
  rw [e]
  exact mOk_ds o ha
theorem uS_ok {E : Nat → Int32} {N : Nat} {τ : Nat → Nat} {T : Nat} (H : LV E N τ T) (wo : Int32) : ∀ j : Nat, j ≤ N → mOk (uS E wo j).2.1
  | 0, _ => mOk_bg _
  | j + 1, hj => by
    rw [uS_s]
    split
    · exact uS_ok H wo j (by omega)
    · exact ac_ok H hj (mOk_frk (uS_ok H wo j (by omega)) _)
theorem uA_ok {E : Nat → Int32} {N : Nat} {τ : Nat → Nat} {T : Nat} (H : LV E N τ T) (wo : Int32) {j : Nat} (hj : j ≤ N) (t : Nat) : mOk (uA E wo j t).1 := mOk_frk (uS_ok H wo j hj) _
/-! the reference's replay -/
/-- the acts up to the time t are those below j -/
def cnt (N : Nat) (τ : Nat → Nat) (t j : Nat) : Prop := j ≤ N ∧ (∀ i, i < j → τ i ≤ t) ∧ ∀ i, j ≤ i → i < N → t < τ i
theorem cnt_u {N : Nat} {τ : Nat → Nat} {t j k : Nat} (h1 : cnt N τ t j) (h2 : cnt N τ t k) : j = k := by
  rcases Nat.lt_trichotomy j k with h | h | h
  · have a := h2.2.1 j h
    have b := h1.2.2 j (by omega) (by have := h2.1; omega)
    omega
  · exact h
  · have a := h1.2.1 k h
    have b := h2.2.2 k (by omega) (by have := h1.1; omega)
    omega
theorem dA_u {E : Nat → Int32} {N : Nat} {τ : Nat → Nat} {T : Nat} (H : LV E N τ T) (hT : T < 2 ^ 30) (wo : Int32) {t : Nat} (ht : t < 2 ^ 30) : ∀ (f j : Nat), j ≤ N → N < j + f → (∀ i, i < j → τ i ≤ t) → (∀ i, j ≤ i → i < N → t ≤ τ i) → ∃ k, cnt N τ t k ∧ dA E N wo t f (uA E wo j t).1 j = ((uA E wo k t).1, k) ∧ (uA E wo k t).2 = (uA E wo j t).2
  | 0, j, h1, h2, _, _ => by omega
  | f + 1, j, h1, h2, h3, h4 => by
    unfold dA
    by_cases c : j < N ∧ E (6 * j) = nI t
    · rw [if_pos c]
      obtain ⟨e, hτ, -⟩ := H.1 j c.1
      have et : τ j = t := nI_inj (by omega) (by omega) (e.symm.trans c.2)
      have key : (if nI j = wo then (uA E wo j t).1 else mr_ds (uA E wo j t).1 (E (6 * j + 1)) (E (6 * j + 2)) (E (6 * j + 3)) (E (6 * j + 4)) (E (6 * j + 5))) = (uA E wo (j + 1) t).1 ∧ (uA E wo (j + 1) t).2 = (uA E wo j t).2 := by
        by_cases w : nI j = wo
        · rw [if_pos w, uA_wo E w]; exact ⟨rfl, rfl⟩
        · rw [if_neg w, uA_s H hT c.1 w, et, Nat.sub_self]; exact ⟨rfl, rfl⟩
      rw [key.1]
      obtain ⟨k, hk, e1, e2⟩ := dA_u H hT wo ht f (j + 1) (by omega) (by omega) (fun i hi => by
        by_cases q : i = j
        · subst q; omega
        · exact h3 i (by omega)) (fun i hi => h4 i (by omega))
      exact ⟨k, hk, e1, e2.trans key.2⟩
    · rw [if_neg c]
      refine ⟨j, ⟨h1, h3, fun i hi hiN => ?_⟩, rfl, rfl⟩
      have hjN : j < N := by omega
      obtain ⟨e, hτ, -⟩ := H.1 j hjN
      have a := h4 j (by omega) hjN
      have b : τ j ≠ t := fun z => c ⟨hjN, by rw [e, z]⟩
      have d := H.2 j i hi hiN
      omega
theorem rp_u {E : Nat → Int32} {N : Nat} {τ : Nat → Nat} {T : Nat} (H : LV E N τ T) (hT : T < 2 ^ 30) (hN : N ≤ 100) (wo : Int32) : ∀ t : Nat, t < 2 ^ 30 → ∃ j, cnt N τ t j ∧ rp E N wo t = ((uA E wo j t).1, (uA E wo j t).2, j)
  | 0, _ => by
    obtain ⟨k, hk, e1, e2⟩ := dA_u H hT wo (t := 0) (by omega) 101 0 (by omega) (by omega) (fun i hi => absurd hi (by omega)) (fun i _ _ => Nat.zero_le _)
    refine ⟨k, hk, ?_⟩
    have e0 : (uA E wo 0 0).1 = mr_bg (fun _ => 0) := rfl
    rw [e0] at e1
    unfold rp
    rw [e1, e2]
    rfl
  | t + 1, ht => by
    obtain ⟨j, hj, e⟩ := rp_u H hT hN wo t (by omega)
    have ea := uA_add (E := E) (wo := wo) (s := t) (uS_t H hT wo j hj.1 hj.2.1) 1
    obtain ⟨k, hk, e1, e2⟩ := dA_u H hT wo (t := t + 1) ht 101 j hj.1 (by omega) (fun i hi => by have := hj.2.1 i hi; omega) (fun i hi hiN => by have := hj.2.2 i hi hiN; omega)
    refine ⟨k, hk, ?_⟩
    have x1 : (uA E wo j (t + 1)).1 = mr_fr (uA E wo j t).1 := by rw [ea]; rfl
    have x2 : (uA E wo j (t + 1)).2 = mv_fn (uA E wo j t).1 (uA E wo j t).2 := by rw [ea]; rfl
    rw [x1] at e1
    unfold rp
    rw [e]
    show ((dA E N wo (t + 1) 101 (mr_fr (uA E wo j t).1) j).1, mv_fn (uA E wo j t).1 (uA E wo j t).2, (dA E N wo (t + 1) 101 (mr_fr (uA E wo j t).1) j).2) = _
    rw [e1, e2, x2]
theorem rp_c {E : Nat → Int32} {N : Nat} {τ : Nat → Nat} {T : Nat} (H : LV E N τ T) (hT : T < 2 ^ 30) (hN : N ≤ 100) (wo : Int32) {t j : Nat} (ht : t < 2 ^ 30) (hj : cnt N τ t j) : rp E N wo t = ((uA E wo j t).1, (uA E wo j t).2, j) := by
  obtain ⟨k, hk, e⟩ := rp_u H hT hN wo t ht
  rw [cnt_u hj hk]; exact e
theorem rp_ok {E : Nat → Int32} {N : Nat} {τ : Nat → Nat} {T : Nat} (H : LV E N τ T) (hT : T < 2 ^ 30) (hN : N ≤ 100) (wo : Int32) {t : Nat} (ht : t < 2 ^ 30) : mOk (rp E N wo t).1 ∧ (rp E N wo t).2.2 ≤ N := by
  obtain ⟨k, hk, e⟩ := rp_u H hT hN wo t ht
  rw [e]
  exact ⟨uA_ok H wo hk.1 t, hk.1⟩
/-! gtX is rp -/
theorem da_eq (E : Nat → Int32) {N : Nat} (hN : N ≤ 100) (wo : Int32) (t : Nat) : ∀ (f : Nat) (m : Nat → Int32) (j : Nat), j ≤ N → lw (daC E (nI N) (nI t)) (daB E wo) f (m, nI j) = ((dA E N wo t f m j).1, nI (dA E N wo t f m j).2)
  | 0, m, j, _ => rfl
  | f + 1, m, j, hj => by
    unfold dA
    by_cases c : j < N ∧ E (6 * j) = nI t
    · have hc : daC E (nI N) (nI t) (m, nI j) = true := by
        unfold daC
        show (if nI N ≤ nI j then false else if E (6 * cl (nI j)) = nI t then true else false) = true
        rw [if_neg (nI_ge c.1 (by omega)), cl_k (by omega), if_pos c.2]
      rw [if_pos c, lw_t hc, ← da_eq E hN wo t f _ (j + 1) (by omega)]
      congr 1
      unfold daB
      show (if nI j = wo then m else mr_ds m (E (6 * cl (nI j) + 1)) (E (6 * cl (nI j) + 2)) (E (6 * cl (nI j) + 3)) (E (6 * cl (nI j) + 4)) (E (6 * cl (nI j) + 5)), nI j + 1) = _
      rw [cl_k (by omega), nI_1]
    · have hc : daC E (nI N) (nI t) (m, nI j) = false := by
        unfold daC
        show (if nI N ≤ nI j then false else if E (6 * cl (nI j)) = nI t then true else false) = false
        by_cases q : j < N
        · rw [if_neg (nI_ge q (by omega)), cl_k (by omega), if_neg (fun z => c ⟨q, z⟩)]
        · rw [if_pos (nI_le (by omega) (by omega))]
      rw [if_neg c, lw_f hc]
theorem e_dA {E : Nat → Int32} {N : Nat} {τ : Nat → Nat} {T : Nat} (H : LV E N τ T) (wo : Int32) (t : Nat) : ∀ (f : Nat) (m n : Nat → Int32) (j : Nat), eq_n 20 m n → eq_n 20 (dA E N wo t f m j).1 (dA E N wo t f n j).1 ∧ (dA E N wo t f m j).2 = (dA E N wo t f n j).2
  | 0, m, n, j, h => ⟨h, rfl⟩
  | f + 1, m, n, j, h => by
    unfold dA
    by_cases c : j < N ∧ E (6 * j) = nI t
    · rw [if_pos c, if_pos c]
      refine e_dA H wo t f _ _ (j + 1) ?_
      split
      · exact h
      · obtain ⟨-, -, w, e, ha⟩ := H.1 j c.1
        rw [e]
        exact e_ds h _ _ _ (aOk_k ha)
    · rw [if_neg c, if_neg c]
      exact ⟨h, rfl⟩
/-- a reference's row, count and next act are those of the time t -/
def isA (E : Nat → Int32) (N : Nat) (wo : Int32) (t : Nat) (m : Nat → Int32) (r a : Int32) : Prop := eq_n 20 m (rp E N wo t).1 ∧ r = (rp E N wo t).2.1 ∧ a = nI (rp E N wo t).2.2
theorem isA_0 {E : Nat → Int32} {N : Nat} {τ : Nat → Nat} {T : Nat} (H : LV E N τ T) (hN : N ≤ 100) (wo : Int32) (m : Nat → Int32) : isA E N wo 0 (daX E (nI N) (nI 0) wo (mr_bg m) (nI 0)).1 0 (daX E (nI N) (nI 0) wo (mr_bg m) (nI 0)).2 := by
  unfold isA daX
  rw [da_eq E hN wo 0 101 _ 0 (by omega)]
  obtain ⟨a, b⟩ := e_dA H wo 0 101 (mr_bg m) (mr_bg (fun _ => 0)) 0 (e_bg _ _)
  refine ⟨a, rfl, ?_⟩
  show nI _ = nI _
  rw [b]; rfl
theorem isA_s {E : Nat → Int32} {N : Nat} {τ : Nat → Nat} {T : Nat} (H : LV E N τ T) (hT : T < 2 ^ 30) (hN : N ≤ 100) {wo : Int32} {t : Nat} (ht : t < 2 ^ 30) {m : Nat → Int32} {r a : Int32} (h : isA E N wo t m r a) : isA E N wo (t + 1) (daX E (nI N) (nI (t + 1)) wo (mr_fr m) a).1 (mv_fn m r) (daX E (nI N) (nI (t + 1)) wo (mr_fr m) a).2 := by
  obtain ⟨h1, h2, h3⟩ := h
  have hj := (rp_ok H hT hN wo ht).2
  rw [h3]
  unfold isA daX
  rw [da_eq E hN wo (t + 1) 101 _ _ hj]
  obtain ⟨x, y⟩ := e_dA H wo (t + 1) 101 (mr_fr m) (mr_fr (rp E N wo t).1) (rp E N wo t).2.2 (e_fr h1)
  refine ⟨x, ?_, ?_⟩
  · rw [e_fn h1, h2]; rfl
  · show nI _ = nI _
    rw [y]; rfl
theorem gtX_eq {E : Nat → Int32} {N : Nat} {τ : Nat → Nat} {T : Nat} (H : LV E N τ T) (hT : T < 2 ^ 30) (hN : N ≤ 100) (wo : Int32) {t : Nat} (ht : t ≤ 5000) (m : Nat → Int32) : isA E N wo t (gtX E (nI N) (nI t) wo m).1 (gtX E (nI N) (nI t) wo m).2.1 (gtX E (nI N) (nI t) wo m).2.2.1 := by
  have key : ∀ (d s : Nat), s + d = t → ∀ (f : Nat), d < f → ∀ (n : Nat → Int32) (r a : Int32), isA E N wo s n r a → isA E N wo t (lw (gtC (nI t)) (gtB E (nI N) wo) f (n, r, a, nI (s + 1))).1 (lw (gtC (nI t)) (gtB E (nI N) wo) f (n, r, a, nI (s + 1))).2.1 (lw (gtC (nI t)) (gtB E (nI N) wo) f (n, r, a, nI (s + 1))).2.2.1 := by
    intro d
    induction d with
    | zero =>
      intro s hs f hf n r a h
      have : s = t := by omega
      subst this
      rw [lw_f (show gtC (nI s) (n, r, a, nI (s + 1)) = false from if_pos (show nI s < nI (s + 1) from nI_lt (by omega) (by omega)))]
      exact h
    | succ d ih =>
      intro s hs f hf n r a h
      obtain ⟨g, rfl⟩ : ∃ g, f = g + 1 := ⟨f - 1, by omega⟩
      have hc : gtC (nI t) (n, r, a, nI (s + 1)) = true := if_neg (show ¬ nI t < nI (s + 1) from fun z => by have := (nI_lt_iff (by omega) (by omega)).mp z; omega)
      rw [lw_t hc]
      have q := ih (s + 1) (by omega) g (by omega) _ _ _ (isA_s H hT hN (by omega) h)
      have eb : gtB E (nI N) wo (n, r, a, nI (s + 1)) = ((daX E (nI N) (nI (s + 1)) wo (mr_fr n) a).1, mv_fn n r, (daX E (nI N) (nI (s + 1)) wo (mr_fr n) a).2, nI (s + 1 + 1)) := by
        unfold gtB
        rw [nI_1]
      rw [eb]
      exact q
  have q := key t 0 (by omega) 5001 (by omega) _ _ _ (isA_0 H hN wo m)
  unfold gtX
  exact q
