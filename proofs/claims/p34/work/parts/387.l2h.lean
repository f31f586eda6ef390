/-! level 2: the red times -/
/-- the sources that are red at the time t -/
def rdv (E : Nat → Int32) (N t : Nat) : Int32 := mv_rd (mr_ls (rp E N (-1) t).1 (fun _ => 0))
theorem rdv_p {E : Nat → Int32} {N : Nat} {τ : Nat → Nat} {T : Nat} (H : LV E N τ T) (hT : T ≤ 5000) (hN : N ≤ 100) {R : Nat → Nat → Int32} {t : Nat} (h : RT E N τ (-1) R t) (ht : t ≤ 5000) (O : Nat → Nat → Int32) : rdF (gt_paint R O) = rdv E N t :=
  rd_eq (pt_eq (RT_rp H hT hN h ht).1 (rp_ok H (by omega) hN (-1) (t := t) (by omega)).1 O _)
theorem rdv_r {L : Nat → Nat → Int32} {E : Nat → Int32} {N : Nat} {τ : Nat → Nat} {T : Nat} (H : LV E N τ T) (hT : T ≤ 5000) (hL : LE L E N) (hN : N ≤ 100) {t : Nat} (ht : t ≤ 5000) {m : Nat → Int32} (e : eq_n 20 m (rp E N (-1) t).1) (s : Nat → Int32) : mv_rd (mr_ls m s) = rdv E N t := by
  have a := go_eq H hT hL hN (wo := -1) (R := gt_begin zM) (s := 0) (t := t) (RF_bg E N τ (-1) zM) (by omega) ht
  have o := (rp_ok H (by omega) hN (-1) (t := t) (by omega)).1
  have r := (RT_rp H hT hN a ht).1
  rw [← rdv_p H hT hN a ht zM]
  exact (rd_eq (pt_eq (RM_eq r e.sy) (mOk_eq o e.sy) zM s)).symm
/-- count, first, longest, in a row, before: after the times below t -/
def gq (E : Nat → Int32) (N : Nat) (q : Int32) : Nat → Int32 × Int32 × Int32 × Int32 × Int32
  | 0 => (0, -1, 0, 0, -1)
  | t + 1 => ((gq E N q t).1 + nzF (ghI (rdv E N t) q), ghF (ghI (rdv E N t) q) (gq E N q t).2.1 (nI t), ghL (ghO (rdv E N t) (gq E N q t).2.2.2.2 (gq E N q t).2.2.2.1) (gq E N q t).2.2.1, ghO (rdv E N t) (gq E N q t).2.2.2.2 (gq E N q t).2.2.2.1, rdv E N t)
theorem gq_s (E : Nat → Int32) (N : Nat) (q : Int32) (t : Nat) : gq E N q (t + 1) = ((gq E N q t).1 + nzF (ghI (rdv E N t) q), ghF (ghI (rdv E N t) q) (gq E N q t).2.1 (nI t), ghL (ghO (rdv E N t) (gq E N q t).2.2.2.2 (gq E N q t).2.2.2.1) (gq E N q t).2.2.1, ghO (rdv E N t) (gq E N q t).2.2.2.2 (gq E N q t).2.2.2.1, rdv E N t) := rfl
/-- the reference's state before the time t -/
def ghI2 (E : Nat → Int32) (N : Nat) (q : Int32) (t : Nat) (x : g10) : Prop := (x.2.2.2.2.1, x.2.2.2.2.2.1, x.2.2.2.2.2.2.1, x.2.2.2.2.2.2.2.1, x.2.2.2.2.2.2.2.2.1) = gq E N q t ∧ x.2.2.2.2.2.2.2.2.2 = nI t ∧ (t = 0 → eq_n 20 x.1 (mr_bg (fun _ => 0)) ∧ x.2.2.2.1 = 0) ∧ ∀ u, t = u + 1 → eq_n 20 x.1 (rp E N (-1) u).1 ∧ x.2.2.2.1 = nI (rp E N (-1) u).2.2
theorem gh_Y {E : Nat → Int32} {N : Nat} {τ : Nat → Nat} {T : Nat} (H : LV E N τ T) (hT : T < 2 ^ 30) (hN : N ≤ 100) {q : Int32} {t : Nat} (ht : t ≤ 5000) {x : g10} (h : ghI2 E N q t x) : eq_n 20 (ghY E (nI N) x).1 (rp E N (-1) t).1 ∧ (ghY E (nI N) x).2 = nI (rp E N (-1) t).2.2 := by
  obtain ⟨-, h2, h3, h4⟩ := h
  unfold ghY
  rw [h2]
  cases t with
  | zero =>
    obtain ⟨a, b⟩ := h3 rfl
    rw [if_pos (show nI 0 ≤ 0 by decide), b]
    unfold daX
    rw [show (0 : Int32) = nI 0 from rfl, da_eq E hN (-1) 0 101 _ 0 (by omega)]
    obtain ⟨c, d⟩ := e_dA H (-1) 0 101 x.1 (mr_bg (fun _ => 0)) 0 a
    refine ⟨c, ?_⟩
    show nI _ = nI _
    rw [d]; rfl
  | succ u =>
    obtain ⟨a, b⟩ := h4 u rfl
    rw [if_neg (show ¬ nI (u + 1) ≤ 0 from nI_ge (a := 0) (b := u + 1) (by omega) (by omega))]
    have i := isA_s (r := (rp E N (-1) u).2.1) H hT hN (wo := -1) (t := u) (by omega) ⟨a, rfl, b⟩
    exact ⟨i.1, i.2.2⟩
theorem gh_B {L : Nat → Nat → Int32} {E : Nat → Int32} {N : Nat} {τ : Nat → Nat} {T : Nat} (H : LV E N τ T) (hT : T ≤ 5000) (hL : LE L E N) (hN : N ≤ 100) {q : Int32} {t : Nat} (ht : t ≤ 5000) {x : g10} (h : ghI2 E N q t x) : ghI2 E N q (t + 1) (ghB E (nI N) q x) := by
  obtain ⟨y1, y2⟩ := gh_Y H (by omega) hN ht h
  have er : ghR E (nI N) x = rdv E N t := by
    unfold ghR ghS
    exact rdv_r H hT hL hN ht y1 _
  have h1 := h.1
  have h2 := h.2.1
  refine ⟨?_, ?_, fun z => absurd z (by omega), fun u hu => ?_⟩
  · rw [gq_s, ← h1]
    unfold ghB ghW
    rw [er, h2]
  · unfold ghB
    show x.2.2.2.2.2.2.2.2.2 + 1 = _
    rw [h2, nI_1]
  · have : u = t := by omega
    subst this
    exact ⟨y1, y2⟩
theorem gh_eq {L : Nat → Nat → Int32} {E : Nat → Int32} {N : Nat} {τ : Nat → Nat} {T : Nat} (H : LV E N τ T) (hT : T ≤ 5000) (hL : LE L E N) (hN : N ≤ 100) (q : Int32) {c : Nat} (hc : c ≤ 5000) (m s : Nat → Int32) (r : Int32) : ghI2 E N q (c + 1) (ghX E (nI N) (nI c) q m s r) := by
  have key : ∀ (d t : Nat), t + d = c + 1 → ∀ f : Nat, d < f → ∀ x : g10, ghI2 E N q t x → ghI2 E N q (c + 1) (lw (ghC (nI c)) (ghB E (nI N) q) f x) := by
    intro d
    induction d with
    | zero =>
      intro t ht f hf x h
      have : t = c + 1 := by omega
      subst this
      have c1 : ghC (nI c) x = false := by
        unfold ghC
        rw [h.2.1]
        exact if_pos (nI_lt (by omega) (by omega))
      rw [lw_f c1]; exact h
    | succ d ih =>
      intro t ht f hf x h
      obtain ⟨g, rfl⟩ : ∃ g, f = g + 1 := ⟨f - 1, by omega⟩
      have c1 : ghC (nI c) x = true := by
        unfold ghC
        rw [h.2.1]
        exact if_neg (fun z => by have := (nI_lt_iff (by omega) (by omega)).mp z; omega)
      rw [lw_t c1]
      exact ih (t + 1) (by omega) g (by omega) _ (gh_B H hT hL hN (by omega) h)
  unfold ghX
  exact key (c + 1) 0 (by omega) 5002 (by omega) _ ⟨rfl, rfl, fun _ => ⟨e_bg _ _, rfl⟩, fun u hu => absurd hu (by omega)⟩
/-! the class's spans -/
theorem sp_eq {J : Nat → Nat → Nat → Int32} {E : Nat → Int32} {N : Nat} {τ : Nat → Nat} {c : Nat} (H : LV E N τ c) (hc : c ≤ 5000) (hL : LE (J 3) E N) (hN : N ≤ 100) (h7 : J 0 0 7 = nI c) {R : Nat → Nat → Int32} {s u : Nat} (hR : RF E N τ (-1) R s) (hsu : s ≤ u) (hu : u ≤ c) : RT E N τ (-1) (lpR J (nI u) R) u ∧ ∃ k : Nat, 1 ≤ k ∧ u + k ≤ c + 1 ∧ lpS J (nI u) R = nI k ∧ ∀ i, i < k → rdv E N (u + i) = rdv E N u := by
  have a := go_eq H hc hL hN (wo := -1) (t := u) hR hsu (by omega)
  refine ⟨a, ?_⟩
  obtain ⟨x1, x2, x3, x4⟩ := RT_rp H hc hN a (by omega)
  obtain ⟨j, hj, ej⟩ := rp_u H (by omega) hN (-1) u (by omega)
  have e2 : (rp E N (-1) u).2.2 = j := by rw [ej]
  have em : (rp E N (-1) u).1 = (uA E (-1) j u).1 := by rw [ej]
  rw [e2] at x4
  have x6 := x1.1 6 (by omega)
  have mx : ∀ k : Nat, 1 ≤ k → k ≤ 5001 → mx1 (nI k) = nI k := fun k h1 h2 => by
    unfold mx1
    by_cases z : k = 1
    · subst z; rfl
    · rw [if_pos (show (1 : Int32) < nI k from nI_lt (a := 1) (by omega) (by omega))]
  have la : J 0 0 7 + 1 = nI (c + 1) := by rw [h7, nI_1]
  have cst : (rp E N (-1) u).1 6 = -1 → ∀ i, (∀ z, j ≤ z → z < N → u + i < τ z) → u + i ≤ c → rdv E N (u + i) = rdv E N u := fun h6 i hz hi => by
    unfold rdv
    rw [rp_c H (by omega) hN (-1) (t := u + i) (by omega) ⟨hj.1, fun z hz2 => by have := hj.2.1 z hz2; omega, hz⟩, em]
    show mv_rd (mr_ls (uA E (-1) j (u + i)).1 _) = _
    rw [uA_add (uS_t H (by omega) (-1) j hj.1 hj.2.1)]
    rw [em] at h6
    have e := frk_stop (uA E (-1) j u).2 h6 i
    rw [show frk i (uA E (-1) j u) = frk i ((uA E (-1) j u).1, (uA E (-1) j u).2) from rfl, e]
  unfold lpS stF
  have y6 : lpR J (nI u) R 0 6 = (rp E N (-1) u).1 6 := x6
  have y7 : lpR J (nI u) R 0 7 = nI u := x2
  have y4 : lpR J (nI u) R 4 0 = nI j := x4
  rw [y6, y7, y4, hL.1, la]
  by_cases h6 : (rp E N (-1) u).1 6 = -1
  · rw [if_pos h6]
    by_cases hjN : j < N
    · obtain ⟨e, hτ, -⟩ := H.1 j hjN
      have hu2 := hj.2.2 j (by omega) hjN
      rw [if_neg (nI_ge hjN (by omega)), lg_0 hL hN hjN, e, if_pos (nI_lt (by omega) (by omega)), nI_sub (by omega) (by omega)]
      refine ⟨τ j - u, by omega, by omega, mx _ (by omega) (by omega), fun i hi => cst h6 i (fun z hz1 hz2 => by have := H.2 j z hz1 hz2; omega) (by omega)⟩
    · have hj1 := hj.1
      rw [if_pos (nI_le (by omega) (by omega)), nI_sub (by omega) (by omega)]
      exact ⟨c + 1 - u, by omega, by omega, mx _ (by omega) (by omega), fun i hi => cst h6 i (fun z hz1 hz2 => by omega) (by omega)⟩
  · rw [if_neg h6]
    exact ⟨1, by omega, by omega, by decide, fun i hi => by rw [show i = 0 by omega]; rfl⟩
theorem bit_gh (x q : Int32) : bitF x q = ghI x q := by
  unfold bitF ghI
  rcases and1 (x >>> (q &&& 31)) with e | e
  · rw [e]; rfl
  · rw [e]; rfl
theorem gh01 (x q : Int32) : ghI x q = 0 ∨ ghI x q = 1 := by
  unfold ghI
  split
  · exact Or.inr rfl
  · exact Or.inl rfl
theorem nz01 {x : Int32} (h : x = 0 ∨ x = 1) : nzF x = x := by rcases h with rfl | rfl <;> rfl
theorem gq_1 {E : Nat → Int32} {N : Nat} {q : Int32} {u : Nat} : ∀ k : Nat, (∀ i, i < k → rdv E N (u + i) = rdv E N u) → (gq E N q (u + k)).1 = (if ghI (rdv E N u) q = 0 then (gq E N q u).1 else (gq E N q u).1 + nI k)
  | 0, _ => by
    split
    · rfl
    · exact (Int32.add_zero _).symm
  | k + 1, h => by
    show (gq E N q (u + k + 1)).1 = _
    rw [gq_s, gq_1 k (fun i hi => h i (by omega)), h k (by omega), nz01 (gh01 _ _)]
    show (if _ then _ else _) + ghI (rdv E N u) q = _
    rcases gh01 (rdv E N u) q with e | e
    · rw [e, if_pos rfl, if_pos rfl, Int32.add_zero]
    · rw [e, if_neg (by decide), if_neg (by decide), Int32.add_assoc, nI_1]
/-! how often red -/
theorem tr_eq {J : Nat → Nat → Nat → Int32} {E : Nat → Int32} {N : Nat} {τ : Nat → Nat} {c : Nat} (H : LV E N τ c) (hc : c ≤ 5000) (hL : LE (J 3) E N) (hN : N ≤ 100) (h7 : J 0 0 7 = nI c) (q : Int32) : trC J (trX J q) = false ∧ (trX J q).2.2.1 = (gq E N q (c + 1)).1 := by
  have key : ∀ (D f u s : Nat), c + 1 - u ≤ D → D < f → u ≤ c + 1 → s ≤ u → ∀ x : (Nat → Nat → Int32) × (Nat → Nat → Int32) × Int32 × Int32 × Int32, RF E N τ (-1) x.1 s → x.2.2.1 = (gq E N q u).1 → x.2.2.2.2 = nI u → trC J (lw (trC J) (trB J q) f x) = false ∧ (lw (trC J) (trB J q) f x).2.2.1 = (gq E N q (c + 1)).1 := by
    intro D
    induction D with
    | zero =>
      intro f u s hD hf hu hs x h1 h2 h3
      have : u = c + 1 := by omega
      subst this
      have c1 : trC J x = false := by
        unfold trC
        rw [h3, h7]
        exact if_pos (nI_lt (by omega) (by omega))
      rw [lw_f c1]; exact ⟨c1, h2⟩
    | succ D ih =>
      intro f u s hD hf hu hs x h1 h2 h3
      obtain ⟨g, rfl⟩ : ∃ g, f = g + 1 := ⟨f - 1, by omega⟩
      by_cases z : u = c + 1
      · subst z
        have c1 : trC J x = false := by
          unfold trC
          rw [h3, h7]
          exact if_pos (nI_lt (by omega) (by omega))
        rw [lw_f c1]; exact ⟨c1, h2⟩
      · have c1 : trC J x = true := by
          unfold trC
          rw [h3, h7]
          exact if_neg (fun z => by have := (nI_lt_iff (by omega) (by omega)).mp z; omega)
        rw [lw_t c1]
        obtain ⟨a, k, k1, k2, k3, k4⟩ := sp_eq H hc hL hN h7 h1 hs (show u ≤ c by omega)
        refine ih g (u + k) u (by omega) (by omega) k2 (by omega) _ ?_ ?_ ?_
        · show RF E N τ (-1) (lpR J x.2.2.2.2 x.1) u
          rw [h3]; exact RT_RF H hc a
        · show (if bitF (rdF (lpO J x.2.2.2.2 x.1 x.2.1)) q = 0 then x.2.2.1 else x.2.2.1 + lpS J x.2.2.2.2 x.1) = _
          rw [h3, k3, gq_1 k k4, ← h2, bit_gh]
          have e : rdF (lpO J (nI u) x.1 x.2.1) = rdv E N u := rdv_p H hc hN a (by omega) _
          rw [e]
        · show x.2.2.2.2 + lpS J x.2.2.2.2 x.1 = _
          rw [h3, k3, nI_add]
  unfold trX
  exact key (c + 1) 5002 0 0 (by omega) (by omega) (by omega) (by omega) _ (RF_bg E N τ (-1) (J 4)) rfl rfl
/-! first red -/
theorem gq_f {E : Nat → Int32} {N : Nat} {q : Int32} {u : Nat} : ∀ t : Nat, t ≤ 6000 → (∀ i, i < t → ghI (rdv E N i) q = 0) → (gq E N q t).2.1 = -1
  | 0, _, _ => rfl
  | t + 1, ht, h => by
    rw [gq_s]
    show ghF (ghI (rdv E N t) q) (gq E N q t).2.1 (nI t) = -1
    rw [h t (by omega)]
    exact gq_f (u := u) t (by omega) (fun i hi => h i (by omega))
theorem gq_g {E : Nat → Int32} {N : Nat} {q : Int32} {u : Nat} (hu : u ≤ 5000) (h0 : ∀ i, i < u → ghI (rdv E N i) q = 0) (h1 : ¬ ghI (rdv E N u) q = 0) : ∀ k : Nat, (gq E N q (u + 1 + k)).2.1 = nI u
  | 0 => by
    rw [Nat.add_zero, gq_s]
    show ghF (ghI (rdv E N u) q) (gq E N q u).2.1 (nI u) = nI u
    rw [gq_f (u := u) u (by omega) h0]
    unfold ghF
    rw [if_neg h1, if_pos rfl]
  | k + 1 => by
    show (gq E N q (u + 1 + k + 1)).2.1 = _
    rw [gq_s]
    show ghF _ (gq E N q (u + 1 + k)).2.1 _ = nI u
    rw [gq_g hu h0 h1 k]
    unfold ghF
    rw [if_neg (nI_ne1 (a := u) (by omega))]
    split <;> rfl
theorem fr_eq {J : Nat → Nat → Nat → Int32} {E : Nat → Int32} {N : Nat} {τ : Nat → Nat} {c : Nat} (H : LV E N τ c) (hc : c ≤ 5000) (hL : LE (J 3) E N) (hN : N ≤ 100) (h7 : J 0 0 7 = nI c) (q : Int32) : frC J q (frX J q) = false ∧ frR J q = (gq E N q (c + 1)).2.1 := by
  have key : ∀ (D f u s : Nat), c + 1 - u ≤ D → D < f → u ≤ c + 1 → s ≤ u → ∀ x : (Nat → Nat → Int32) × (Nat → Nat → Int32) × Int32 × Int32, RF E N τ (-1) x.1 s → (∀ i, i < u → ghI (rdv E N i) q = 0) → x.2.2.2 = nI u → frC J q (lw (frC J q) (frB J) f x) = false ∧ (if J 0 0 7 < (lw (frC J q) (frB J) f x).2.2.2 then -1 else (lw (frC J q) (frB J) f x).2.2.2) = (gq E N q (c + 1)).2.1 := by
    intro D
    induction D with
    | zero =>
      intro f u s hD hf hu hs x h1 h2 h3
      have : u = c + 1 := by omega
      subst this
      have hlt : nI c < nI (c + 1) := nI_lt (by omega) (by omega)
      have c1 : frC J q x = false := by
        unfold frC
        rw [h3, h7]
        exact if_pos hlt
      rw [lw_f c1, h3, h7, if_pos hlt, gq_f (u := 0) (c + 1) (by omega) h2]
      exact ⟨c1, rfl⟩
    | succ D ih =>
      intro f u s hD hf hu hs x h1 h2 h3
      obtain ⟨g, rfl⟩ : ∃ g, f = g + 1 := ⟨f - 1, by omega⟩
      by_cases z : u = c + 1
      · subst z
        have hlt : nI c < nI (c + 1) := nI_lt (by omega) (by omega)
        have c1 : frC J q x = false := by
          unfold frC
          rw [h3, h7]
          exact if_pos hlt
        rw [lw_f c1, h3, h7, if_pos hlt, gq_f (u := 0) (c + 1) (by omega) h2]
        exact ⟨c1, rfl⟩
      · have hn : ¬ nI c < nI u := fun z => by have := (nI_lt_iff (by omega) (by omega)).mp z; omega
        obtain ⟨a, k, k1, k2, k3, k4⟩ := sp_eq H hc hL hN h7 h1 hs (show u ≤ c by omega)
        have e : rdF (lpO J (nI u) x.1 x.2.1) = rdv E N u := rdv_p H hc hN a (by omega) _
        by_cases w : ghI (rdv E N u) q = 0
        · have c1 : frC J q x = true := by
            unfold frC
            rw [h3, h7, if_neg hn, e, bit_gh, if_pos w]
          rw [lw_t c1]
          refine ih g (u + k) u (by omega) (by omega) k2 (by omega) _ ?_ (fun i hi => ?_) ?_
          · show RF E N τ (-1) (lpR J x.2.2.2 x.1) u
            rw [h3]; exact RT_RF H hc a
          · by_cases y : i < u
            · exact h2 i y
            · have := k4 (i - u) (by omega)
              rw [show u + (i - u) = i by omega] at this
              rw [this]; exact w
          · show x.2.2.2 + lpS J x.2.2.2 x.1 = _
            rw [h3, k3, nI_add]
        · have c1 : frC J q x = false := by
            unfold frC
            rw [h3, h7, if_neg hn, e, bit_gh, if_neg w]
          rw [lw_f c1, h3, h7, if_neg hn]
          refine ⟨c1, ?_⟩
          have := gq_g (E := E) (N := N) (q := q) (u := u) (by omega) h2 w (c - u)
          rw [show u + 1 + (c - u) = c + 1 by omega] at this
          exact this.symm
  unfold frR frX
  exact key (c + 1) 5002 0 0 (by omega) (by omega) (by omega) (by omega) _ (RF_bg E N τ (-1) (J 4)) (fun i hi => absurd hi (by omega)) rfl
/-! the longest shot -/
/-- in a row, as numbers -/
def rwN (E : Nat → Int32) (N : Nat) (q : Int32) : Nat → Nat × Nat
  | 0 => (0, 0)
  | t + 1 => let w := if rdv E N t = (gq E N q t).2.2.2.2 then (rwN E N q t).1 + 1 else 1; (w, max (rwN E N q t).2 w)
theorem rwN_s (E : Nat → Int32) (N : Nat) (q : Int32) (t : Nat) : rwN E N q (t + 1) = ((if rdv E N t = (gq E N q t).2.2.2.2 then (rwN E N q t).1 + 1 else 1), max (rwN E N q t).2 (if rdv E N t = (gq E N q t).2.2.2.2 then (rwN E N q t).1 + 1 else 1)) := rfl
theorem rwN_b (E : Nat → Int32) (N : Nat) (q : Int32) : ∀ t : Nat, (rwN E N q t).1 ≤ t ∧ (rwN E N q t).2 ≤ t
  | 0 => ⟨Nat.le_refl _, Nat.le_refl _⟩
  | t + 1 => by
    obtain ⟨a, b⟩ := rwN_b E N q t
    rw [rwN_s]
    show (if _ then _ else _) ≤ _ ∧ max _ (if _ then _ else _) ≤ _
    split
    · exact ⟨Nat.succ_le_succ a, Nat.max_le.mpr ⟨Nat.le_succ_of_le b, Nat.succ_le_succ a⟩⟩
    · exact ⟨Nat.succ_le_succ (Nat.zero_le _), Nat.max_le.mpr ⟨Nat.le_succ_of_le b, Nat.succ_le_succ (Nat.zero_le _)⟩⟩
theorem gq_w (E : Nat → Int32) (N : Nat) (q : Int32) : ∀ t : Nat, t ≤ 6000 → (gq E N q t).2.2.2.1 = nI (rwN E N q t).1 ∧ (gq E N q t).2.2.1 = nI (rwN E N q t).2
  | 0, _ => ⟨rfl, rfl⟩
  | t + 1, ht => by
    obtain ⟨a, b⟩ := gq_w E N q t (by omega)
    obtain ⟨c, d⟩ := rwN_b E N q t
    rw [gq_s, rwN_s]
    have e : ghO (rdv E N t) (gq E N q t).2.2.2.2 (gq E N q t).2.2.2.1 = nI (if rdv E N t = (gq E N q t).2.2.2.2 then (rwN E N q t).1 + 1 else 1) := by
      unfold ghO
      rw [a]
      split
      · rw [nI_1]
      · rfl
    refine ⟨e, ?_⟩
    show ghL (ghO _ _ _) _ = nI (max _ _)
    rw [e, b]
    have hb : (if rdv E N t = (gq E N q t).2.2.2.2 then (rwN E N q t).1 + 1 else 1) ≤ t + 1 := by split <;> omega
    generalize (if rdv E N t = (gq E N q t).2.2.2.2 then (rwN E N q t).1 + 1 else 1) = w at *
    unfold ghL
    by_cases z : w ≤ (rwN E N q t).2
    · rw [if_pos (nI_le z (by omega)), Nat.max_eq_left z]
    · rw [if_neg (nI_ge (by omega) (by omega)), Nat.max_eq_right (by omega)]
theorem rw_k {E : Nat → Int32} {N : Nat} {q : Int32} {u : Nat} : ∀ k : Nat, (∀ i, i < k + 1 → rdv E N (u + i) = rdv E N u) → (gq E N q (u + (k + 1))).2.2.2.2 = rdv E N u ∧ (rwN E N q (u + (k + 1))).1 = (if rdv E N u = (gq E N q u).2.2.2.2 then (rwN E N q u).1 + (k + 1) else k + 1) ∧ (rwN E N q (u + (k + 1))).2 = max (rwN E N q u).2 (rwN E N q (u + (k + 1))).1
  | 0, _ => ⟨rfl, rfl, rfl⟩
  | k + 1, h => by
    obtain ⟨a, b, c⟩ := rw_k (E := E) (N := N) (q := q) (u := u) k (fun i hi => h i (by omega))
    have e := h (k + 1) (by omega)
    show (gq E N q (u + (k + 1) + 1)).2.2.2.2 = _ ∧ (rwN E N q (u + (k + 1) + 1)).1 = _ ∧ (rwN E N q (u + (k + 1) + 1)).2 = max _ (rwN E N q (u + (k + 1) + 1)).1
    rw [gq_s, rwN_s, e, a, if_pos rfl, b, c, b]
    refine ⟨rfl, ?_, ?_⟩
    · show (if _ then _ else _) + 1 = _
      split
      · rfl
      · rfl
    · show max (max _ _) _ = max _ _
      generalize (if rdv E N u = (gq E N q u).2.2.2.2 then (rwN E N q u).1 + (k + 1) else k + 1) = w
      rw [Nat.max_assoc, Nat.max_eq_right (Nat.le_succ w)]
theorem lsB_e (J : Nat → Nat → Nat → Int32) (R O : Nat → Nat → Int32) (l h b sp t : Int32) : lsB J (R, O, l, h, b, sp, t) = (lpR J t R, lpO J t R O, (if l < (if rdF (lpO J t R O) = b then h + lpS J t R else lpS J t R) then (if rdF (lpO J t R O) = b then h + lpS J t R else lpS J t R) else l), (if rdF (lpO J t R O) = b then h + lpS J t R else lpS J t R), rdF (lpO J t R O), lpS J t R, t + lpS J t R) := rfl
theorem ls_B {J : Nat → Nat → Nat → Int32} {E : Nat → Int32} {N : Nat} {τ : Nat → Nat} {c : Nat} (H : LV E N τ c) (hc : c ≤ 5000) (hL : LE (J 3) E N) (hN : N ≤ 100) (h7 : J 0 0 7 = nI c) {s u : Nat} (hu : u ≤ c) (hs : s ≤ u) {R : Nat → Nat → Int32} (O : Nat → Nat → Int32) (sp : Int32) (h1 : RF E N τ (-1) R s) : ∃ k : Nat, u + (k + 1) ≤ c + 1 ∧ RF E N τ (-1) (lpR J (nI u) R) u ∧ lsB J (R, O, nI (rwN E N 0 u).2, nI (rwN E N 0 u).1, (gq E N 0 u).2.2.2.2, sp, nI u) = (lpR J (nI u) R, lpO J (nI u) R O, nI (rwN E N 0 (u + (k + 1))).2, nI (rwN E N 0 (u + (k + 1))).1, (gq E N 0 (u + (k + 1))).2.2.2.2, nI (k + 1), nI (u + (k + 1))) := by
  obtain ⟨a, k, k1, k2, k3, k4⟩ := sp_eq H hc hL hN h7 h1 hs hu
  obtain ⟨k, rfl⟩ : ∃ z, k = z + 1 := ⟨k - 1, by omega⟩
  obtain ⟨r1, r2, r3⟩ := rw_k (q := 0) k k4
  have e : rdF (lpO J (nI u) R O) = rdv E N u := rdv_p H hc hN a (by omega) _
  have b1 := rwN_b E N 0 u
  have b2 := rwN_b E N 0 (u + (k + 1))
  refine ⟨k, k2, RT_RF H hc a, ?_⟩
  have eh : (if rdF (lpO J (nI u) R O) = (gq E N 0 u).2.2.2.2 then nI (rwN E N 0 u).1 + lpS J (nI u) R else lpS J (nI u) R) = nI (rwN E N 0 (u + (k + 1))).1 := by
    rw [k3, e, r2]
    split
    · rw [nI_add]
    · rfl
  have el : (if nI (rwN E N 0 u).2 < nI (rwN E N 0 (u + (k + 1))).1 then nI (rwN E N 0 (u + (k + 1))).1 else nI (rwN E N 0 u).2) = nI (rwN E N 0 (u + (k + 1))).2 := by
    rw [r3]
    by_cases w : (rwN E N 0 u).2 < (rwN E N 0 (u + (k + 1))).1
    · rw [if_pos (nI_lt w (by omega)), Nat.max_eq_right (by omega)]
    · rw [if_neg (fun y => w ((nI_lt_iff (by omega) (by omega)).mp y)), Nat.max_eq_left (by omega)]
  rw [lsB_e, eh, el, e, r1, k3, nI_add]
theorem ls_fin {J : Nat → Nat → Nat → Int32} (E : Nat → Int32) (N : Nat) {c : Nat} (hc : c ≤ 5000) (h7 : J 0 0 7 = nI c) (f : Nat) (R O : Nat → Nat → Int32) (h b sp : Int32) : lsC J (lw (lsC J) (lsB J) f (R, O, nI (rwN E N 0 (c + 1)).2, h, b, sp, nI (c + 1))) = false ∧ (lw (lsC J) (lsB J) f (R, O, nI (rwN E N 0 (c + 1)).2, h, b, sp, nI (c + 1))).2.2.1 = (gq E N 0 (c + 1)).2.2.1 := by
  have c1 : lsC J (R, O, nI (rwN E N 0 (c + 1)).2, h, b, sp, nI (c + 1)) = false := by
    unfold lsC
    rw [h7]
    exact if_pos (nI_lt (by omega) (by omega))
  rw [lw_f c1, (gq_w E N 0 (c + 1) (by omega)).2]
  exact ⟨c1, rfl⟩
theorem ls_eq2 {J : Nat → Nat → Nat → Int32} {E : Nat → Int32} {N : Nat} {τ : Nat → Nat} {c : Nat} (H : LV E N τ c) (hc : c ≤ 5000) (hL : LE (J 3) E N) (hN : N ≤ 100) (h7 : J 0 0 7 = nI c) : lsC J (lsX J) = false ∧ (lsX J).2.2.1 = (gq E N 0 (c + 1)).2.2.1 := by
  have key : ∀ (D f u s : Nat), c + 1 - u ≤ D → D < f → u ≤ c + 1 → s ≤ u → ∀ (R O : Nat → Nat → Int32) (sp : Int32), RF E N τ (-1) R s → lsC J (lw (lsC J) (lsB J) f (R, O, nI (rwN E N 0 u).2, nI (rwN E N 0 u).1, (gq E N 0 u).2.2.2.2, sp, nI u)) = false ∧ (lw (lsC J) (lsB J) f (R, O, nI (rwN E N 0 u).2, nI (rwN E N 0 u).1, (gq E N 0 u).2.2.2.2, sp, nI u)).2.2.1 = (gq E N 0 (c + 1)).2.2.1 := by
    intro D
    induction D with
    | zero =>
      intro f u s hD hf hu hs R O sp h1
      have : u = c + 1 := by omega
      subst this
      exact ls_fin E N hc h7 f R O _ _ sp
    | succ D ih =>
      intro f u s hD hf hu hs R O sp h1
      obtain ⟨g, rfl⟩ : ∃ g, f = g + 1 := ⟨f - 1, by omega⟩
      by_cases z : u = c + 1
      · subst z
        exact ls_fin E N hc h7 _ R O _ _ sp
      · have c1 : lsC J (R, O, nI (rwN E N 0 u).2, nI (rwN E N 0 u).1, (gq E N 0 u).2.2.2.2, sp, nI u) = true := by
          unfold lsC
          rw [h7]
          exact if_neg (fun z => by have := (nI_lt_iff (by omega) (by omega)).mp z; omega)
        obtain ⟨k, k2, a, e⟩ := ls_B H hc hL hN h7 (show u ≤ c by omega) hs O sp h1
        rw [lw_t c1, e]
        exact ih g (u + (k + 1)) u (by omega) (by omega) k2 (by omega) _ _ _ a
  unfold lsX
  exact key (c + 1) 5002 0 0 (by omega) (by omega) (by omega) (by omega) _ _ _ (RF_bg E N τ (-1) (J 4))
theorem v46_0 (J : Nat → Nat → Nat → Int32) (R O : Nat → Nat → Int32) : vm_46 J R O 0 = J 0 ∧ vm_46 J R O 3 = J 3 ∧ vm_46 J R O 7 = J 7 := by
  unfold vm_46
  simp only [gs_eq, gs_ne, Nat.reduceBEq]
  exact ⟨trivial, trivial, trivial⟩
theorem inv_gh {J : Nat → Nat → Nat → Int32} {S : Nat → Nat → Int32} (I : Inv J S) (q : Int32) (m s : Nat → Int32) (r : Int32) : eq_n 20 (S 1) (ghX (S 3) (S 0 1) (S 0 0) q m s r).1 := by
  obtain ⟨N, t, τ, hN, ht, e1, e2, -, hL, H, h⟩ := inv_d I
  rw [e1, e2]
  exact h.tr ((gh_eq H ht hL hN q ht m s r).2.2.2 t rfl).1.sy
theorem timesRed_1 (S : Nat → Nat → Int32) (q : Int32) : mc_timesRed S q 1 = (if mv_go (mv_is q) 1 1 = 0 then (S 1) else (ghX (S 3) (S 0 1) (S 0 0) q (S 1) (S 4) (S 0 3)).1) := by
  unfold mc_timesRed
  simp only [sF_eq, sF_ne, sR_eq, sR_ne, upd_eq, upd_ne, Nat.reduceBEq]
theorem timesRed_o (S : Nat → Nat → Int32) (q : Int32) : mc_timesRed S q 0 0 = S 0 0 ∧ mc_timesRed S q 0 1 = S 0 1 ∧ mc_timesRed S q 0 8 = S 0 8 ∧ mc_timesRed S q 3 = S 3 ∧ mc_timesRed S q 6 = S 6 ∧ mc_timesRed S q 0 2 = mv_gf (mv_is q) 1 1 := by
  unfold mc_timesRed
  simp only [sF_eq, sF_ne, sR_eq, sR_ne, upd_eq, upd_ne, Nat.reduceBEq]
  exact ⟨trivial, trivial, trivial, trivial, trivial, trivial⟩
theorem firstRed_1 (S : Nat → Nat → Int32) (q : Int32) : mc_firstRed S q 1 = (if mv_go (mv_is q) 1 1 = 0 then (S 1) else (ghX (S 3) (S 0 1) (S 0 0) q (S 1) (S 4) (S 0 3)).1) := by
  unfold mc_firstRed
  simp only [sF_eq, sF_ne, sR_eq, sR_ne, upd_eq, upd_ne, Nat.reduceBEq]
theorem firstRed_o (S : Nat → Nat → Int32) (q : Int32) : mc_firstRed S q 0 0 = S 0 0 ∧ mc_firstRed S q 0 1 = S 0 1 ∧ mc_firstRed S q 0 8 = S 0 8 ∧ mc_firstRed S q 3 = S 3 ∧ mc_firstRed S q 6 = S 6 ∧ mc_firstRed S q 0 2 = mv_gf (mv_is q) 1 1 := by
  unfold mc_firstRed
  simp only [sF_eq, sF_ne, sR_eq, sR_ne, upd_eq, upd_ne, Nat.reduceBEq]
  exact ⟨trivial, trivial, trivial, trivial, trivial, trivial⟩
theorem c2_timesRed {J : Nat → Nat → Nat → Int32} {S : Nat → Nat → Int32} (I : Inv J S) (q : Int32) : ((S 0 1) ≤ 100) ∧ (lgv (S 3) (S 0 1)) ∧ ((S 0 0) ≤ 5000) ∧ (((okS q) ∧ (J 3 0 0 ≤ 100) ∧ (trC J (trX J q) = false) ∧ (mc_timesRed S q) 0 2 = 0 ∧ (trX J q).2.2.1 = (if mv_go (mv_is q) 1 1 = 0 then 0 else (ghX (S 3) (S 0 1) (S 0 0) q (S 1) (S 4) (S 0 3)).2.2.2.2.1) ∧ Inv (vm_46 J (trX J q).1 (trX J q).2.1) (mc_timesRed S q)) ∨ (¬ (okS q) ∧ (mc_timesRed S q) 0 2 = 1 ∧ Inv J (mc_timesRed S q))) := by
  refine ⟨(inv_n0 I).2.1, inv_lg I, (inv_n0 I).2.2.1, ?_⟩
  have r1 := timesRed_1 S q
  obtain ⟨b1, b2, b3, b4, b5, r⟩ := timesRed_o S q
  by_cases h : okS q
  · left
    rw [if_neg (go_s1 h)] at r1
    obtain ⟨N, tt, τ, hN, ht, e3, e4, e5, hL, H, -⟩ := inv_d I
    obtain ⟨x1, x2⟩ := tr_eq H ht hL hN e5 q
    obtain ⟨p0, p3, p7⟩ := v46_0 J (trX J q).1 (trX J q).2.1
    refine ⟨h, j3_le I, x1, r.trans (gf_s1 h), ?_, inv_cg I p0 p3 p7 b1 b2 b3 (by rw [r1]; exact inv_gh I _ _ _ _) b4 b5⟩
    rw [if_neg (go_s1 h), x2, e3, e4]
    have y := (gh_eq H ht hL hN q ht (S 1) (S 4) (S 0 3)).1
    rw [← y]
  · right
    rw [if_pos (go_s0 h)] at r1
    exact ⟨h, r.trans (gf_s0 h), inv_cg I rfl rfl rfl b1 b2 b3 (by rw [r1]; exact eq_n.rf) b4 b5⟩
theorem c2_firstRed {J : Nat → Nat → Nat → Int32} {S : Nat → Nat → Int32} (I : Inv J S) (q : Int32) : ((S 0 1) ≤ 100) ∧ (lgv (S 3) (S 0 1)) ∧ ((S 0 0) ≤ 5000) ∧ (((okS q) ∧ (J 3 0 0 ≤ 100) ∧ (frC J q (frX J q) = false) ∧ (mc_firstRed S q) 0 2 = 0 ∧ frR J q = (if mv_go (mv_is q) 1 1 = 0 then 0 else (ghX (S 3) (S 0 1) (S 0 0) q (S 1) (S 4) (S 0 3)).2.2.2.2.2.1) ∧ Inv (vm_fr J q) (mc_firstRed S q)) ∨ (¬ (okS q) ∧ (mc_firstRed S q) 0 2 = 1 ∧ Inv J (mc_firstRed S q))) := by
  refine ⟨(inv_n0 I).2.1, inv_lg I, (inv_n0 I).2.2.1, ?_⟩
  have r1 := firstRed_1 S q
  obtain ⟨b1, b2, b3, b4, b5, r⟩ := firstRed_o S q
  by_cases h : okS q
  · left
    rw [if_neg (go_s1 h)] at r1
    obtain ⟨N, tt, τ, hN, ht, e3, e4, e5, hL, H, -⟩ := inv_d I
    obtain ⟨x1, x2⟩ := fr_eq H ht hL hN e5 q
    have pp : vm_fr J q 0 = J 0 ∧ vm_fr J q 3 = J 3 ∧ vm_fr J q 7 = J 7 := by
      unfold vm_fr
      split
      · exact v46_0 _ _ _
      · exact v46_0 _ _ _
    obtain ⟨p0, p3, p7⟩ := pp
    refine ⟨h, j3_le I, x1, r.trans (gf_s1 h), ?_, inv_cg I p0 p3 p7 b1 b2 b3 (by rw [r1]; exact inv_gh I _ _ _ _) b4 b5⟩
    rw [if_neg (go_s1 h), x2, e3, e4]
    have y := (gh_eq H ht hL hN q ht (S 1) (S 4) (S 0 3)).1
    rw [← y]
  · right
    rw [if_pos (go_s0 h)] at r1
    exact ⟨h, r.trans (gf_s0 h), inv_cg I rfl rfl rfl b1 b2 b3 (by rw [r1]; exact eq_n.rf) b4 b5⟩
theorem longestShot_o (S : Nat → Nat → Int32) : mc_longestShot S 0 0 = S 0 0 ∧ mc_longestShot S 0 1 = S 0 1 ∧ mc_longestShot S 0 8 = S 0 8 ∧ mc_longestShot S 3 = S 3 ∧ mc_longestShot S 6 = S 6 ∧ mc_longestShot S 1 = (ghX (S 3) (S 0 1) (S 0 0) 0 (S 1) (S 4) (S 0 3)).1 := by
  unfold mc_longestShot
  simp only [sF_eq, sF_ne, sR_eq, sR_ne, upd_eq, upd_ne, Nat.reduceBEq]
  exact ⟨trivial, trivial, trivial, trivial, trivial, trivial⟩
theorem c2_longestShot {J : Nat → Nat → Nat → Int32} {S : Nat → Nat → Int32} (I : Inv J S) : ((S 0 1) ≤ 100) ∧ (lgv (S 3) (S 0 1)) ∧ ((S 0 0) ≤ 5000) ∧ ((J 3 0 0 ≤ 100) ∧ (lsC J (lsX J) = false) ∧ (lsX J).2.2.1 = (ghX (S 3) (S 0 1) (S 0 0) 0 (S 1) (S 4) (S 0 3)).2.2.2.2.2.2.1 ∧ Inv (vm_46 J (lsX J).1 (lsX J).2.1) (mc_longestShot S)) := by
  obtain ⟨b1, b2, b3, b4, b5, r1⟩ := longestShot_o S
  obtain ⟨N, tt, τ, hN, ht, e3, e4, e5, hL, H, -⟩ := inv_d I
  obtain ⟨x1, x2⟩ := ls_eq2 H ht hL hN e5
  obtain ⟨p0, p3, p7⟩ := v46_0 J (lsX J).1 (lsX J).2.1
  refine ⟨(inv_n0 I).2.1, inv_lg I, (inv_n0 I).2.2.1, j3_le I, x1, ?_, inv_cg I p0 p3 p7 b1 b2 b3 (by rw [r1]; exact inv_gh I _ _ _ _) b4 b5⟩
  rw [x2, e3, e4]
  have y := (gh_eq H ht hL hN 0 ht (S 1) (S 4) (S 0 3)).1
  rw [← y]
/-! idle acts -/
theorem ieK_k (m s k : Nat → Int32) : eq_n 10 (mr_ls m s) (ieK m s k) := fun i hi => by
  unfold ieK
  rw [ly_k, if_pos hi]
theorem id_eq {J : Nat → Nat → Nat → Int32} {S : Nat → Nat → Int32} (I : Inv J S) {N c : Nat} {τ : Nat → Nat} (hN : N ≤ 100) (hc : c ≤ 5000) (hL : LE (J 3) (S 3) N) (H : LV (S 3) N τ c) (h7 : J 0 0 7 = nI c) (m0 s0 k0 : Nat → Int32) (r0 a0 : Int32) : idC J (idX J) = false ∧ (idX J).2.2.1 = (lw (ieC (nI N)) (ieB (S 3) (nI N) (nI c) (ieK (S 1) (S 4) k0)) 101 (m0, s0, r0, a0, 0, 0)).2.2.2.2.1 := by
  have o := inv_ok I
  have ek : eq_n 10 (gt_paint (J 0) (J 5) 1) (ieK (S 1) (S 4) k0) := (pt_eq (inv_rm I) o (J 5) (S 4)).tr (ieK_k _ _ _)
  generalize ieK (S 1) (S 4) k0 = kp at ek
  have key : ∀ (d i : Nat), i + d = N → ∀ f : Nat, d < f → ∀ (x : (Nat → Nat → Int32) × (Nat → Nat → Int32) × Int32 × Int32) (y : i6), x.2.2.1 = y.2.2.2.2.1 → x.2.2.2 = nI i → y.2.2.2.2.2 = nI i → idC J (lw (idC J) (idB J) f x) = false ∧ (lw (idC J) (idB J) f x).2.2.1 = (lw (ieC (nI N)) (ieB (S 3) (nI N) (nI c) kp) f y).2.2.2.2.1 := by
    intro d
    induction d with
    | zero =>
      intro i hi f hf x y h1 h2 h3
      have : i = N := by omega
      subst this
      have c1 : idC J x = false := by
        unfold idC
        rw [h2, hL.1]
        exact if_pos (nI_le (Nat.le_refl _) (by omega))
      have c2 : ieC (nI i) y = false := by
        unfold ieC
        rw [h3]
        exact if_pos (nI_le (Nat.le_refl _) (by omega))
      rw [lw_f c1, lw_f c2]
      exact ⟨c1, h1⟩
    | succ d ih =>
      intro i hi f hf x y h1 h2 h3
      obtain ⟨g, rfl⟩ : ∃ g, f = g + 1 := ⟨f - 1, by omega⟩
      have c1 : idC J x = true := by
        unfold idC
        rw [h2, hL.1]
        exact if_neg (nI_ge (by omega) (by omega))
      have c2 : ieC (nI N) y = true := by
        unfold ieC
        rw [h3]
        exact if_neg (nI_ge (by omega) (by omega))
      rw [lw_t c1, lw_t c2]
      refine ih (i + 1) (by omega) g (by omega) _ _ ?_ ?_ ?_
      · show (if smF (gt_paint (idR J x) x.2.1) (gt_paint (J 0) (J 5)) = 0 then x.2.2.1 else x.2.2.1 + 1) = y.2.2.2.2.1 + nzF (ie10 (ieS (S 3) (nI N) (nI c) y) kp)
        unfold ieS ieG idR
        rw [h2, h3, h7]
        obtain ⟨z, o2, -⟩ := rpl_eq H hc hL hN (nI i) (s := c) hc x.1 y.1
        obtain ⟨e1, e2⟩ := sm_eq (pt_eq z o2 x.2.1 y.2.1) ek
        rw [← e1, nz01 e2, h1]
        rcases e2 with e | e
        · rw [e, if_pos rfl, Int32.add_zero]
        · rw [e, if_neg (by decide)]
      · show x.2.2.2 + 1 = _
        rw [h2, nI_1]
      · show y.2.2.2.2.2 + 1 = _
        rw [h3, nI_1]
  unfold idX
  exact key N 0 (by omega) 101 (by omega) _ _ rfl rfl rfl
theorem idle_o (S : Nat → Nat → Int32) : mc_idle S 0 0 = S 0 0 ∧ mc_idle S 0 1 = S 0 1 ∧ mc_idle S 0 8 = S 0 8 ∧ mc_idle S 3 = S 3 ∧ mc_idle S 6 = S 6 ∧ mc_idle S 1 = (gtX (S 3) (S 0 1) (S 0 0) (-1) (ieX (S 3) (S 0 1) (S 0 0) (S 1) (S 4) (S 5) (S 0 3) (S 0 4)).1).1 := by
  unfold mc_idle
  simp only [sF_eq, sF_ne, sR_eq, sR_ne, upd_eq, upd_ne, Nat.reduceBEq]
  exact ⟨trivial, trivial, trivial, trivial, trivial, trivial⟩
theorem id_0 (J : Nat → Nat → Nat → Int32) : vm_id J 0 = J 0 ∧ vm_id J 3 = J 3 ∧ vm_id J 7 = J 7 := by
  unfold vm_id
  simp only [gs_eq, gs_ne, Nat.reduceBEq]
  exact ⟨trivial, trivial, trivial⟩
theorem c2_idle {J : Nat → Nat → Nat → Int32} {S : Nat → Nat → Int32} (I : Inv J S) : ((S 0 1) ≤ 100) ∧ (lgv (S 3) (S 0 1)) ∧ ((S 0 0) ≤ 5000) ∧ (okm (S 1)) ∧ ((J 3 0 0 ≤ 100) ∧ (idC J (idX J) = false) ∧ (idX J).2.2.1 = (ieX (S 3) (S 0 1) (S 0 0) (S 1) (S 4) (S 5) (S 0 3) (S 0 4)).2.2.2.2.1 ∧ Inv (vm_id J) (mc_idle S)) := by
  obtain ⟨b1, b2, b3, b4, b5, r1⟩ := idle_o S
  obtain ⟨N, tt, τ, hN, ht, e3, e4, e5, hL, H, -⟩ := inv_d I
  obtain ⟨p0, p3, p7⟩ := id_0 J
  obtain ⟨x1, x2⟩ := id_eq I hN ht hL H e5 (S 1) (mr_ls (S 1) (S 4)) (S 5) (S 0 3) (S 0 4)
  refine ⟨(inv_n0 I).2.1, inv_lg I, (inv_n0 I).2.2.1, okm_m (inv_ok I), j3_le I, x1, ?_, inv_cg I p0 p3 p7 b1 b2 b3 (by rw [r1]; exact inv_go I _) b4 b5⟩
  rw [x2, e3, e4]
  rfl
