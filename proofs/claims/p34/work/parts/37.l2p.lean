/-! level 2: the picture -/
theorem it_r {α β : Type} {R : Nat → α → β → Prop} {f : Nat → α → α} {g : Nat → β → β} {n : Nat} (hs : ∀ k, k < n → ∀ x y, R k x y → R (k + 1) (f k x) (g k y)) {x : α} {y : β} (h : R 0 x y) : ∀ j, j ≤ n → R j (it f j x) (it g j y)
  | 0, _ => by rw [it_0, it_0]; exact h
  | j + 1, hj => by rw [it_s, it_s]; exact hs j (by omega) _ _ (it_r hs h j (by omega))
theorem ad_k {P : Nat → Nat → Int32} {s : Nat → Int32} (h : eq_n 10 (P 1) s) {k : Nat} (hk : k < 10) {q v w : Int32} (hq : q = nI k) (hv : v = w) : eq_n 10 (gt_add P q v 1) (mr_ad s k w) := by
  subst hq; subst hv
  have e : gt_add P (nI k) v 1 = upd (P 1) k (P 1 k + v) := by
    show putF (P 1) 10 (nI k) (cellF (P 1) 10 (nI k) + v) = _
    rw [cellF_k _ hk (by decide), putF_k _ _ hk (by decide)]
  rw [e]
  exact h.up rfl (by rw [h k hk])
theorem zr_eq (P : Nat → Nat → Int32) (s : Nat → Int32) : eq_n 10 (it gt_zero 10 P 1) (it mr_z 10 s) := by
  refine it_r (R := fun n (X : Nat → Nat → Int32) (y : Nat → Int32) => eq_n n (X 1) y) (n := 10) (fun k hk X y h => ?_) (fun k hk => absurd hk (by omega)) 10 (by omega)
  have e : gt_zero k X 1 = upd (X 1) k 0 := by
    show putF (X 1) 10 (nI k) 0 = _
    rw [putF_k _ _ hk (by decide)]
  show eq_n (k + 1) (gt_zero k X 1) (mr_z k y)
  rw [e]
  unfold mr_z
  intro j hj
  rw [upd_at, upd_at]
  split
  · rfl
  · exact h j (by omega)
theorem bg_a : ∀ p, p < 1001 → 1000000 - nI p * 1000 = (1000 - nI p) * 1000 ∧ 2000000 - 2 * (nI p * 1000) = (2000 - 2 * nI p) * 1000 ∧ 2 * (nI p * 1000) - 1000000 = (2 * nI p - 1000) * 1000 ∧ 1000000 - 2 * (nI p * 1000) = (1000 - 2 * nI p) * 1000 ∧ 2 * (nI p * 1000) = 2 * nI p * 1000 := by decide +kernel
theorem bg_k : ∀ j, j < 3 → (nI j = 2 ↔ (2 : Int32) ≤ nI j) := by decide +kernel
theorem cl_k {k : Nat} (h : k < 2 ^ 31) : cl (nI k) = k := nI_clamp h
theorem bg_eq {M : Nat → Nat → Int32} {m : Nat → Int32} (h : RM M m) (o : mOk m) {P : Nat → Nat → Int32} {s : Nat → Int32} (e : eq_n 10 (P 1) s) : eq_n 10 (gt_bg M P 1) (mr_sb m s) := by
  obtain ⟨a, -, ha, e0⟩ := o.1
  obtain ⟨b, -, hb, e1⟩ := o.2.1
  obtain ⟨j, -, hj, e2⟩ := o.2.2.1
  obtain ⟨p, -, hp, e5⟩ := o.2.2.2.2.2.1
  obtain ⟨i1, i2, i3, i4, i5⟩ := bg_a p (by omega)
  unfold gt_bg mr_sb
  rw [mbF_0, mv_el_0, h.1 4 (by omega), h.1 0 (by omega), h.1 1 (by omega), h.1 2 (by omega), h.1 5 (by omega), e0, e1, e2, e5, cl_k (by omega), cl_k (by omega)]
  split
  · exact ad_k e (by omega) rfl rfl
  · by_cases c : nI j = 2
    · rw [if_pos c, if_pos ((bg_k j (by omega)).mp c)]
      split
      · exact ad_k (ad_k (k := 0) e (by omega) rfl i2) (by omega) rfl i3
      · exact ad_k (k := 0) (ad_k e (by omega) rfl i4) (by omega) rfl i5
    · rw [if_neg c, if_neg (fun z => c ((bg_k j (by omega)).mpr z))]
      exact ad_k (ad_k e (by omega) rfl i1) (by omega) rfl rfl
theorem kx0 {k : Nat} (hk : k < 3) : kx (nI k) 0 = 7 + 4 * k := kx_k hk 0 (by omega)
theorem kx1 {k : Nat} (hk : k < 3) : kx (nI k) 1 = 7 + 4 * k + 1 := kx_k hk 1 (by omega)
theorem kx2 {k : Nat} (hk : k < 3) : kx (nI k) 2 = 7 + 4 * k + 2 := kx_k hk 2 (by omega)
theorem kx3 {k : Nat} (hk : k < 3) : kx (nI k) 3 = 7 + 4 * k + 3 := kx_k hk 3 (by omega)
theorem co_eq {M : Nat → Nat → Int32} {m : Nat → Int32} (h : RM M m) {k : Nat} (hk : k < 3) : coverF M (nI k) = mv_co m (nI k) (m 5) := by
  obtain ⟨c1, c2, c3, c4⟩ := h.2.2.1 k hk
  unfold coverF mv_co fullF
  rw [mvF_el, mv_el_el, onF_bt, kx1 hk, kx2 hk, kx3 hk, cellF_k _ hk (by decide), cellF_k _ hk (by decide), c2, c3, c4, h.1 4 (by omega), h.1 5 (by omega)]
  have q := bt01 (M 0 10) k
  rw [c4] at q
  split
  · rcases q with q | q
    · rw [q, if_pos rfl, Int32.mul_zero]
    · rw [q, if_neg (by decide), Int32.mul_one]
  · rcases q with q | q
    · rw [q, if_pos rfl, if_neg (by decide)]
    · rw [q, if_neg (by decide), if_pos rfl]
theorem tk_eq {P : Nat → Nat → Int32} {s : Nat → Int32} (c : Int32) (e : eq_n 10 (P 1) s) : eq_n 10 ((gt_tak c 10 P).1 1) (mr_ta c 10 s).1 ∧ (gt_tak c 10 P).2 = (mr_ta c 10 s).2 := by
  refine it_r (R := fun n (X : (Nat → Nat → Int32) × Int32) (y : (Nat → Int32) × Int32) => eq_n 10 (X.1 1) y.1 ∧ X.2 = y.2) (n := 10) (fun k hk X y h => ?_) ⟨e, rfl⟩ 10 (by omega)
  have et : tkF c k X.1 = mv_tk c k y.1 := by
    unfold tkF mv_tk
    rw [cellF_k _ hk (by decide), h.1 k hk]
  refine ⟨?_, ?_⟩
  · have q := ad_k h.1 hk (q := nI k) rfl (v := -(tkF c k X.1)) (w := -(mv_tk c k y.1)) (by rw [et])
    show eq_n 10 (gt_add X.1 (nI k) (-(tkF c k X.1)) 1) (upd y.1 k (y.1 k - mv_tk c k y.1))
    rw [Int32.sub_eq_add_neg]
    exact q
  · show X.2 + tkF c k X.1 = y.2 + mv_tk c k y.1
    rw [et, h.2]
theorem ls_eq {M : Nat → Nat → Int32} {m : Nat → Int32} (h : RM M m) (o : mOk m) {P : Nat → Nat → Int32} {s : Nat → Int32} (e : eq_n 10 (P 1) s) {k : Nat} (hk : k < 3) : eq_n 10 (gt_layS M k P 1) (mr_cvs m k s) := by
  obtain ⟨f, -, hf, ef⟩ := (o.2.2.2.2.2.2.2.1 k hk).1
  obtain ⟨c1, -⟩ := h.2.2.1 k hk
  obtain ⟨t1, t2⟩ := tk_eq (mv_co m (nI k) (m 5)) e
  unfold gt_layS mr_cvs gt_lay mr_cv
  rw [co_eq h hk, kx0 hk, cellF_k _ hk (by decide), c1, ef, cl_k (by omega)]
  exact ad_k t1 (by omega) rfl t2
/-- the picture -/
theorem pt_eq {M : Nat → Nat → Int32} {m : Nat → Int32} (h : RM M m) (o : mOk m) (P : Nat → Nat → Int32) (s : Nat → Int32) : eq_n 10 (gt_paint M P 1) (mr_ls m s) := by
  have b := bg_eq h o (zr_eq P s)
  unfold gt_paint mr_ls gt_pb
  generalize gt_bg M (it gt_zero 10 P) = X at *
  generalize mr_sb m (it mr_z 10 s) = y at *
  have q := it_r (R := fun _ (X : Nat → Nat → Int32) (y : Nat → Int32) => eq_n 10 (X 1) y) (f := gt_layS M) (g := mr_cvs m) (n := 3) (fun k hk _ _ e => ls_eq h o e hk) (x := X) (y := y) b 3 (by omega)
  exact q
theorem rd_eq {P : Nat → Nat → Int32} {s : Nat → Int32} (e : eq_n 10 (P 1) s) : rdF P = mv_rd s := by
  refine it_r (R := fun _ (x y : Int32) => x = y) (n := 10) (fun k hk x y h => ?_) rfl 10 (by omega)
  unfold rdS mv_rs
  rw [cellF_k _ hk (by decide), e k hk, h]
  split
  · exact (Int32.or_zero).symm
  · rfl
theorem okm_m {m : Nat → Int32} (o : mOk m) : okm m := by
  obtain ⟨o0, o1, -, o3, -, -, -, ok, -⟩ := o
  obtain ⟨k0, -⟩ := ok 0 (by omega)
  obtain ⟨k1, -⟩ := ok 1 (by omega)
  obtain ⟨k2, -⟩ := ok 2 (by omega)
  have f : ∀ x : Int32, rg x 0 9 → vp_in x 10 := fun x ⟨k, _, hk, ex⟩ => by rw [ex]; exact vp_in_nI (by omega) (by decide)
  obtain ⟨R, hR, hR2, e⟩ := o3
  refine ⟨f _ o0, f _ o1, f _ k0, f _ k1, f _ k2, fun z => ?_⟩
  rw [e] at z
  have := (nI_z (by omega)).mp z
  omega
/-! faults seen -/
theorem ft0 {m : Nat → Int32} (o : mOk m) : bt (m 19) 0 = 0 := by
  obtain ⟨f, hf, e⟩ := o.2.2.2.2.2.2.2.2
  rw [e]
  exact (show ∀ f, f < 512 → bt (nI (2 * f)) 0 = 0 from by decide +kernel) f hf
theorem ie_it (s k : Nat → Int32) : it (mv_ss s k) 10 1 = ie10 s k := by
  unfold ie10
  rw [it_s, it_s, it_s, it_s, it_s, it_s, it_s, it_s, it_s, it_s, it_0]
theorem sm_eq {P Q : Nat → Nat → Int32} {s k : Nat → Int32} (e : eq_n 10 (P 1) s) (e2 : eq_n 10 (Q 1) k) : smF P Q = ie10 s k ∧ (smF P Q = 0 ∨ smF P Q = 1) := by
  have q := it_r (R := fun _ (x y : Int32) => x = y ∧ (x = 0 ∨ x = 1)) (f := smS P Q) (g := mv_ss s k) (n := 10) (x := 1) (y := 1) (fun i hi x y h => by
    obtain ⟨rfl, h⟩ := h
    unfold smS mv_ss
    rw [cellF_k _ hi (by decide), cellF_k _ hi (by decide), e i hi, e2 i hi]
    rcases h with rfl | rfl
    · rw [if_pos rfl]
      split
      · exact ⟨rfl, Or.inl rfl⟩
      · exact ⟨rfl, Or.inl rfl⟩
    · rw [if_neg (show ¬ (1 : Int32) = 0 by decide)]
      split
      · exact ⟨rfl, Or.inr rfl⟩
      · exact ⟨rfl, Or.inl rfl⟩) ⟨rfl, Or.inr rfl⟩ 10 (by omega)
  rw [ie_it] at q
  unfold smF
  exact q
/-- the sum over the faulty sources -/
def sum9 (m s : Nat → Int32) : Nat → Int32
  | 0 => 0
  | n + 1 => sum9 m s n + (if bt (m 19) (n + 1) = 0 then 0 else s (n + 1))
theorem sum9_s (m s : Nat → Int32) (n : Nat) : sum9 m s (n + 1) = sum9 m s n + (if bt (m 19) (n + 1) = 0 then 0 else s (n + 1)) := rfl
theorem fp_sum {M P : Nat → Nat → Int32} {m s : Nat → Int32} (o : mOk m) (e : eq_n 10 (P 1) s) : ∀ n : Nat, n < 10 → it (fpS P (m 19)) (n + 1) 0 = sum9 m s n
  | 0, _ => by
    rw [it_s, it_0]
    unfold fpS
    rw [bitF_bt, ft0 o, if_pos rfl]; rfl
  | n + 1, hn => by
    rw [it_s, fp_sum (M := M) o e n (by omega)]
    rw [sum9_s]
    unfold fpS
    rw [bitF_bt, cellF_k _ hn (by decide), e _ hn]
    split
    · rw [Int32.add_zero]
    · rfl
theorem fy_sum (m s : Nat → Int32) : ∀ n : Nat, it (mv_fb m s) n 0 = sum9 m s n
  | 0 => by rw [it_0]; rfl
  | n + 1 => by
    rw [it_s, fy_sum m s n]
    rw [sum9_s]
    unfold mv_fb
    show (if bt (m 19) (n + 1) = 1 then _ else _) = _
    rcases bt01 (m 19) (n + 1) with q | q
    · rw [q, if_pos rfl, if_neg (by decide)]
    · rw [q, if_pos rfl, if_neg (by decide)]
theorem fy_eq {M P : Nat → Nat → Int32} {m s : Nat → Int32} (h : RM M m) (o : mOk m) (e : eq_n 10 (P 1) s) : fpF P (M 0 9) = mv_fy m s := by
  rw [h.2.1]
  exact (fp_sum (M := M) o e 9 (by omega)).trans (fy_sum m s 9).symm
theorem sh_lw {m s : Nat → Int32} {q : Int32} (hq : q = 0) : ∀ n : Nat, n ≤ 9 → lw (mv_sc m s q) (mv_sn m s) (10 - n) (s 0 + sum9 m s n, nI (n + 1)) = (s 0 + sum9 m s 9, 10) := by
  intro n hn
  induction h9 : 9 - n generalizing n with
  | zero =>
    have : n = 9 := by omega
    subst this
    exact lw_f (by unfold mv_sc; exact if_pos (show (10 : Int32) ≤ nI (9 + 1) by decide))
  | succ d ih =>
    have e1 : 10 - n = (10 - (n + 1)) + 1 := by omega
    have hc : mv_sc m s q (s 0 + sum9 m s n, nI (n + 1)) = true := by
      unfold mv_sc
      show (if (10 : Int32) ≤ nI (n + 1) then false else if q = 0 then true else false) = true
      rw [if_neg (show ¬ (10 : Int32) ≤ nI (n + 1) from nI_ge (a := n + 1) (b := 10) (by omega) (by decide)), if_pos hq]
    rw [e1, lw_t hc, ← ih (n + 1) (by omega) (by omega)]
    congr 1
    unfold mv_sn
    show (if bt (m 19) (n + 1) = 1 then s 0 + sum9 m s n + s (cl (nI (n + 1))) else s 0 + sum9 m s n + 0, nI (n + 1) + 1) = (s 0 + (sum9 m s n + (if bt (m 19) (n + 1) = 0 then 0 else s (n + 1))), nI (n + 1 + 1))
    rw [cl_k (by omega), nI_1]
    rcases bt01 (m 19) (n + 1) with z | z
    · rw [z, if_pos rfl, if_neg (by decide), Int32.add_assoc]
    · rw [z, if_pos rfl, if_neg (by decide), Int32.add_assoc]
theorem seen_eq {M P : Nat → Nat → Int32} {m s : Nat → Int32} (h : RM M m) (o : mOk m) (e : eq_n 10 (P 1) s) {k : Nat} (hk : k < 10) {sn : Int32} (hs : ¬ sn = 0) : seenF P (nI k) (M 0 9) = mv_sh m s (nI k) sn := by
  unfold seenF mv_sh
  rw [if_neg hs]
  show _ = if bt (m 19) k = 1 then _ else _
  by_cases c : k = 0
  · subst c
    rw [if_pos (show nI 0 = 0 from rfl), ft0 o, if_neg (by decide), show (0 : Int32) = nI 0 from rfl, cellF_k _ (show 0 < 10 by omega) (by decide), e 0 (by omega), cl_k (by omega), fy_eq h o e]
    have q := sh_lw (m := m) (s := s) (q := nI 0) rfl 0 (by omega)
    rw [show (10 - 0) = 10 from rfl, show sum9 m s 0 = 0 from rfl, Int32.add_zero] at q
    rw [show ((1 : Int32)) = nI (0 + 1) from rfl, q]
    show s 0 + it (mv_fb m s) 9 0 = s 0 + sum9 m s 9
    rw [fy_sum]
  · rw [if_neg (fun z => c ((nI_z (by omega)).mp z)), bitF_bt, h.2.1, cellF_k _ hk (by decide), e k hk, cl_k (by omega)]
    rcases bt01 (m 19) k with z | z
    · rw [z, if_pos rfl, if_neg (by decide)]
      have hc : mv_sc m s (nI k) (s k, 1) = false := by
        unfold mv_sc
        rw [if_neg (show ¬ (10 : Int32) ≤ 1 by decide), if_neg (fun z => c ((nI_z (by omega)).mp z))]
      rw [lw_f hc]
    · rw [z, if_neg (by decide), if_pos rfl]
theorem share_eq {M P : Nat → Nat → Int32} {m s : Nat → Int32} (h : RM M m) (o : mOk m) (e : eq_n 10 (P 1) s) {k : Nat} (hk : k < 10) (sn : Int32) : (if sn = 0 then cellF (P 1) 10 (nI k) else seenF P (nI k) (M 0 9)) = mv_sh m s (nI k) sn := by
  by_cases c : sn = 0
  · rw [if_pos c, cellF_k _ hk (by decide), e k hk]
    unfold mv_sh
    rw [if_pos c, cl_k (by omega)]
  · rw [if_neg c]
    exact seen_eq h o e hk c
/-! the tally -/
theorem bt_d0 : ∀ b, b < 1024 → bt (nI b) 0 = nI (b / 2 ^ 0 % 2) := by decide +kernel
theorem bt_d1 : ∀ b, b < 1024 → bt (nI b) 1 = nI (b / 2 ^ 1 % 2) := by decide +kernel
theorem bt_d2 : ∀ b, b < 1024 → bt (nI b) 2 = nI (b / 2 ^ 2 % 2) := by decide +kernel
theorem bt_d3 : ∀ b, b < 1024 → bt (nI b) 3 = nI (b / 2 ^ 3 % 2) := by decide +kernel
theorem bt_d4 : ∀ b, b < 1024 → bt (nI b) 4 = nI (b / 2 ^ 4 % 2) := by decide +kernel
theorem bt_d5 : ∀ b, b < 1024 → bt (nI b) 5 = nI (b / 2 ^ 5 % 2) := by decide +kernel
theorem bt_d6 : ∀ b, b < 1024 → bt (nI b) 6 = nI (b / 2 ^ 6 % 2) := by decide +kernel
theorem bt_d7 : ∀ b, b < 1024 → bt (nI b) 7 = nI (b / 2 ^ 7 % 2) := by decide +kernel
theorem bt_d8 : ∀ b, b < 1024 → bt (nI b) 8 = nI (b / 2 ^ 8 % 2) := by decide +kernel
theorem bt_d9 : ∀ b, b < 1024 → bt (nI b) 9 = nI (b / 2 ^ 9 % 2) := by decide +kernel
theorem bt_d {j : Nat} (hj : j < 10) {b : Nat} (hb : b < 1024) : bt (nI b) j = nI (b / 2 ^ j % 2) := by
  rcases (show j = 0 ∨ j = 1 ∨ j = 2 ∨ j = 3 ∨ j = 4 ∨ j = 5 ∨ j = 6 ∨ j = 7 ∨ j = 8 ∨ j = 9 by omega) with rfl | rfl | rfl | rfl | rfl | rfl | rfl | rfl | rfl | rfl
  · exact bt_d0 b hb
  · exact bt_d1 b hb
  · exact bt_d2 b hb
  · exact bt_d3 b hb
  · exact bt_d4 b hb
  · exact bt_d5 b hb
  · exact bt_d6 b hb
  · exact bt_d7 b hb
  · exact bt_d8 b hb
  · exact bt_d9 b hb
theorem or_d : ∀ n, n < 10 → ∀ b, b < 2 ^ n → nI b ||| (1 <<< (nI n &&& 31)) = nI (b + 2 ^ n) := by decide +kernel
theorem rd_n (s : Nat → Int32) : ∀ n : Nat, n ≤ 10 → ∃ b : Nat, b < 2 ^ n ∧ it (mv_rs s) n 0 = nI b ∧ ∀ j, j < n → b / 2 ^ j % 2 = (if s j ≤ 0 then 0 else 1)
  | 0, _ => ⟨0, by omega, it_0 _ _, fun j hj => absurd hj (by omega)⟩
  | n + 1, hn => by
    obtain ⟨b, hb, e, h⟩ := rd_n s n (by omega)
    rw [it_s, e]
    unfold mv_rs
    have h2 : 2 ^ (n + 1) = 2 * 2 ^ n := by rw [Nat.pow_succ]; omega
    by_cases c : s n ≤ 0
    · rw [if_pos c]
      refine ⟨b, by omega, Int32.or_zero, fun j hj => ?_⟩
      by_cases q : j = n
      · subst q; rw [if_pos c, Nat.div_eq_of_lt hb]
      · exact h j (by omega)
    · rw [if_neg c]
      refine ⟨b + 2 ^ n, by omega, or_d n (by omega) b hb, fun j hj => ?_⟩
      by_cases q : j = n
      · subst q
        rw [if_neg c, Nat.add_div_right _ (Nat.pow_pos (by omega)), Nat.div_eq_of_lt hb]
      · have e3 : 2 ^ n = 2 ^ j * (2 * 2 ^ (n - j - 1)) := by
          rw [show 2 * 2 ^ (n - j - 1) = 2 ^ (n - j - 1 + 1) by rw [Nat.pow_succ]; omega, ← Nat.pow_add]
          congr 1; omega
        rw [e3, Nat.add_mul_div_left _ _ (Nat.pow_pos (by omega)), Nat.add_mul_mod_self_left]
        exact h j (by omega)
theorem rd_bt (s : Nat → Int32) {k : Nat} (hk : k < 10) : bt (mv_rd s) k = if s k ≤ 0 then 0 else 1 := by
  obtain ⟨b, hb, e, h⟩ := rd_n s 10 (by omega)
  unfold mv_rd
  rw [e, bt_d hk (by omega), h k hk]
  split <;> rfl
/-- the tally of two painted pictures -/
theorem ty_eq {P Q : Nat → Nat → Int32} {m s a b : Nat → Int32} (e1 : eq_n 10 (P 1) a) (e2 : eq_n 10 (Q 1) b) (h1 : eq_n 10 a (mr_ls m s)) (h2 : eq_n 10 b (mr_ls (mr_cp m) (mr_ls m s))) {k : Nat} (hk : k < 10) : (if cellF (P 1) 10 (nI k) ≤ 0 then (if cellF (Q 1) 10 (nI k) ≤ 0 then (0 : Int32) else 1) else 2) = mv_ty m s (nI k) := by
  unfold mv_ty mv_rb
  show _ = if bt (mv_rd (mr_ls m s)) k = 1 then 2 else bt (mv_rd (mr_ls (mr_cp m) (mr_ls m s))) k
  rw [cellF_k _ hk (by decide), cellF_k _ hk (by decide), e1 k hk, e2 k hk, h1 k hk, h2 k hk, rd_bt _ hk, rd_bt _ hk]
  by_cases c : mr_ls m s k ≤ 0
  · rw [if_pos c, if_pos c, if_neg (show ¬ (0 : Int32) = 1 by decide)]
  · rw [if_neg c, if_neg c, if_pos rfl]
