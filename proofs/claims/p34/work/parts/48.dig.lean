/-! the hash is of the log alone -/
theorem dA_cg {E F : Nat → Int32} {N : Nat} (h : ∀ i, i < 6 * N → F i = E i) (wo : Int32) (t : Nat) : ∀ (f : Nat) (m : Nat → Int32) (j : Nat), dA F N wo t f m j = dA E N wo t f m j
  | 0, _, _ => rfl
  | f + 1, m, j => by
    show (if j < N ∧ F (6 * j) = nI t then dA F N wo t f (if nI j = wo then m else mr_ds m (F (6 * j + 1)) (F (6 * j + 2)) (F (6 * j + 3)) (F (6 * j + 4)) (F (6 * j + 5))) (j + 1) else (m, j)) = (if j < N ∧ E (6 * j) = nI t then dA E N wo t f (if nI j = wo then m else mr_ds m (E (6 * j + 1)) (E (6 * j + 2)) (E (6 * j + 3)) (E (6 * j + 4)) (E (6 * j + 5))) (j + 1) else (m, j))
    by_cases hj : j < N
    · rw [h (6 * j) (by omega), h (6 * j + 1) (by omega), h (6 * j + 2) (by omega), h (6 * j + 3) (by omega), h (6 * j + 4) (by omega), h (6 * j + 5) (by omega), dA_cg h wo t f]
    · rw [if_neg (fun z => hj z.1), if_neg (fun z => hj z.1)]
theorem rp_cg {E F : Nat → Int32} {N : Nat} (h : ∀ i, i < 6 * N → F i = E i) (wo : Int32) : ∀ t : Nat, rp F N wo t = rp E N wo t
  | 0 => by
    show ((dA F N wo 0 101 (mr_bg (fun _ => 0)) 0).1, (0 : Int32), (dA F N wo 0 101 (mr_bg (fun _ => 0)) 0).2) = ((dA E N wo 0 101 (mr_bg (fun _ => 0)) 0).1, (0 : Int32), (dA E N wo 0 101 (mr_bg (fun _ => 0)) 0).2)
    rw [dA_cg h]
  | t + 1 => by
    show ((dA F N wo (t + 1) 101 (mr_fr (rp F N wo t).1) (rp F N wo t).2.2).1, mv_fn (rp F N wo t).1 (rp F N wo t).2.1, (dA F N wo (t + 1) 101 (mr_fr (rp F N wo t).1) (rp F N wo t).2.2).2) = ((dA E N wo (t + 1) 101 (mr_fr (rp E N wo t).1) (rp E N wo t).2.2).1, mv_fn (rp E N wo t).1 (rp E N wo t).2.1, (dA E N wo (t + 1) 101 (mr_fr (rp E N wo t).1) (rp E N wo t).2.2).2)
    rw [dA_cg h, rp_cg h wo t]
theorem ha_c {L : Nat → Nat → Int32} {E : Nat → Int32} {N : Nat} (hL : LE L E N) {x : Int64 × Int32} {i : Nat} (hx : x.2 = nI i) (hN : N ≤ 100) : (i < N → haC L x = true) ∧ (i = N → haC L x = false) := by
  refine ⟨fun e => ?_, fun e => ?_⟩
  · unfold haC; rw [hL.1, hx, if_neg (nI_ge e (by omega))]
  · unfold haC; rw [hL.1, hx, e, if_pos (Int32.le_refl _)]
theorem ha_b {L L' : Nat → Nat → Int32} {E F : Nat → Int32} {N : Nat} (hL : LE L E N) (hL' : LE L' F N) (hN : N ≤ 100) (h : ∀ i, i < 6 * N → F i = E i) {x : Int64 × Int32} {i : Nat} (hx : x.2 = nI i) (e : i < N) : haB L x = haB L' x := by
  have g : ∀ f, f < 4 → lgT L (nI i) (nI f) = lgT L' (nI i) (nI f) := fun f hf => by
    rw [lg_k hL hN e (f := f) (by omega) rfl, lg_k hL' hN e (f := f) (by omega) rfl, h (6 * i + f) (by omega)]
  have g0 : lgT L (nI i) 0 = lgT L' (nI i) 0 := g 0 (by omega)
  have g1 : lgT L (nI i) 1 = lgT L' (nI i) 1 := g 1 (by omega)
  have g2 : lgT L (nI i) 2 = lgT L' (nI i) 2 := g 2 (by omega)
  have g3 : lgT L (nI i) 3 = lgT L' (nI i) 3 := g 3 (by omega)
  unfold haB
  rw [hx, g0, g1, g2, g3]
theorem ha_n (L : Nat → Nat → Int32) {x : Int64 × Int32} {i : Nat} (hx : x.2 = nI i) : (haB L x).2 = nI (i + 1) := by
  unfold haB
  dsimp only
  rw [hx, nI_1]
theorem ha_cg {L L' : Nat → Nat → Int32} {E F : Nat → Int32} {N : Nat} (hL : LE L E N) (hL' : LE L' F N) (hN : N ≤ 100) (h : ∀ i, i < 6 * N → F i = E i) (n : Nat) : ∀ (x : Int64 × Int32) (i : Nat), x.2 = nI i → i ≤ N → lw (haC L) (haB L) n x = lw (haC L') (haB L') n x := by
  induction n with
  | zero => intro x i hx hi; unfold lw; rfl
  | succ n ih =>
    intro x i hx hi
    rcases Nat.lt_or_eq_of_le hi with e | e
    · rw [lw_t ((ha_c hL hx hN).1 e), lw_t ((ha_c hL' hx hN).1 e), ha_b hL hL' hN h hx e]
      exact ih _ (i + 1) (ha_n L' hx) e
    · rw [lw_f ((ha_c hL hx hN).2 e), lw_f ((ha_c hL' hx hN).2 e)]
theorem it_cg {α : Type} {f g : Nat → α → α} : ∀ n : Nat, (∀ k, k < n → ∀ x, f k x = g k x) → ∀ x, it f n x = it g n x
  | 0, _, _ => rfl
  | n + 1, h, x => by
    rw [it_s, it_s, it_cg n (fun k hk => h k (by omega)), h n (by omega)]
theorem kv_cl {J : Nat → Nat → Nat → Int32} {E : Nat → Int32} {N t : Nat} (h : KV J E N t) {k : Nat} (hk : k < 10) (P : Nat → Nat → Int32) : cellF (gt_paint (J 0) P 1) 10 (nI k) = mr_ls (rp E N (-1) t).1 (fun _ => 0) k := by
  rw [cellF_k _ hk (by decide), kv_pt h P k hk]
theorem kv_sn {J : Nat → Nat → Nat → Int32} {E : Nat → Int32} {N t : Nat} (h : KV J E N t) {k : Nat} (hk : k < 10) (P : Nat → Nat → Int32) : seenF (gt_paint (J 0) P) (nI k) (J 0 0 9) = if k = 0 then mr_ls (rp E N (-1) t).1 (fun _ => 0) 0 + sm (fun k => if bt ((rp E N (-1) t).1 19) k = 0 then 0 else mr_ls (rp E N (-1) t).1 (fun _ => 0) k) 10 else if bt ((rp E N (-1) t).1 19) k = 0 then mr_ls (rp E N (-1) t).1 (fun _ => 0) k else 0 := by
  unfold seenF
  by_cases e : k = 0
  · subst e
    have z2 : cellF (gt_paint (J 0) P 1) 10 0 = mr_ls (rp E N (-1) t).1 (fun _ => 0) 0 := kv_cl h (by omega) P
    rw [if_pos (show nI 0 = 0 from rfl), if_pos rfl, kv_fp h, z2]
  · rw [if_neg (fun y => e ((nI_z (by omega)).mp y)), if_neg e, bitF_bt, (kv_f h).2.1, kv_cl h hk]
theorem kv_hs {J X : Nat → Nat → Nat → Int32} {E F : Nat → Int32} {N t : Nat} (h : KV J E N t) (g : KV X F N t) (e : (rp F N (-1) t).1 = (rp E N (-1) t).1) {k : Nat} (hk : k < 10) (x : Int64) : hsS (J 0 0 9) (gt_paint (J 0) (J 5)) (gt_paint (gt_complete (gt_copy (J 2) (J 0))) (J 6)) k x = hsS (X 0 0 9) (gt_paint (X 0) (X 5)) (gt_paint (gt_complete (gt_copy (X 2) (X 0))) (X 6)) k x := by
  have b1 : cellF (gt_paint (gt_complete (gt_copy (J 2) (J 0))) (J 6) 1) 10 (nI k) = mr_ls (mr_cp (rp E N (-1) t).1) (fun _ => 0) k := by rw [cellF_k _ hk (by decide)]; exact kv_bh h (J 6) k hk
  have b2 : cellF (gt_paint (gt_complete (gt_copy (X 2) (X 0))) (X 6) 1) 10 (nI k) = mr_ls (mr_cp (rp E N (-1) t).1) (fun _ => 0) k := by rw [cellF_k _ hk (by decide), ← e]; exact kv_bh g (X 6) k hk
  unfold hsS
  rw [kv_cl h hk, kv_cl g hk, kv_sn h hk, kv_sn g hk, e, b1, b2]
theorem kv_hk {J X : Nat → Nat → Nat → Int32} {E F : Nat → Int32} {N t : Nat} (h : KV J E N t) (g : KV X F N t) (e : (rp F N (-1) t).1 = (rp E N (-1) t).1) {k : Nat} (hk : k < 3) (x : Int64) : hkS (J 0) k x = hkS (X 0) k x := by
  obtain ⟨a1, a2, a3, a4⟩ := (kv_d h).2.2.1.2.2.1 k hk
  obtain ⟨c1, c2, c3, c4⟩ := (kv_d g).2.2.1.2.2.1 k hk
  have t0 : tellK (J 0) (nI k) 0 = tellK (X 0) (nI k) 0 := by unfold tellK; rw [if_pos rfl, if_pos rfl, cellF_k _ hk (by decide), cellF_k _ hk (by decide), a1, c1, e]
  have t1 : tellK (J 0) (nI k) 1 = tellK (X 0) (nI k) 1 := by unfold tellK; rw [if_neg (show ¬ (1 : Int32) = 0 by decide), if_neg (show ¬ (1 : Int32) = 0 by decide), if_pos rfl, if_pos rfl, cellF_k _ hk (by decide), cellF_k _ hk (by decide), a2, c2, e]
  have t2 : tellK (J 0) (nI k) 2 = tellK (X 0) (nI k) 2 := by unfold tellK; rw [if_neg (show ¬ (2 : Int32) = 0 by decide), if_neg (show ¬ (2 : Int32) = 0 by decide), if_neg (show ¬ (2 : Int32) = 1 by decide), if_neg (show ¬ (2 : Int32) = 1 by decide), if_pos rfl, if_pos rfl, cellF_k _ hk (by decide), cellF_k _ hk (by decide), a3, c3, e]
  have t3 : tellK (J 0) (nI k) 3 = tellK (X 0) (nI k) 3 := by unfold tellK; rw [if_neg (show ¬ (3 : Int32) = 0 by decide), if_neg (show ¬ (3 : Int32) = 0 by decide), if_neg (show ¬ (3 : Int32) = 1 by decide), if_neg (show ¬ (3 : Int32) = 1 by decide), if_neg (show ¬ (3 : Int32) = 2 by decide), if_neg (show ¬ (3 : Int32) = 2 by decide), onF_bt, onF_bt, a4, c4, e]
  unfold hkS
  rw [t0, t1, t2, t3]
theorem kv_st {J X : Nat → Nat → Nat → Int32} {E F : Nat → Int32} {N t : Nat} (h : KV J E N t) (g : KV X F N t) (e : (rp F N (-1) t).1 = (rp E N (-1) t).1) (w : Int32) : psF J w = psF X w := by
  have f := fun k hk => ((kv_f h).1 k hk).trans ((congrFun e k).symm.trans ((kv_f g).1 k hk).symm)
  unfold psF tellF
  rw [(kv_d h).2.2.2.2.1.1, (kv_d g).2.2.2.2.1.1, (kv_d h).2.2.2.1, (kv_d g).2.2.2.1, f 0 (by omega), f 1 (by omega), f 2 (by omega), f 3 (by omega), f 4 (by omega), f 5 (by omega), f 6 (by omega)]
theorem kv_dg {J X : Nat → Nat → Nat → Int32} {E F : Nat → Int32} {N t : Nat} (h : KV J E N t) (g : KV X F N t) (hE : ∀ i, i < 6 * N → F i = E i) : (haX (J 3) (dgH J)).1 = (haX (X 3) (dgH X)).1 := by
  have e : (rp F N (-1) t).1 = (rp E N (-1) t).1 := by rw [rp_cg hE]
  have d : dgH J = dgH X := by
    unfold dgH
    rw [it_cg 10 (fun k hk x => kv_hs h g e hk x), it_cg 3 (fun k hk x => kv_hk h g e hk x), kv_st h g e 0, kv_st h g e 1, kv_st h g e 2, kv_st h g e 3, kv_st h g e 4, kv_st h g e 5, kv_st h g e 6, kv_st h g e 7, kv_st h g e 8, (kv_d h).2.2.2.2.2.2, (kv_d g).2.2.2.2.2.2]
  rw [d]
  unfold haX
  rw [ha_cg (kv_d h).2.2.2.2.1 (kv_d g).2.2.2.2.1 h.1 hE 101 (dgH X, 0) 0 rfl (by omega)]
/-- the latest act taken out -/
theorem kv_tk {J : Nat → Nat → Nat → Int32} {E : Nat → Int32} {N t : Nat} (h : KV J E (N + 1) t) : okA J (nI N) ∧ gt_lrem (J 3) (nI N) 0 0 ≤ 100 ∧ rmStop (J 3) (nI N) ∧ vm_tk J (nI N) 3 0 0 = nI N ∧ ∃ F : Nat → Int32, (∀ i, i < 6 * N → F i = E i) ∧ KV (vm_tk J (nI N)) F N t := by
  have hN := h.1
  have hL := (kv_d h).2.2.2.2.1
  have ok : okA J (nI N) := by
    unfold okA
    rw [hL.1]
    exact ⟨nI_pos (by omega), (nI_ltI (by omega) (by omega)).mpr (by omega)⟩
  have hg : ¬ mv_go (mv_ia (nI N) (sS E (N + 1) t 0 1)) 1 1 = 0 := by
    have e1 := ia_1 hN (a := nI N) ok.1 (by have := ok.2; rw [hL.1] at this; exact this)
    rw [show sS E (N + 1) t 0 1 = nI (N + 1) from rfl, e1]; decide
  obtain ⟨m1, m2, m3, m4, m5, m6⟩ := takeOut_o (sS E (N + 1) t) (nI N) hg
  have e2 : sS E (N + 1) t 0 1 - 1 = nI N := by
    show nI (N + 1) - nI 1 = nI N
    rw [nI_sub (by omega) (by omega)]; rfl
  obtain ⟨x1, x2, x3⟩ := rx_eq hL hN (i := N) (by omega)
  rcases (c2_takeOut h.2.2 (nI N)).2.2.2.2 with ⟨-, q1, q2, -, q4, q5⟩ | ⟨q, -⟩
  · rw [if_neg hg, e2] at q4
    refine ⟨ok, q1, q2, q4, _, ?_, kv_of q5 (by omega) h.2.1 m1 (m2.trans e2) m3 (m5.trans (by rw [e2]))⟩
    intro i hi
    have x4 : (rxX E (nI N) (nI N)).1 = xE E N (6 * N) := x1
    show (rxX E (nI N) (nI N)).1 i = E i
    rw [x4]
    unfold xE
    rw [if_neg (by omega)]
  · exact absurd ok q
