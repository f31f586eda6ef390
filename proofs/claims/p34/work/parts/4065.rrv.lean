/-! two mixers whose logs differ in the sources' numbers answer alike -/
theorem rr_D {J N : Nat → Nat → Nat → Int32} {n τ : Nat} (hR : RR J N n τ) : ∃ (E F : Nat → Int32) (a t : Nat), KV J E a t ∧ KV N F a t ∧ a ≤ n ∧ t ≤ τ ∧ (∀ u : Nat, MS (rp E a (-1) u).1 (rp F a (-1) u).1 ∧ mOk (rp E a (-1) u).1) ∧ (rp F a (-1) t).2 = (rp E a (-1) t).2 := by
  obtain ⟨E, F, a, t, h1, h2, S, A, h5, han, htτ⟩ := hR
  obtain ⟨hN, ht, hM, h7, hL, ⟨τ1, H⟩, hK⟩ := kv_d h1
  obtain ⟨-, -, -, -, -, ⟨τ2, H'⟩, -⟩ := kv_d h2
  have D := rp_e H H' hN h5 S A
  exact ⟨E, F, a, t, h1, h2, han, htτ, fun u => ⟨(D u).1, (D u).2.2.1⟩, (D t).2.1⟩
theorem psF_5 (J : Nat → Nat → Nat → Int32) : psF J 5 = J 0 0 5 := by unfold psF tellF; rw [if_neg (show ¬ (5 : Int32) = 8 by decide), if_neg (show ¬ (5 : Int32) = 0 by decide), if_neg (show ¬ (5 : Int32) = 1 by decide), if_neg (show ¬ (5 : Int32) = 2 by decide), if_neg (show ¬ (5 : Int32) = 3 by decide), if_neg (show ¬ (5 : Int32) = 4 by decide), if_pos (show (5 : Int32) = 5 from rfl)]
theorem psF_6 (J : Nat → Nat → Nat → Int32) : psF J 6 = J 0 0 6 := by unfold psF tellF; rw [if_neg (show ¬ (6 : Int32) = 8 by decide), if_neg (show ¬ (6 : Int32) = 0 by decide), if_neg (show ¬ (6 : Int32) = 1 by decide), if_neg (show ¬ (6 : Int32) = 2 by decide), if_neg (show ¬ (6 : Int32) = 3 by decide), if_neg (show ¬ (6 : Int32) = 4 by decide), if_neg (show ¬ (6 : Int32) = 5 by decide), if_pos (show (6 : Int32) = 6 from rfl)]
theorem psF_7 (J : Nat → Nat → Nat → Int32) : psF J 7 = J 0 0 7 := by unfold psF tellF; rw [if_neg (show ¬ (7 : Int32) = 8 by decide), if_neg (show ¬ (7 : Int32) = 0 by decide), if_neg (show ¬ (7 : Int32) = 1 by decide), if_neg (show ¬ (7 : Int32) = 2 by decide), if_neg (show ¬ (7 : Int32) = 3 by decide), if_neg (show ¬ (7 : Int32) = 4 by decide), if_neg (show ¬ (7 : Int32) = 5 by decide), if_neg (show ¬ (7 : Int32) = 6 by decide), if_pos (show (7 : Int32) = 7 from rfl)]
theorem psF_8 (J : Nat → Nat → Nat → Int32) : psF J 8 = J 3 0 0 := by unfold psF; rw [if_pos (show (8 : Int32) = 8 from rfl)]
/-- the fields of a mixer with its log -/
theorem kv_f {J : Nat → Nat → Nat → Int32} {E : Nat → Int32} {N t : Nat} (h : KV J E N t) : (∀ k, k < 7 → J 0 0 k = (rp E N (-1) t).1 k) ∧ J 0 0 9 = (rp E N (-1) t).1 19 ∧ ∀ k, k < 3 → J 0 1 k = (rp E N (-1) t).1 (7 + 4 * k) := by
  obtain ⟨hN, ht, hM, h7, hL, ⟨τ, H⟩, hK⟩ := kv_d h
  exact ⟨hM.1, hM.2.1, fun k hk => (hM.2.2.1 k hk).1⟩
theorem rr_set {J N : Nat → Nat → Nat → Int32} {n τ : Nat} (hR : RR J N n τ) (w : Int32) (hw : w = 5 ∨ w = 6 ∨ w = 8) : psF J w = psF N w := by
  obtain ⟨E, F, a, t, h1, h2, -, -, D, -⟩ := rr_D hR
  obtain ⟨f1, -⟩ := kv_f h1
  obtain ⟨g1, -⟩ := kv_f h2
  rcases hw with rfl | rfl | rfl
  · rw [psF_5, psF_5, f1 5 (by omega), g1 5 (by omega)]; exact ((D t).1.2.2.1 5 (by omega) (by omega)).symm
  · rw [psF_6, psF_6, f1 6 (by omega), g1 6 (by omega)]; exact ((D t).1.2.2.1 6 (by omega) (by omega)).symm
  · rw [psF_8, psF_8, (kv_d h1).2.2.2.2.1.1, (kv_d h2).2.2.2.2.1.1]
/-- what is painted -/
theorem kv_pt {J : Nat → Nat → Nat → Int32} {E : Nat → Int32} {N t : Nat} (h : KV J E N t) (P : Nat → Nat → Int32) : eq_n 10 (gt_paint (J 0) P 1) (mr_ls (rp E N (-1) t).1 (fun _ => 0)) := pt_eq (kv_d h).2.2.1 (kv_ok h) P _
theorem kv_fp {J : Nat → Nat → Nat → Int32} {E : Nat → Int32} {N t : Nat} (h : KV J E N t) (P : Nat → Nat → Int32) : fpF (gt_paint (J 0) P) (J 0 0 9) = sm (fun k => if bt ((rp E N (-1) t).1 19) k = 0 then 0 else mr_ls (rp E N (-1) t).1 (fun _ => 0) k) 10 := by
  rw [fy_eq (kv_d h).2.2.1 (kv_ok h) (kv_pt h P)]
  show it (mv_fb _ _) 9 0 = _
  rw [fy_sum]
  have z := ft0 (kv_ok h)
  show _ = 0 + (if bt ((rp E N (-1) t).1 19) 0 = 0 then 0 else _) + (if bt ((rp E N (-1) t).1 19) 1 = 0 then 0 else _) + (if bt ((rp E N (-1) t).1 19) 2 = 0 then 0 else _) + (if bt ((rp E N (-1) t).1 19) 3 = 0 then 0 else _) + (if bt ((rp E N (-1) t).1 19) 4 = 0 then 0 else _) + (if bt ((rp E N (-1) t).1 19) 5 = 0 then 0 else _) + (if bt ((rp E N (-1) t).1 19) 6 = 0 then 0 else _) + (if bt ((rp E N (-1) t).1 19) 7 = 0 then 0 else _) + (if bt ((rp E N (-1) t).1 19) 8 = 0 then 0 else _) + (if bt ((rp E N (-1) t).1 19) 9 = 0 then 0 else _)
  rw [if_pos z, show (0 : Int32) + 0 = 0 from rfl]
  rfl
theorem rr_fy {J N : Nat → Nat → Nat → Int32} {n τ : Nat} (hR : RR J N n τ) : fpF (gt_paint (J 0) (J 5)) (J 0 0 9) = fpF (gt_paint (N 0) (N 5)) (N 0 0 9) := by
  obtain ⟨E, F, a, t, h1, h2, -, -, D, -⟩ := rr_D hR
  rw [kv_fp h1, kv_fp h2]
  have hp := ps_ls (D t).1 (D t).2 (fun _ => 0) (fun _ => 0)
  exact (sm_p (s := fun k => if bt ((rp E a (-1) t).1 19) k = 0 then 0 else mr_ls (rp E a (-1) t).1 (fun _ => 0) k) (u := fun k => if bt ((rp F a (-1) t).1 19) k = 0 then 0 else mr_ls (rp F a (-1) t).1 (fun _ => 0) k) (fun k hk => by
    show (if bt ((rp F a (-1) t).1 19) (sg k) = 0 then 0 else mr_ls (rp F a (-1) t).1 (fun _ => 0) (sg k)) = _
    rw [(D t).1.2.2.2.2 k hk, hp k hk]) (fun x => x)).symm
theorem rr_ls {J N : Nat → Nat → Nat → Int32} {n τ : Nat} (hR : RR J N n τ) : (lsX J).2.2.1 = (lsX N).2.2.1 := by
  obtain ⟨E, F, a, t, h1, h2, -, -, D, -⟩ := rr_D hR
  obtain ⟨hN, ht, hM, h7, hL, ⟨τ1, H⟩, hK⟩ := kv_d h1
  obtain ⟨-, -, -, k7, kL, ⟨τ2, H'⟩, -⟩ := kv_d h2
  rw [(ls_eq2 H ht hL hN h7).2, (ls_eq2 H' ht kL hN k7).2]
  exact (gq_l D (t + 1)).1.symm
theorem kv_ru {J : Nat → Nat → Nat → Int32} {E : Nat → Int32} {N t : Nat} (h : KV J E N t) : vm_replay J (J 0 0 7) (-1) 4 0 8 = (rp E N (-1) t).2.1 := by
  obtain ⟨hN, ht, hM, h7, hL, ⟨τ, H⟩, hK⟩ := kv_d h
  show gt_goTo (J 3) (J 0 0 7) (-1) (gt_begin (J 4)) 0 8 = _
  rw [h7]
  exact (RT_rp H ht hN (go_eq H ht hL hN (RF_bg E N τ (-1) (J 4)) (Nat.zero_le t) ht) ht).2.2.1
theorem rr_ru {J N : Nat → Nat → Nat → Int32} {n τ : Nat} (hR : RR J N n τ) : vm_replay J (J 0 0 7) (-1) 4 0 8 = vm_replay N (N 0 0 7) (-1) 4 0 8 := by
  obtain ⟨E, F, a, t, h1, h2, -, -, D, e⟩ := rr_D hR
  rw [kv_ru h1, kv_ru h2, e]
theorem rr_sh {J N : Nat → Nat → Nat → Int32} {n τ : Nat} (hR : RR J N n τ) {k : Nat} (hk : k < 10) (sn : Int32) : shF J (nI k) sn = shF N (otF (nI k)) sn := by
  have hf := rr_fy hR
  obtain ⟨E, F, a, t, h1, h2, -, -, D, -⟩ := rr_D hR
  have p1 := kv_pt h1 (J 5)
  have p2 := kv_pt h2 (N 5)
  have hp := ps_ls (D t).1 (D t).2 (fun _ => 0) (fun _ => 0)
  obtain ⟨s1, s2⟩ := ot_sg k hk
  have hc : cellF (gt_paint (J 0) (J 5) 1) 10 (nI k) = cellF (gt_paint (N 0) (N 5) 1) 10 (nI (sg k)) := by
    rw [cellF_k _ hk (by decide), cellF_k _ s2 (by decide), p1 k hk, p2 _ s2, hp k hk]
  rw [s1]
  unfold shF
  by_cases z : sn = 0
  · rw [if_pos z, if_pos z]; exact hc
  · rw [if_neg z, if_neg z]
    unfold seenF
    by_cases y : k = 0
    · subst y
      rw [if_pos (show nI 0 = 0 from rfl), if_pos (show nI (sg 0) = 0 from rfl), hf]
      have hc0 : cellF (gt_paint (J 0) (J 5) 1) 10 0 = cellF (gt_paint (N 0) (N 5) 1) 10 0 := hc
      rw [hc0]
    · have y2 : sg k ≠ 0 := fun e => y ((show ∀ k, k < 10 → sg k = 0 → k = 0 by decide +kernel) k hk e)
      rw [if_neg (fun e => y ((nI_z (by omega)).mp e)), if_neg (fun e => y2 ((nI_z (by omega)).mp e)), bitF_bt, bitF_bt, (kv_f h1).2.1, (kv_f h2).2.1, (D t).1.2.2.2.2 k hk, hc]
theorem kv_bh {J : Nat → Nat → Nat → Int32} {E : Nat → Int32} {N t : Nat} (h : KV J E N t) (P : Nat → Nat → Int32) : eq_n 10 (gt_paint (vm_bh J) P 1) (mr_ls (mr_cp (rp E N (-1) t).1) (fun _ => 0)) :=
  pt_eq (RM_cp (RM_cy (J 2) (kv_d h).2.2.1) (kv_ok h)) (mOk_cp (kv_ok h)) P _
theorem vt_56 (J : Nat → Nat → Nat → Int32) : vm_tal J 5 = gt_paint (J 0) (J 5) ∧ vm_tal J 6 = gt_paint (vm_bh J) (J 6) := by
  unfold vm_tal
  rw [gs_ne _ _ _ rfl, gs_eq, gs_eq]
  exact ⟨rfl, rfl⟩
theorem kv_ty {J : Nat → Nat → Nat → Int32} {E : Nat → Int32} {N t : Nat} (h : KV J E N t) {k : Nat} (hk : k < 10) : tpF (vm_tal J) (nI k) = if mr_ls (rp E N (-1) t).1 (fun _ => 0) k ≤ 0 then (if mr_ls (mr_cp (rp E N (-1) t).1) (fun _ => 0) k ≤ 0 then 0 else 1) else 2 := by
  unfold tpF
  rw [(vt_56 J).1, (vt_56 J).2, cellF_k _ hk (by decide), cellF_k _ hk (by decide), kv_pt h (J 5) k hk, kv_bh h (J 6) k hk]
theorem rr_ty {J N : Nat → Nat → Nat → Int32} {n τ : Nat} (hR : RR J N n τ) {k : Nat} (hk : k < 10) : tpF (vm_tal J) (nI k) = tpF (vm_tal N) (otF (nI k)) := by
  obtain ⟨E, F, a, t, h1, h2, -, -, D, -⟩ := rr_D hR
  obtain ⟨s1, s2⟩ := ot_sg k hk
  rw [s1, kv_ty h1 hk, kv_ty h2 s2, ps_ls (D t).1 (D t).2 (fun _ => 0) (fun _ => 0) k hk, ps_ls (ms_cp (D t).1) (mOk_cp (D t).2) (fun _ => 0) (fun _ => 0) k hk]
theorem kv_tr {J : Nat → Nat → Nat → Int32} {E : Nat → Int32} {N t : Nat} (h : KV J E N t) (q : Int32) : (trX J q).2.2.1 = (gq E N q (t + 1)).1 := by
  obtain ⟨hN, ht, hM, h7, hL, ⟨τ, H⟩, hK⟩ := kv_d h
  exact (tr_eq H ht hL hN h7 q).2
theorem rr_tr {J N : Nat → Nat → Nat → Int32} {n τ : Nat} (hR : RR J N n τ) {k : Nat} (hk : k < 10) : (trX J (nI k)).2.2.1 = (trX N (otF (nI k))).2.2.1 := by
  obtain ⟨E, F, a, t, h1, h2, -, -, D, -⟩ := rr_D hR
  rw [kv_tr h1, kv_tr h2]
  exact (gq_c D hk (t + 1)).symm
/-! what is possible -/
theorem kv_okM {J : Nat → Nat → Nat → Int32} {E : Nat → Int32} {N t : Nat} (h : KV J E N t) (hN : N < 100) {w : Int32} (hw : mv_ps (rp E N (-1) t).1 w = 1) : okM J w := by
  unfold okM myF
  rw [(kv_d h).2.2.2.2.1.1, if_pos (show nI N < 100 from (nI_ltI (a := N) (b := 100) (by omega) (by decide)).mpr hN), ps_eq (kv_d h).2.2.1 (kv_ok h) w, hw]
  decide
theorem rr_okM {J N : Nat → Nat → Nat → Int32} {n τ : Nat} (hR : RR J N n τ) (hn : n < 100) (w : Int32) (h3 : ¬ w = 3) (h7 : ¬ w = 7) (h8 : ¬ w = 8) : okM J w ∧ okM N w := by
  obtain ⟨E, F, a, t, h1, h2, ha, -, D, -⟩ := rr_D hR
  exact ⟨kv_okM h1 (by omega) (ps_1 _ h3 h7 h8), kv_okM h2 (by omega) (ps_1 _ h3 h7 h8)⟩
theorem kv_still {J : Nat → Nat → Nat → Int32} {E : Nat → Int32} {N t : Nat} (h : KV J E N t) (hs : ¬ 0 ≤ psF J 6) : (rp E N (-1) t).1 6 = -1 := by
  rw [psF_6, (kv_f h).1 6 (by omega)] at hs
  rcases (kv_ok h).2.2.2.2.2.2.1 with e | ⟨k, -, hk, e⟩
  · exact e
  · rw [e] at hs; exact absurd (nI_pos' (by omega)) hs
theorem kv_st0 {J : Nat → Nat → Nat → Int32} {E : Nat → Int32} {N t : Nat} (h : KV J E N t) (hs : ¬ stF0 J = 0) : mv_ps (rp E N (-1) t).1 3 = 1 ∧ mv_ps (rp E N (-1) t).1 7 = 1 := by
  unfold stF0 at hs
  by_cases a : psF J 5 = 0
  · rw [if_pos a] at hs
    by_cases b : 0 ≤ psF J 6
    · rw [if_pos b] at hs; exact absurd rfl hs
    · have e6 := kv_still h b
      rw [psF_5, (kv_f h).1 5 (by omega)] at a
      have u : mv_uw (rp E N (-1) t).1 = 0 := by unfold mv_uw; rw [a, e6]; decide
      exact ⟨by unfold mv_ps; rw [u]; rfl, by unfold mv_ps; rw [u]; rfl⟩
  · rw [if_neg a] at hs; exact absurd rfl hs
theorem rr_ok3 {J N : Nat → Nat → Nat → Int32} {n τ : Nat} (hR : RR J N n τ) (hn : n < 100) (h : ¬ stF0 J = 0) : okM J 3 ∧ okM N 3 := by
  obtain ⟨E, F, a, t, h1, h2, ha, -, D, -⟩ := rr_D hR
  have q := (kv_st0 h1 h).1
  exact ⟨kv_okM h1 (by omega) q, kv_okM h2 (by omega) ((ms_ps (D t).1 3).trans q)⟩
theorem rr_ok7 {J N : Nat → Nat → Nat → Int32} {n τ : Nat} (hR : RR J N n τ) (hn : n < 100) (h : ¬ stF0 J = 0) : okM J 7 ∧ okM N 7 := by
  obtain ⟨E, F, a, t, h1, h2, ha, -, D, -⟩ := rr_D hR
  have q := (kv_st0 h1 h).2
  exact ⟨kv_okM h1 (by omega) q, kv_okM h2 (by omega) ((ms_ps (D t).1 7).trans q)⟩
theorem rr_ok8 {J N : Nat → Nat → Nat → Int32} {n τ : Nat} (hR : RR J N n τ) (hn : n < 100) (h : ¬ 0 ≤ psF J 6) : okM J 8 ∧ okM N 8 := by
  obtain ⟨E, F, a, t, h1, h2, ha, -, D, -⟩ := rr_D hR
  have q : mv_ps (rp E a (-1) t).1 8 = 1 := by unfold mv_ps; rw [kv_still h1 h]; rfl
  exact ⟨kv_okM h1 (by omega) q, kv_okM h2 (by omega) ((ms_ps (D t).1 8).trans q)⟩
theorem rr_okP {J N : Nat → Nat → Nat → Int32} {n τ : Nat} (hR : RR J N n τ) (ht : τ + 30 ≤ 5000) (v : Int32) : okP J (upF v 30) ∧ okP N (upF v 30) := by
  obtain ⟨E, F, a, t, h1, h2, ha, hτ, D, -⟩ := rr_D hR
  obtain ⟨j, hj, e⟩ := up_k v (m := 30) (by decide) (by decide)
  rw [show upF v 30 = nI j from e]
  unfold okP
  rw [(kv_d h1).2.2.2.1, (kv_d h2).2.2.2.1, nI_add]
  exact ⟨nI_le (b := 5000) (by omega) (by decide), nI_le (b := 5000) (by omega) (by decide)⟩
/-! the answers of the acts -/
theorem rr_v0 {J N : Nat → Nat → Nat → Int32} {n τ : Nat} (hR : RR J N n τ) (q : Int32) : otF (perfR (J 0) 0 q (-1) (-1) (-1)) = perfR (N 0) 0 (otF q) (-1) (-1) (-1) := by
  obtain ⟨E, F, a, t, h1, h2, ha, hτ, D, -⟩ := rr_D hR
  have x : ∀ M : Nat → Nat → Int32, ∀ q, perfR M 0 q (-1) (-1) (-1) = M 0 0 := fun M q => pR_0 M _ _ _ _
  rw [x, x, (kv_f h1).1 0 (by omega), (kv_f h2).1 0 (by omega)]; exact (D t).1.1.symm
theorem rr_v1 {J N : Nat → Nat → Nat → Int32} {n τ : Nat} (hR : RR J N n τ) (q : Int32) : otF (perfR (J 0) 1 q (-1) (-1) (-1)) = perfR (N 0) 1 (otF q) (-1) (-1) (-1) := by
  obtain ⟨E, F, a, t, h1, h2, ha, hτ, D, -⟩ := rr_D hR
  have x : ∀ M : Nat → Nat → Int32, ∀ q, perfR M 1 q (-1) (-1) (-1) = M 0 1 := fun M q => pR_1 M _ _ _ _
  rw [x, x, (kv_f h1).1 1 (by omega), (kv_f h2).1 1 (by omega)]; exact (D t).1.2.1.symm
theorem rr_v2 {J N : Nat → Nat → Nat → Int32} {n τ : Nat} (hR : RR J N n τ) (k r : Int32) : perfR (J 0) 2 k r (-1) (-1) = perfR (N 0) 2 k r (-1) (-1) := by
  obtain ⟨E, F, a, t, h1, h2, ha, hτ, D, -⟩ := rr_D hR
  have x : ∀ M : Nat → Nat → Int32, perfR M 2 k r (-1) (-1) = M 0 2 := fun M => pR_2 M _ _ _ _
  rw [x, x, (kv_f h1).1 2 (by omega), (kv_f h2).1 2 (by omega)]; exact ((D t).1.2.2.1 2 (by omega) (by omega)).symm
theorem rr_v3 {J N : Nat → Nat → Nat → Int32} {n τ : Nat} (hR : RR J N n τ) (q : Int32) : perfR (J 0) 3 q (-1) (-1) (-1) = perfR (N 0) 3 q (-1) (-1) (-1) := by
  obtain ⟨E, F, a, t, h1, h2, ha, hτ, D, -⟩ := rr_D hR
  have x : ∀ M : Nat → Nat → Int32, perfR M 3 q (-1) (-1) (-1) = M 0 4 := fun M => pR_3 M _ _ _ _
  rw [x, x, (kv_f h1).1 4 (by omega), (kv_f h2).1 4 (by omega)]; exact ((D t).1.2.2.1 4 (by omega) (by omega)).symm
theorem rr_v4 {J N : Nat → Nat → Nat → Int32} {n τ : Nat} (hR : RR J N n τ) {k : Int32} (hk : okK k) (f o b : Int32) : otF (perfR (J 0) 4 k f o b) = perfR (N 0) 4 k (otF f) o b := by
  obtain ⟨E, F, a, t, h1, h2, ha, hτ, D, -⟩ := rr_D hR
  obtain ⟨j, -, hj, rfl⟩ := okK_rg hk
  have x : ∀ M : Nat → Nat → Int32, ∀ f, perfR M 4 (nI j) f o b = cellF (M 1) 3 (nI j) := fun M f => pR_4 M _ _ _ _
  rw [x, x, cellF_k _ (show j < 3 by omega) (by decide), cellF_k _ (show j < 3 by omega) (by decide), (kv_f h1).2.2 j (by omega), (kv_f h2).2.2 j (by omega)]; exact ((D t).1.2.2.2.1 j (by omega)).1.symm
theorem rr_v5 {J N : Nat → Nat → Nat → Int32} {n τ : Nat} (hR : RR J N n τ) {k : Int32} (hk : okK k) : perfR (J 0) 5 k (-1) (-1) (-1) = perfR (N 0) 5 k (-1) (-1) (-1) := by
  obtain ⟨E, F, a, t, h1, h2, ha, hτ, D, -⟩ := rr_D hR
  obtain ⟨j, -, hj, rfl⟩ := okK_rg hk
  have p : ∀ m : Nat → Int32, ¬ mv_ps m (nI 5) = 0 := fun m => by rw [ps_1 m (by decide) (by decide) (by decide)]; decide
  have ao : aOk 5 (nI j) (-1) (-1) (-1) := Or.inr (Or.inr (Or.inr (Or.inr (Or.inr (Or.inl ⟨rfl, ⟨j, by omega, by omega, rfl⟩⟩)))))
  have e1 := (RM_ds (kv_d h1).2.2.1 (kv_ok h1) ao (p _)).2.1
  have e2 := (RM_ds (kv_d h2).2.2.1 (kv_ok h2) ao (p _)).2.1
  rw [ds_v5 _ _ _ _ _ (p _), kx3 (show j < 3 by omega), tg_at _ (show j < 3 by omega), if_pos rfl] at e1 e2
  have e1' : perfR (J 0) 5 (nI j) (-1) (-1) (-1) = _ := e1
  have e2' : perfR (N 0) 5 (nI j) (-1) (-1) (-1) = _ := e2
  rw [e1', e2', ((D t).1.2.2.2.1 j (by omega)).2.2.2]
theorem rr_v6 {J N : Nat → Nat → Nat → Int32} {n τ : Nat} (hR : RR J N n τ) : otF (perfR (J 0) 6 (-1) (-1) (-1) (-1)) = perfR (N 0) 6 (-1) (-1) (-1) (-1) := by
  obtain ⟨E, F, a, t, h1, h2, ha, hτ, D, -⟩ := rr_D hR
  have x : ∀ M : Nat → Nat → Int32, perfR M 6 (-1) (-1) (-1) (-1) = gt_complete M 0 0 := fun M => pR_6 M _ _ _ _
  rw [x, x, (RM_cp (kv_d h1).2.2.1 (kv_ok h1)).1 0 (by omega), (RM_cp (kv_d h2).2.2.1 (kv_ok h2)).1 0 (by omega)]; exact (ms_cp (D t).1).1.symm
theorem rr_v7 {J N : Nat → Nat → Nat → Int32} {n τ : Nat} (hR : RR J N n τ) : perfR (J 0) 7 (-1) (-1) (-1) (-1) = perfR (N 0) 7 (-1) (-1) (-1) (-1) := by
  obtain ⟨E, F, a, t, h1, h2, ha, hτ, D, -⟩ := rr_D hR
  have x : ∀ M : Nat → Nat → Int32, perfR M 7 (-1) (-1) (-1) (-1) = M 0 3 := fun M => pR_7 M _ _ _ _
  rw [x, x, (kv_f h1).1 3 (by omega), (kv_f h2).1 3 (by omega)]; exact ((D t).1.2.2.1 3 (by omega) (by omega)).symm
theorem rr_v8 {J N : Nat → Nat → Nat → Int32} {n τ : Nat} (hR : RR J N n τ) (b : Int32) : perfR (J 0) 8 b (-1) (-1) (-1) = perfR (N 0) 8 b (-1) (-1) (-1) := by
  obtain ⟨E, F, a, t, h1, h2, ha, hτ, D, -⟩ := rr_D hR
  have x : ∀ M : Nat → Nat → Int32, perfR M 8 b (-1) (-1) (-1) = M 0 5 := fun M => pR_8 M _ _ _ _
  rw [x, x, (kv_f h1).1 5 (by omega), (kv_f h2).1 5 (by omega)]; exact ((D t).1.2.2.1 5 (by omega) (by omega)).symm
theorem rr_v9 {J N : Nat → Nat → Nat → Int32} {n τ : Nat} (hR : RR J N n τ) {q : Int32} (hq : okS q) (z : Int32) : perfR (J 0) 9 q z (-1) (-1) = perfR (N 0) 9 (otF q) z (-1) (-1) := by
  obtain ⟨E, F, a, t, h1, h2, ha, hτ, D, -⟩ := rr_D hR
  obtain ⟨k, -, hk, rfl⟩ := okS_rg hq
  have x : ∀ M : Nat → Nat → Int32, ∀ q, perfR M 9 q z (-1) (-1) = (M 0 9 >>> (q &&& 31)) &&& 1 := fun M q => pR_9 M _ _ _ _
  rw [x, x, (kv_f h1).2.1, (kv_f h2).2.1, (ot_sg k (by omega)).1]; exact ((D t).1.2.2.2.2 k (by omega)).symm
theorem rr_v10 {J N : Nat → Nat → Nat → Int32} {n τ : Nat} (hR : RR J N n τ) (ht : τ + 30 ≤ 5000) (v : Int32) : gt_letPass (upF v 30) (J 0) 0 7 = gt_letPass (upF v 30) (N 0) 0 7 := by
  obtain ⟨E, F, a, t, h1, h2, ha, hτ, D, -⟩ := rr_D hR
  obtain ⟨j, hj, e⟩ := up_k v (m := 30) (by decide) (by decide)
  rw [show upF v 30 = nI j from e, (kv_ps h1 (f := j) (by omega) (by omega)).1, (kv_ps h2 (f := j) (by omega) (by omega)).1]
