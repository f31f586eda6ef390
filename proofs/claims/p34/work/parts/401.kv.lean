/-! a mixer with its log -/
theorem kv_d {J : Nat → Nat → Nat → Int32} {E : Nat → Int32} {N t : Nat} (h : KV J E N t) : N ≤ 100 ∧ t ≤ 5000 ∧ RM (J 0) (rp E N (-1) t).1 ∧ J 0 0 7 = nI t ∧ LE (J 3) E N ∧ (∃ τ : Nat → Nat, LV E N τ t) ∧ J 7 0 0 = 0 := by
  obtain ⟨hN, ht, N', t', K, a, b, c, d, e, f, g, h, i, ⟨τ, j1, j2⟩, k, l, m, n⟩ := h
  have et : t = t' := nI_inj (by omega) (by omega) f
  have eN : N = N' := nI_inj (by omega) (by omega) h
  subst et; subst eN
  exact ⟨hN, ht, d, e, ⟨g, i⟩, ⟨τ, j1, j2⟩, k.trans l.symm⟩
theorem kv_mk {J : Nat → Nat → Nat → Int32} {E : Nat → Int32} {N t : Nat} {m : Nat → Int32} {τ : Nat → Nat} (hN : N ≤ 100) (ht : t ≤ 5000) (hM : RM (J 0) m) (hm : eq_n 20 m (rp E N (-1) t).1) (h7 : J 0 0 7 = nI t) (hL : LE (J 3) E N) (H : LV E N τ t) (hK : J 7 0 0 = 0) : KV J E N t :=
  ⟨hN, ht, N, t, 0, hN, ht, by omega, RM_eq hM hm, h7, rfl, hL.1, rfl, hL.2, ⟨τ, H.1, H.2⟩, hK, rfl, fun i hi => absurd hi (by omega), fun k hk => rfl⟩
theorem kv_of {J : Nat → Nat → Nat → Int32} {S : Nat → Nat → Int32} {E : Nat → Int32} {N t : Nat} (I : Inv J S) (hN : N ≤ 100) (ht : t ≤ 5000) (h0 : S 0 0 = nI t) (h1 : S 0 1 = nI N) (h8 : S 0 8 = 0) (h3 : S 3 = E) : KV J E N t := by
  obtain ⟨N', t', K, a, b, c, d, e, f, g, h, i, ⟨τ, j1, j2⟩, k, l, m, n⟩ := I
  have et : t = t' := nI_inj (by omega) (by omega) (h0.symm.trans f)
  have eN : N = N' := nI_inj (by omega) (by omega) (h1.symm.trans h)
  subst et; subst eN; subst h3
  exact kv_mk (τ := τ) hN ht d n e ⟨g, i⟩ ⟨j1, j2⟩ (k.trans (l.symm.trans h8))
theorem kv_ok {J : Nat → Nat → Nat → Int32} {E : Nat → Int32} {N t : Nat} (h : KV J E N t) : mOk (rp E N (-1) t).1 := inv_ok h.2.2
theorem kv_en {J : Nat → Nat → Nat → Int32} {E : Nat → Int32} {N t : Nat} (h : KV J E N t) {w : Nat} {a b c d : Int32} (ha : aOk w a b c d) (hm : okM J (nI w)) (hN : N < 100) : perfR (J 0) (nI w) a b c d = mv_ds (rp E N (-1) t).1 (nI w) a b c d ∧ KV (vm_enact J (nI w) a b c d) (mr_la E N (nI t) (nI w) a b c d) (N + 1) t := by
  have hg : ¬ mv_go 1 1 1 = 0 := by decide
  have q := log_eq h.2.2 (A := 1) (B := 1) (C := 1) ha hm hg
  obtain ⟨m1, m2, m3, m4, m5, m6⟩ := lo_0 (S := sS E N t) hg (nI w) a b c d
  refine ⟨q.1, kv_of q.2 (by omega) h.2.1 m1 (m2.trans (nI_1 N)) m3 (m5.trans ?_)⟩
  show mr_la E (nI N).toNatClampNeg (nI t) (nI w) a b c d = _
  rw [nI_clamp (by have := h.1; omega)]
theorem kv_ps {J : Nat → Nat → Nat → Int32} {E : Nat → Int32} {N t : Nat} (h : KV J E N t) {f : Nat} (hf : f ≤ 500) (ht : t + f ≤ 5000) : gt_letPass (nI f) (J 0) 0 7 = nI (t + f) ∧ KV (vm_pass J (nI f)) E N (t + f) := by
  obtain ⟨hN, ht0, hM, h7, hL, ⟨τ, H⟩, hK⟩ := kv_d h
  obtain ⟨l1, l2, l3⟩ := lp_eq hM (kv_ok h) (n := f) (by omega) (r := J 0 0 8) rfl
  obtain ⟨v1, v2, v3⟩ := vp_0 J (nI f)
  have e7 : gt_letPass (nI f) (J 0) 0 7 = nI (t + f) := by rw [l3, h7, nI_add]
  refine ⟨e7, kv_mk (τ := τ) hN ht (m := (frk f ((rp E N (-1) t).1, J 0 0 8)).1) ?_ ?_ ?_ ?_ ⟨fun i hi => ⟨(H.1 i hi).1, by have := (H.1 i hi).2.1; omega, (H.1 i hi).2.2⟩, H.2⟩ ?_⟩
  · rw [v1]; exact l1
  · rw [rp_pass H ht0 hN (-1) f (by omega) (J 0 0 8)]; exact eq_n.rf
  · rw [v1]; exact e7
  · rw [v2]; exact hL
  · rw [v3]; exact hK
theorem pj_n {J : Nat → Nat → Nat → Int32} (h : PJ J) : J 3 0 0 ≤ 100 := by
  obtain ⟨E, N, t, h⟩ := h
  obtain ⟨hN, ht, hM, h7, hL, ⟨τ, H⟩, hK⟩ := kv_d h
  rw [hL.1]; exact nI_le hN (by decide)
theorem pj_n8 {J : Nat → Nat → Nat → Int32} (h : PJ J) : psF J 8 ≤ 100 := pj_n h
theorem pj_tr {J : Nat → Nat → Nat → Int32} (h : PJ J) (q : Int32) : trC J (trX J q) = false := by
  obtain ⟨E, N, t, h⟩ := h
  obtain ⟨hN, ht, hM, h7, hL, ⟨τ, H⟩, hK⟩ := kv_d h
  exact (tr_eq H ht hL hN h7 q).1
theorem pj_frs {J : Nat → Nat → Nat → Int32} (h : PJ J) (q : Int32) : frC J q (frX J q) = false := by
  obtain ⟨E, N, t, h⟩ := h
  obtain ⟨hN, ht, hM, h7, hL, ⟨τ, H⟩, hK⟩ := kv_d h
  exact (fr_eq H ht hL hN h7 q).1
theorem pj_ls {J : Nat → Nat → Nat → Int32} (h : PJ J) : lsC J (lsX J) = false := by
  obtain ⟨E, N, t, h⟩ := h
  obtain ⟨hN, ht, hM, h7, hL, ⟨τ, H⟩, hK⟩ := kv_d h
  exact (ls_eq2 H ht hL hN h7).1
theorem pj_ids {J : Nat → Nat → Nat → Int32} (h : PJ J) : idC J (idX J) = false := by
  obtain ⟨E, N, t, h⟩ := h
  exact (c2_idle h.2.2).2.2.2.2.2.1
theorem pj_ha {J : Nat → Nat → Nat → Int32} (h : PJ J) : haC (J 3) (haX (J 3) (dgH J)) = false := by
  obtain ⟨E, N, t, h⟩ := h
  exact (c2_digest h.2.2).2.2.1
