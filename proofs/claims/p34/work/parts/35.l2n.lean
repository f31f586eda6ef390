/-! level 2: acts -/
theorem ps_eq {M : Nat → Nat → Int32} {m : Nat → Int32} (h : RM M m) (o : mOk m) (w : Int32) : possF M w = mv_ps m w := by
  obtain ⟨p, -, hp, e5⟩ := o.2.2.2.2.2.1
  have key : (if m 5 = 0 then (if m 6 = -1 then (1 : Int32) else 0) else 0) = (if mv_uw m = 0 then 1 else 0) := by
    unfold mv_uw
    rw [e5]
    rcases Nat.eq_zero_or_pos p with rfl | hp0
    · rw [if_pos (show nI 0 = 0 from rfl), if_neg (show ¬ (0 : Int32) < nI 0 by decide)]
      by_cases c : m 6 = -1
      · rw [if_pos c, if_pos c]; rfl
      · rw [if_neg c, if_neg c]; rfl
    · rw [if_neg (fun e => by have := (nI_z (by omega)).mp e; omega), if_pos (show (0 : Int32) < nI p from nI_lt (a := 0) hp0 (by omega))]
      rfl
  unfold possF mv_ps
  rw [h.1 5 (by omega), h.1 6 (by omega), key]
theorem pM_0 (M : Nat → Nat → Int32) (a b c d : Int32) : perfM M (nI 0) a b c d = sF M 0 0 a := by
  unfold perfM
  rw [show nI 0 = 0 from rfl, if_pos rfl]
theorem pR_0 (M : Nat → Nat → Int32) (a b c d : Int32) : perfR M (nI 0) a b c d = M 0 0 := by
  unfold perfR
  rw [show nI 0 = 0 from rfl, if_pos rfl]
theorem ds_m0 (m : Nat → Int32) (a b c d : Int32) (h : ¬ mv_ps m (nI 0) = 0) : mr_ds m (nI 0) a b c d = upd m 0 a := by
  unfold mr_ds
  rw [if_neg h, show nI 0 = 0 from rfl, if_pos rfl]
theorem ds_v0 (m : Nat → Int32) (a b c d : Int32) (h : ¬ mv_ps m (nI 0) = 0) : mv_ds m (nI 0) a b c d = m 0 := by
  unfold mv_ds
  rw [if_neg h, show nI 0 = 0 from rfl, if_pos rfl]
theorem pM_1 (M : Nat → Nat → Int32) (a b c d : Int32) : perfM M (nI 1) a b c d = sF M 0 1 a := by
  unfold perfM
  rw [show nI 1 = 1 from rfl, if_neg (by decide), if_pos rfl]
theorem pR_1 (M : Nat → Nat → Int32) (a b c d : Int32) : perfR M (nI 1) a b c d = M 0 1 := by
  unfold perfR
  rw [show nI 1 = 1 from rfl, if_neg (by decide), if_pos rfl]
theorem ds_m1 (m : Nat → Int32) (a b c d : Int32) (h : ¬ mv_ps m (nI 1) = 0) : mr_ds m (nI 1) a b c d = upd m 1 a := by
  unfold mr_ds
  rw [if_neg h, show nI 1 = 1 from rfl, if_neg (by decide), if_pos rfl]
theorem ds_v1 (m : Nat → Int32) (a b c d : Int32) (h : ¬ mv_ps m (nI 1) = 0) : mv_ds m (nI 1) a b c d = m 1 := by
  unfold mv_ds
  rw [if_neg h, show nI 1 = 1 from rfl, if_neg (by decide), if_pos rfl]
theorem pM_2 (M : Nat → Nat → Int32) (a b c d : Int32) : perfM M (nI 2) a b c d = sF (sF M 0 2 a) 0 3 b := by
  unfold perfM
  rw [show nI 2 = 2 from rfl, if_neg (by decide), if_neg (by decide), if_pos rfl]
theorem pR_2 (M : Nat → Nat → Int32) (a b c d : Int32) : perfR M (nI 2) a b c d = M 0 2 := by
  unfold perfR
  rw [show nI 2 = 2 from rfl, if_neg (by decide), if_neg (by decide), if_pos rfl]
theorem ds_m2 (m : Nat → Int32) (a b c d : Int32) (h : ¬ mv_ps m (nI 2) = 0) : mr_ds m (nI 2) a b c d = upd (upd m 2 a) 3 b := by
  unfold mr_ds
  rw [if_neg h, show nI 2 = 2 from rfl, if_neg (by decide), if_neg (by decide), if_pos rfl]
theorem ds_v2 (m : Nat → Int32) (a b c d : Int32) (h : ¬ mv_ps m (nI 2) = 0) : mv_ds m (nI 2) a b c d = m 2 := by
  unfold mv_ds
  rw [if_neg h, show nI 2 = 2 from rfl, if_neg (by decide), if_neg (by decide), if_pos rfl]
theorem pM_3 (M : Nat → Nat → Int32) (a b c d : Int32) : perfM M (nI 3) a b c d = sF M 0 4 a := by
  unfold perfM
  rw [show nI 3 = 3 from rfl, if_neg (by decide), if_neg (by decide), if_neg (by decide), if_pos rfl]
theorem pR_3 (M : Nat → Nat → Int32) (a b c d : Int32) : perfR M (nI 3) a b c d = M 0 4 := by
  unfold perfR
  rw [show nI 3 = 3 from rfl, if_neg (by decide), if_neg (by decide), if_neg (by decide), if_pos rfl]
theorem ds_m3 (m : Nat → Int32) (a b c d : Int32) (h : ¬ mv_ps m (nI 3) = 0) : mr_ds m (nI 3) a b c d = upd m 4 a := by
  unfold mr_ds
  rw [if_neg h, show nI 3 = 3 from rfl, if_neg (by decide), if_neg (by decide), if_neg (by decide), if_pos rfl]
theorem ds_v3 (m : Nat → Int32) (a b c d : Int32) (h : ¬ mv_ps m (nI 3) = 0) : mv_ds m (nI 3) a b c d = m 4 := by
  unfold mv_ds
  rw [if_neg h, show nI 3 = 3 from rfl, if_neg (by decide), if_neg (by decide), if_neg (by decide), if_pos rfl]
theorem pM_4 (M : Nat → Nat → Int32) (a b c d : Int32) : perfM M (nI 4) a b c d = gt_setKeyer M a b c d := by
  unfold perfM
  rw [show nI 4 = 4 from rfl, if_neg (by decide), if_neg (by decide), if_neg (by decide), if_neg (by decide), if_pos rfl]
theorem pR_4 (M : Nat → Nat → Int32) (a b c d : Int32) : perfR M (nI 4) a b c d = cellF (M 1) 3 a := by
  unfold perfR
  rw [show nI 4 = 4 from rfl, if_neg (by decide), if_neg (by decide), if_neg (by decide), if_neg (by decide), if_pos rfl]
theorem ds_m4 (m : Nat → Int32) (a b c d : Int32) (h : ¬ mv_ps m (nI 4) = 0) : mr_ds m (nI 4) a b c d = mr_ky m a b c d := by
  unfold mr_ds
  rw [if_neg h, show nI 4 = 4 from rfl, if_neg (by decide), if_neg (by decide), if_neg (by decide), if_neg (by decide), if_pos rfl]
theorem ds_v4 (m : Nat → Int32) (a b c d : Int32) (h : ¬ mv_ps m (nI 4) = 0) : mv_ds m (nI 4) a b c d = m (kx a 0) := by
  unfold mv_ds
  rw [if_neg h, show nI 4 = 4 from rfl, if_neg (by decide), if_neg (by decide), if_neg (by decide), if_neg (by decide), if_pos rfl]
theorem pM_5 (M : Nat → Nat → Int32) (a b c d : Int32) : perfM M (nI 5) a b c d = gt_switch M a := by
  unfold perfM
  rw [show nI 5 = 5 from rfl, if_neg (by decide), if_neg (by decide), if_neg (by decide), if_neg (by decide), if_neg (by decide), if_pos rfl]
theorem pR_5 (M : Nat → Nat → Int32) (a b c d : Int32) : perfR M (nI 5) a b c d = swR M a := by
  unfold perfR
  rw [show nI 5 = 5 from rfl, if_neg (by decide), if_neg (by decide), if_neg (by decide), if_neg (by decide), if_neg (by decide), if_pos rfl]
theorem ds_m5 (m : Nat → Int32) (a b c d : Int32) (h : ¬ mv_ps m (nI 5) = 0) : mr_ds m (nI 5) a b c d = mr_tg m a := by
  unfold mr_ds
  rw [if_neg h, show nI 5 = 5 from rfl, if_neg (by decide), if_neg (by decide), if_neg (by decide), if_neg (by decide), if_neg (by decide), if_pos rfl]
theorem ds_v5 (m : Nat → Int32) (a b c d : Int32) (h : ¬ mv_ps m (nI 5) = 0) : mv_ds m (nI 5) a b c d = mr_tg m a (kx a 3) := by
  unfold mv_ds
  rw [if_neg h, show nI 5 = 5 from rfl, if_neg (by decide), if_neg (by decide), if_neg (by decide), if_neg (by decide), if_neg (by decide), if_pos rfl]
theorem pM_6 (M : Nat → Nat → Int32) (a b c d : Int32) : perfM M (nI 6) a b c d = gt_complete M := by
  unfold perfM
  rw [show nI 6 = 6 from rfl, if_neg (by decide), if_neg (by decide), if_neg (by decide), if_neg (by decide), if_neg (by decide), if_neg (by decide), if_pos rfl]
theorem pR_6 (M : Nat → Nat → Int32) (a b c d : Int32) : perfR M (nI 6) a b c d = gt_complete M 0 0 := by
  unfold perfR
  rw [show nI 6 = 6 from rfl, if_neg (by decide), if_neg (by decide), if_neg (by decide), if_neg (by decide), if_neg (by decide), if_neg (by decide), if_pos rfl]
theorem ds_m6 (m : Nat → Int32) (a b c d : Int32) (h : ¬ mv_ps m (nI 6) = 0) : mr_ds m (nI 6) a b c d = mr_cp m := by
  unfold mr_ds
  rw [if_neg h, show nI 6 = 6 from rfl, if_neg (by decide), if_neg (by decide), if_neg (by decide), if_neg (by decide), if_neg (by decide), if_neg (by decide), if_pos rfl]
theorem ds_v6 (m : Nat → Int32) (a b c d : Int32) (h : ¬ mv_ps m (nI 6) = 0) : mv_ds m (nI 6) a b c d = mr_cp m 0 := by
  unfold mv_ds
  rw [if_neg h, show nI 6 = 6 from rfl, if_neg (by decide), if_neg (by decide), if_neg (by decide), if_neg (by decide), if_neg (by decide), if_neg (by decide), if_pos rfl]
theorem pM_7 (M : Nat → Nat → Int32) (a b c d : Int32) : perfM M (nI 7) a b c d = sF M 0 6 0 := by
  unfold perfM
  rw [show nI 7 = 7 from rfl, if_neg (by decide), if_neg (by decide), if_neg (by decide), if_neg (by decide), if_neg (by decide), if_neg (by decide), if_neg (by decide), if_pos rfl]
theorem pR_7 (M : Nat → Nat → Int32) (a b c d : Int32) : perfR M (nI 7) a b c d = M 0 3 := by
  unfold perfR
  rw [show nI 7 = 7 from rfl, if_neg (by decide), if_neg (by decide), if_neg (by decide), if_neg (by decide), if_neg (by decide), if_neg (by decide), if_neg (by decide), if_pos rfl]
theorem ds_m7 (m : Nat → Int32) (a b c d : Int32) (h : ¬ mv_ps m (nI 7) = 0) : mr_ds m (nI 7) a b c d = upd m 6 0 := by
  unfold mr_ds
  rw [if_neg h, show nI 7 = 7 from rfl, if_neg (by decide), if_neg (by decide), if_neg (by decide), if_neg (by decide), if_neg (by decide), if_neg (by decide), if_neg (by decide), if_pos rfl]
theorem ds_v7 (m : Nat → Int32) (a b c d : Int32) (h : ¬ mv_ps m (nI 7) = 0) : mv_ds m (nI 7) a b c d = m 3 := by
  unfold mv_ds
  rw [if_neg h, show nI 7 = 7 from rfl, if_neg (by decide), if_neg (by decide), if_neg (by decide), if_neg (by decide), if_neg (by decide), if_neg (by decide), if_neg (by decide), if_pos rfl]
theorem pM_8 (M : Nat → Nat → Int32) (a b c d : Int32) : perfM M (nI 8) a b c d = gt_setPos M a := by
  unfold perfM
  rw [show nI 8 = 8 from rfl, if_neg (by decide), if_neg (by decide), if_neg (by decide), if_neg (by decide), if_neg (by decide), if_neg (by decide), if_neg (by decide), if_neg (by decide), if_pos rfl]
theorem pR_8 (M : Nat → Nat → Int32) (a b c d : Int32) : perfR M (nI 8) a b c d = M 0 5 := by
  unfold perfR
  rw [show nI 8 = 8 from rfl, if_neg (by decide), if_neg (by decide), if_neg (by decide), if_neg (by decide), if_neg (by decide), if_neg (by decide), if_neg (by decide), if_neg (by decide), if_pos rfl]
theorem ds_m8 (m : Nat → Int32) (a b c d : Int32) (h : ¬ mv_ps m (nI 8) = 0) : mr_ds m (nI 8) a b c d = mr_mv m a := by
  unfold mr_ds
  rw [if_neg h, show nI 8 = 8 from rfl, if_neg (by decide), if_neg (by decide), if_neg (by decide), if_neg (by decide), if_neg (by decide), if_neg (by decide), if_neg (by decide), if_neg (by decide), if_pos rfl]
theorem ds_v8 (m : Nat → Int32) (a b c d : Int32) (h : ¬ mv_ps m (nI 8) = 0) : mv_ds m (nI 8) a b c d = m 5 := by
  unfold mv_ds
  rw [if_neg h, show nI 8 = 8 from rfl, if_neg (by decide), if_neg (by decide), if_neg (by decide), if_neg (by decide), if_neg (by decide), if_neg (by decide), if_neg (by decide), if_neg (by decide), if_pos rfl]
theorem pM_9 (M : Nat → Nat → Int32) (a b c d : Int32) : perfM M (nI 9) a b c d = gt_setFault M a b := by
  unfold perfM
  rw [show nI 9 = 9 from rfl, if_neg (by decide), if_neg (by decide), if_neg (by decide), if_neg (by decide), if_neg (by decide), if_neg (by decide), if_neg (by decide), if_neg (by decide), if_neg (by decide), if_pos rfl]
theorem pR_9 (M : Nat → Nat → Int32) (a b c d : Int32) : perfR M (nI 9) a b c d = (M 0 9 >>> (a &&& 31)) &&& 1 := by
  unfold perfR
  rw [show nI 9 = 9 from rfl, if_neg (by decide), if_neg (by decide), if_neg (by decide), if_neg (by decide), if_neg (by decide), if_neg (by decide), if_neg (by decide), if_neg (by decide), if_neg (by decide), if_pos rfl]
theorem ds_m9 (m : Nat → Int32) (a b c d : Int32) (h : ¬ mv_ps m (nI 9) = 0) : mr_ds m (nI 9) a b c d = mr_ft m a b := by
  unfold mr_ds
  rw [if_neg h, show nI 9 = 9 from rfl, if_neg (by decide), if_neg (by decide), if_neg (by decide), if_neg (by decide), if_neg (by decide), if_neg (by decide), if_neg (by decide), if_neg (by decide), if_neg (by decide)]
theorem ds_v9 (m : Nat → Int32) (a b c d : Int32) (h : ¬ mv_ps m (nI 9) = 0) : mv_ds m (nI 9) a b c d = (m 19 >>> (a &&& 31)) &&& 1 := by
  unfold mv_ds
  rw [if_neg h, show nI 9 = 9 from rfl, if_neg (by decide), if_neg (by decide), if_neg (by decide), if_neg (by decide), if_neg (by decide), if_neg (by decide), if_neg (by decide), if_neg (by decide), if_neg (by decide)]
theorem RM_ky {M : Nat → Nat → Int32} {m : Nat → Int32} (h : RM M m) {a : Nat} (ha : a < 3) (b c d : Int32) : RM (gt_setKeyer M (nI a) b c d) (mr_ky m (nI a) b c d) := by
  obtain ⟨h1, h2, h3, h4⟩ := h
  have e1 : gt_setKeyer M (nI a) b c d 1 = upd (M 1) a b := by
    show putF (M 1) 3 (nI a) b = _
    exact putF_k _ _ ha (by decide)
  have e2 : gt_setKeyer M (nI a) b c d 2 = upd (M 2) a c := by
    show putF (M 2) 3 (nI a) c = _
    exact putF_k _ _ ha (by decide)
  have e3 : gt_setKeyer M (nI a) b c d 3 = upd (M 3) a d := by
    show putF (M 3) 3 (nI a) d = _
    exact putF_k _ _ ha (by decide)
  have e0 : gt_setKeyer M (nI a) b c d 0 = M 0 := rfl
  have k0 : kx (nI a) 0 = 7 + 4 * a := kx_k ha 0 (by omega)
  have k1 : kx (nI a) 1 = 7 + 4 * a + 1 := kx_k ha 1 (by omega)
  have k2 : kx (nI a) 2 = 7 + 4 * a + 2 := kx_k ha 2 (by omega)
  have ev : ∀ k, mr_ky m (nI a) b c d k = if k = 7 + 4 * a + 2 then d else if k = 7 + 4 * a + 1 then c else if k = 7 + 4 * a then b else m k := fun k => by
    unfold mr_ky
    rw [k0, k1, k2, upd_at, upd_at, upd_at]
  refine ⟨fun k hk => ?_, ?_, fun k hk => ?_, ?_⟩
  · rw [e0, ev, if_neg (by omega), if_neg (by omega), if_neg (by omega)]; exact h1 k hk
  · rw [e0, ev, if_neg (by omega), if_neg (by omega), if_neg (by omega)]; exact h2
  · obtain ⟨c1, c2, c3, c4⟩ := h3 k hk
    rw [e1, e2, e3, e0, ev, ev, ev, ev, upd_at, upd_at, upd_at, if_neg (show ¬ 7 + 4 * k = 7 + 4 * a + 2 by omega), if_neg (show ¬ 7 + 4 * k = 7 + 4 * a + 1 by omega), if_neg (show ¬ 7 + 4 * k + 1 = 7 + 4 * a + 2 by omega), if_neg (show ¬ 7 + 4 * k + 3 = 7 + 4 * a + 2 by omega), if_neg (show ¬ 7 + 4 * k + 3 = 7 + 4 * a + 1 by omega), if_neg (show ¬ 7 + 4 * k + 3 = 7 + 4 * a by omega)]
    by_cases e : k = a
    · subst e
      rw [if_pos rfl, if_pos rfl, if_pos rfl, if_pos rfl, if_pos rfl, if_pos rfl]
      exact ⟨rfl, rfl, rfl, c4⟩
    · rw [if_neg e, if_neg e, if_neg e, if_neg (show ¬ 7 + 4 * k = 7 + 4 * a by omega), if_neg (show ¬ 7 + 4 * k + 1 = 7 + 4 * a + 1 by omega), if_neg (show ¬ 7 + 4 * k + 1 = 7 + 4 * a by omega), if_neg (show ¬ 7 + 4 * k + 2 = 7 + 4 * a + 2 by omega), if_neg (show ¬ 7 + 4 * k + 2 = 7 + 4 * a + 1 by omega), if_neg (show ¬ 7 + 4 * k + 2 = 7 + 4 * a by omega)]
      exact ⟨c1, c2, c3, c4⟩
  · rw [e0]; exact h4
theorem tg_at (m : Nat → Int32) {a : Nat} (ha : a < 3) (k : Nat) : mr_tg m (nI a) k = if k = 7 + 4 * a + 3 then 1 - m (7 + 4 * a + 3) else m k := by
  unfold mr_tg
  rw [show kx (nI a) 3 = 7 + 4 * a + 3 from kx_k ha 3 (by omega), upd_at]
theorem RM_tg {M : Nat → Nat → Int32} {m : Nat → Int32} (h : RM M m) {a : Nat} (ha : a < 3) : RM (gt_switch M (nI a)) (mr_tg m (nI a)) := by
  obtain ⟨h1, h2, h3, b, hb, eb⟩ := h
  refine ⟨fun k hk => ?_, ?_, fun k hk => ?_, ?_⟩
  · rw [tg_at m ha, if_neg (by omega), ← h1 k hk]; unfold gt_switch; rw [sF_eq, upd_ne _ _ _ (bne (by omega))]
  · rw [tg_at m ha, if_neg (by omega), ← h2]; rfl
  · obtain ⟨c1, c2, c3, c4⟩ := h3 k hk
    rw [tg_at m ha, tg_at m ha, tg_at m ha, tg_at m ha, if_neg (show ¬ 7 + 4 * k = 7 + 4 * a + 3 by omega), if_neg (show ¬ 7 + 4 * k + 1 = 7 + 4 * a + 3 by omega), if_neg (show ¬ 7 + 4 * k + 2 = 7 + 4 * a + 3 by omega)]
    refine ⟨c1, c2, c3, ?_⟩
    show bt (M 0 10 ^^^ ((1 : Int32) <<< (nI a &&& 31))) k = _
    rw [eb, fx_sw b hb a ha k hk]
    by_cases e : k = a
    · subst e
      rw [if_pos rfl, if_pos rfl, ← c4, eb]
    · rw [if_neg e, if_neg (by omega), ← c4, eb]
  · show ∃ c, c < 8 ∧ M 0 10 ^^^ ((1 : Int32) <<< (nI a &&& 31)) = nI c
    rw [eb]
    exact fx_sb b hb a ha
theorem RM_mv {M : Nat → Nat → Int32} {m : Nat → Int32} (h : RM M m) (o : mOk (upd m 5 1000)) (a : Int32) : RM (gt_setPos M a) (mr_mv m a) := by
  unfold gt_setPos mr_mv
  split
  · rename_i e; subst e; exact RM_cp (RM_set h (by omega) _) o
  · exact RM_set h (by omega) _
theorem or_and (x y : Int32) : (x &&& (y ^^^ (-1))) ||| y = x ||| y := by
  apply Int32.toBitVec_inj.mp
  show (x.toBitVec &&& (y.toBitVec ^^^ (-1#32))) ||| y.toBitVec = x.toBitVec ||| y.toBitVec
  rw [show (-1#32) = BitVec.allOnes 32 from by decide]
  ext i hi
  simp only [BitVec.getElem_or, BitVec.getElem_and, BitVec.getElem_xor, BitVec.getElem_allOnes]
  cases x.toBitVec[i] <;> cases y.toBitVec[i] <;> rfl
theorem ft_eq (x a : Int32) {b : Int32} (hb : b = 0 ∨ b = 1) : (x &&& (((1 : Int32) <<< (a &&& 31)) ^^^ (-1))) ||| (b <<< (a &&& 31)) = if b = 1 then x ||| ((1 : Int32) <<< (a &&& 31)) else x &&& (((1 : Int32) <<< (a &&& 31)) ^^^ (-1)) := by
  rcases hb with rfl | rfl
  · rw [if_neg (by decide), Int32.zero_shiftLeft, Int32.or_zero]
  · rw [if_pos rfl, or_and]
theorem RM_ft {M : Nat → Nat → Int32} {m : Nat → Int32} (h : RM M m) (a : Int32) {b : Int32} (hb : b = 0 ∨ b = 1) : RM (gt_setFault M a b) (mr_ft m a b) := by
  obtain ⟨h1, h2, h3, h4⟩ := h
  unfold gt_setFault mr_ft
  rw [ft_eq _ _ hb, h2]
  refine ⟨fun k hk => ?_, ?_, fun k hk => ?_, ?_⟩
  · rw [sF_eq, upd_ne _ _ _ (bne (by omega)), upd_ne _ _ _ (bne (by omega))]; exact h1 k hk
  · rw [sF_eq, upd_eq, upd_eq]
  · rw [sF_ne _ _ _ _ rfl, sF_ne _ _ _ _ rfl, sF_ne _ _ _ _ rfl, sF_eq, upd_ne _ _ _ (bne (by omega)), upd_ne _ _ _ (bne (by omega)), upd_ne _ _ _ (bne (by omega)), upd_ne _ _ _ (bne (by omega)), upd_ne _ _ _ (bne (by omega))]
    exact h3 k hk
  · rw [sF_eq, upd_ne _ _ _ (bne (by omega))]; exact h4
theorem nI_or (a b : Nat) : nI a ||| nI b = nI (a ||| b) := by
  apply Int32.toBitVec_inj.mp
  show BitVec.ofNat 32 a ||| BitVec.ofNat 32 b = BitVec.ofNat 32 (a ||| b)
  exact (BitVec.ofNat_or).symm
theorem nI_and (a b : Nat) : nI a &&& nI b = nI (a &&& b) := by
  apply Int32.toBitVec_inj.mp
  show BitVec.ofNat 32 a &&& BitVec.ofNat 32 b = BitVec.ofNat 32 (a &&& b)
  exact (BitVec.ofNat_and).symm
theorem fx_sh : ∀ a, a < 10 → (1 : Int32) <<< (nI a &&& 31) = nI (2 ^ a) ∧ ((1 : Int32) <<< (nI a &&& 31)) ^^^ (-1) = nI (4294967295 - 2 ^ a) := by decide +kernel
theorem even_or {n a : Nat} (hn : n % 2 = 0) (ha : 1 ≤ a) : (n ||| 2 ^ a) % 2 = 0 := by
  obtain ⟨k, rfl⟩ : ∃ k, a = k + 1 := ⟨a - 1, by omega⟩
  rcases Nat.mod_two_eq_zero_or_one (n ||| 2 ^ (k + 1)) with h | h
  · exact h
  · rcases Nat.or_mod_two_eq_one.mp h with q | q
    · omega
    · rw [Nat.pow_succ] at q; omega
theorem even_and {n c : Nat} (hn : n % 2 = 0) : (n &&& c) % 2 = 0 := by
  rcases Nat.mod_two_eq_zero_or_one (n &&& c) with h | h
  · exact h
  · have := (Nat.and_mod_two_eq_one.mp h).1; omega
theorem mOk_ft {m : Nat → Int32} (o : mOk m) {a b : Int32} (ha : rg a 1 9) (hb : b = 0 ∨ b = 1) : mOk (mr_ft m a b) := by
  obtain ⟨o0, o1, o2, o3, o4, o5, o6, ok, f, hf, ef⟩ := o
  obtain ⟨s, hs1, hs2, rfl⟩ := ha
  obtain ⟨q1, q2⟩ := fx_sh s (by omega)
  have key : ∃ g, g < 512 ∧ (if b = 1 then m 19 ||| ((1 : Int32) <<< (nI s &&& 31)) else m 19 &&& (((1 : Int32) <<< (nI s &&& 31)) ^^^ (-1))) = nI (2 * g) := by
    rw [q2, q1, ef, nI_or, nI_and]
    have h2 : (2 : Nat) ^ s < 2 ^ 10 := Nat.pow_lt_pow_right (by omega) (by omega)
    rcases hb with rfl | rfl
    · rw [if_neg (by decide)]
      have e := even_and (n := 2 * f) (c := 4294967295 - 2 ^ s) (by omega)
      have l : 2 * f &&& (4294967295 - 2 ^ s) ≤ 2 * f := Nat.and_le_left
      exact ⟨(2 * f &&& (4294967295 - 2 ^ s)) / 2, by omega, by congr 1; omega⟩
    · rw [if_pos rfl]
      have e := even_or (n := 2 * f) (a := s) (by omega) hs1
      have l : 2 * f ||| 2 ^ s < 2 ^ 10 := Nat.or_lt_two_pow (by omega) h2
      exact ⟨(2 * f ||| 2 ^ s) / 2, by omega, by congr 1; omega⟩
  exact ⟨o0, o1, o2, o3, o4, o5, o6, fun k hk => by
    unfold mr_ft
    rw [upd_ne _ _ _ (bne (by omega)), upd_ne _ _ _ (bne (by omega)), upd_ne _ _ _ (bne (by omega)), upd_ne _ _ _ (bne (by omega))]
    exact ok k hk, key⟩
theorem mOk_lo {m : Nat → Int32} (o : mOk m) {i : Nat} (hi : i < 7) (v : Int32) (h : (i = 0 ∨ i = 1 → rg v 0 9) ∧ (i = 2 → rg v 0 2) ∧ (i = 3 → rg v 1 100) ∧ (i = 4 → rg v 0 15) ∧ (i = 5 → rg v 0 1000) ∧ (i = 6 → v = -1 ∨ rg v 0 99)) : mOk (upd m i v) := by
  obtain ⟨o0, o1, o2, o3, o4, o5, o6, ok, of⟩ := o
  obtain ⟨g0, g2, g3, g4, g5, g6⟩ := h
  refine ⟨?_, ?_, ?_, ?_, ?_, ?_, ?_, fun k hk => ?_, ?_⟩
  · rw [upd_at]; split
    · exact g0 (by omega)
    · exact o0
  · rw [upd_at]; split
    · exact g0 (by omega)
    · exact o1
  · rw [upd_at]; split
    · exact g2 (by omega)
    · exact o2
  · rw [upd_at]; split
    · exact g3 (by omega)
    · exact o3
  · rw [upd_at]; split
    · exact g4 (by omega)
    · exact o4
  · rw [upd_at]; split
    · exact g5 (by omega)
    · exact o5
  · rw [upd_at]; split
    · exact g6 (by omega)
    · exact o6
  · rw [upd_ne _ _ _ (bne (by omega)), upd_ne _ _ _ (bne (by omega)), upd_ne _ _ _ (bne (by omega)), upd_ne _ _ _ (bne (by omega))]
    exact ok k hk
  · rw [upd_ne _ _ _ (bne (by omega))]; exact of
theorem mOk_ky {m : Nat → Int32} (o : mOk m) {a : Nat} (ha : a < 3) {b c d : Int32} (hb : rg b 0 9) (hc : rg c 0 100) (hd : rg d 1 100) : mOk (mr_ky m (nI a) b c d) := by
  obtain ⟨o0, o1, o2, o3, o4, o5, o6, ok, of⟩ := o
  have k0 : kx (nI a) 0 = 7 + 4 * a := kx_k ha 0 (by omega)
  have k1 : kx (nI a) 1 = 7 + 4 * a + 1 := kx_k ha 1 (by omega)
  have k2 : kx (nI a) 2 = 7 + 4 * a + 2 := kx_k ha 2 (by omega)
  have ev : ∀ k, mr_ky m (nI a) b c d k = if k = 7 + 4 * a + 2 then d else if k = 7 + 4 * a + 1 then c else if k = 7 + 4 * a then b else m k := fun k => by
    unfold mr_ky
    rw [k0, k1, k2, upd_at, upd_at, upd_at]
  have lo : ∀ k, k < 7 ∨ k = 19 → mr_ky m (nI a) b c d k = m k := fun k hk => by rw [ev, if_neg (by omega), if_neg (by omega), if_neg (by omega)]
  unfold mOk
  rw [lo 0 (by omega), lo 1 (by omega), lo 2 (by omega), lo 3 (by omega), lo 4 (by omega), lo 5 (by omega), lo 6 (by omega), lo 19 (by omega)]
  refine ⟨o0, o1, o2, o3, o4, o5, o6, fun k hk => ?_, of⟩
  obtain ⟨c1, c2, c3, c4⟩ := ok k hk
  rw [ev, ev, ev, ev]
  refine ⟨?_, ?_, ?_, ?_⟩
  · split
    · exact absurd (by assumption) (by omega)
    · split
      · exact absurd (by assumption) (by omega)
      · split
        · exact hb
        · exact c1
  · split
    · exact absurd (by assumption) (by omega)
    · split
      · exact hc
      · split
        · exact absurd (by assumption) (by omega)
        · exact c2
  · split
    · exact hd
    · split
      · exact absurd (by assumption) (by omega)
      · split
        · exact absurd (by assumption) (by omega)
        · exact c3
  · rw [if_neg (by omega), if_neg (by omega), if_neg (by omega)]; exact c4
theorem mOk_tg {m : Nat → Int32} (o : mOk m) {a : Nat} (ha : a < 3) : mOk (mr_tg m (nI a)) := by
  obtain ⟨o0, o1, o2, o3, o4, o5, o6, ok, of⟩ := o
  have lo : ∀ k, k < 7 ∨ k = 19 → mr_tg m (nI a) k = m k := fun k hk => by rw [tg_at m ha, if_neg (by omega)]
  unfold mOk
  rw [lo 0 (by omega), lo 1 (by omega), lo 2 (by omega), lo 3 (by omega), lo 4 (by omega), lo 5 (by omega), lo 6 (by omega), lo 19 (by omega)]
  refine ⟨o0, o1, o2, o3, o4, o5, o6, fun k hk => ?_, of⟩
  obtain ⟨c1, c2, c3, c4⟩ := ok k hk
  rw [tg_at m ha, tg_at m ha, tg_at m ha, tg_at m ha, if_neg (by omega), if_neg (by omega), if_neg (by omega)]
  refine ⟨c1, c2, c3, ?_⟩
  split
  · exact rg_1m (ok a ha).2.2.2
  · exact c4
theorem mOk_mv {m : Nat → Int32} (o : mOk m) {a : Int32} (ha : rg a 0 1000) : mOk (mr_mv m a) := by
  have h : mOk (upd m 5 a) := mOk_lo o (by omega) a ⟨by omega, by omega, by omega, by omega, fun _ => ha, by omega⟩
  unfold mr_mv
  split
  · exact mOk_cp h
  · exact h
theorem rg_k {a : Int32} {hi : Nat} (h : rg a 0 hi) : ∃ k, k < hi + 1 ∧ a = nI k := by
  obtain ⟨k, -, h2, e⟩ := h
  exact ⟨k, by omega, e⟩
/-- an act: the class's Mix and the reference's row do the same -/
theorem RM_ds {M : Nat → Nat → Int32} {m : Nat → Int32} (h : RM M m) (o : mOk m) {w : Nat} {a b c d : Int32} (ha : aOk w a b c d) (hp : ¬ mv_ps m (nI w) = 0) :
    RM (perfM M (nI w) a b c d) (mr_ds m (nI w) a b c d) ∧ perfR M (nI w) a b c d = mv_ds m (nI w) a b c d ∧ mOk (mr_ds m (nI w) a b c d) := by
  rcases ha with ⟨rfl, ha⟩ | ⟨rfl, ha⟩ | ⟨rfl, ha, hb⟩ | ⟨rfl, ha⟩ | ⟨rfl, ha, hb, hc, hd⟩ | ⟨rfl, ha⟩ | rfl | rfl | ⟨rfl, ha⟩ | ⟨rfl, ha, hb⟩
  · rw [pM_0, pR_0, ds_m0 m a b c d hp, ds_v0 m a b c d hp]
    exact ⟨RM_set h (by omega) a, h.1 0 (by omega), mOk_lo o (by omega) a ⟨fun _ => ha, by omega, by omega, by omega, by omega, by omega⟩⟩
  · rw [pM_1, pR_1, ds_m1 m a b c d hp, ds_v1 m a b c d hp]
    exact ⟨RM_set h (by omega) a, h.1 1 (by omega), mOk_lo o (by omega) a ⟨fun _ => ha, by omega, by omega, by omega, by omega, by omega⟩⟩
  · rw [pM_2, pR_2, ds_m2 m a b c d hp, ds_v2 m a b c d hp]
    exact ⟨RM_set (RM_set h (by omega) a) (by omega) b, h.1 2 (by omega), mOk_lo (mOk_lo o (by omega) a ⟨by omega, fun _ => ha, by omega, by omega, by omega, by omega⟩) (by omega) b ⟨by omega, by omega, fun _ => hb, by omega, by omega, by omega⟩⟩
  · rw [pM_3, pR_3, ds_m3 m a b c d hp, ds_v3 m a b c d hp]
    exact ⟨RM_set h (by omega) a, h.1 4 (by omega), mOk_lo o (by omega) a ⟨by omega, by omega, by omega, fun _ => ha, by omega, by omega⟩⟩
  · obtain ⟨k, hk, rfl⟩ := rg_k ha
    rw [pM_4, pR_4, ds_m4 m _ b c d hp, ds_v4 m _ b c d hp, cellF_k _ (by omega) (by decide), show kx (nI k) 0 = 7 + 4 * k from kx_k hk 0 (by omega)]
    exact ⟨RM_ky h hk b c d, (h.2.2.1 k hk).1, mOk_ky o hk hb hc hd⟩
  · obtain ⟨k, hk, rfl⟩ := rg_k ha
    rw [pM_5, pR_5, ds_m5 m _ b c d hp, ds_v5 m _ b c d hp]
    have q := RM_tg h hk
    refine ⟨q, ?_, mOk_tg o hk⟩
    rw [show kx (nI k) 3 = 7 + 4 * k + 3 from kx_k hk 3 (by omega), ← (q.2.2.1 k hk).2.2.2]
    unfold swR
    rw [onF_bt]
    exact ite01a (bt01 _ _)
  · rw [pM_6, pR_6, ds_m6 m a b c d hp, ds_v6 m a b c d hp]
    exact ⟨RM_cp h o, (RM_cp h o).1 0 (by omega), mOk_cp o⟩
  · rw [pM_7, pR_7, ds_m7 m a b c d hp, ds_v7 m a b c d hp]
    exact ⟨RM_set h (by omega) 0, h.1 3 (by omega), mOk_lo o (by omega) 0 ⟨by omega, by omega, by omega, by omega, by omega, fun _ => Or.inr ⟨0, by omega, by omega, rfl⟩⟩⟩
  · rw [pM_8, pR_8, ds_m8 m a b c d hp, ds_v8 m a b c d hp]
    exact ⟨RM_mv h (mOk_lo o (by omega) 1000 ⟨by omega, by omega, by omega, by omega, fun _ => ⟨1000, by omega, by omega, rfl⟩, by omega⟩) a, h.1 5 (by omega), mOk_mv o ha⟩
  · rw [pM_9, pR_9, ds_m9 m a b c d hp, ds_v9 m a b c d hp, h.2.1]
    exact ⟨RM_ft h a (rg_01 hb), rfl, mOk_ft o ha (rg_01 hb)⟩
theorem ds_no {m : Nat → Int32} {w : Int32} (a b c d : Int32) (h : mv_ps m w = 0) : mr_ds m w a b c d = m := by unfold mr_ds; rw [if_pos h]
theorem mOk_ds {m : Nat → Int32} (o : mOk m) {w : Nat} {a b c d : Int32} (ha : aOk w a b c d) : mOk (mr_ds m (nI w) a b c d) := by
  by_cases hp : mv_ps m (nI w) = 0
  · rw [ds_no a b c d hp]; exact o
  · rcases ha with ⟨rfl, ha⟩ | ⟨rfl, ha⟩ | ⟨rfl, ha, hb⟩ | ⟨rfl, ha⟩ | ⟨rfl, ha, hb, hc, hd⟩ | ⟨rfl, ha⟩ | rfl | rfl | ⟨rfl, ha⟩ | ⟨rfl, ha, hb⟩
    · rw [ds_m0 m a b c d hp]; exact mOk_lo o (by omega) a ⟨fun _ => ha, by omega, by omega, by omega, by omega, by omega⟩
    · rw [ds_m1 m a b c d hp]; exact mOk_lo o (by omega) a ⟨fun _ => ha, by omega, by omega, by omega, by omega, by omega⟩
    · rw [ds_m2 m a b c d hp]; exact mOk_lo (mOk_lo o (by omega) a ⟨by omega, fun _ => ha, by omega, by omega, by omega, by omega⟩) (by omega) b ⟨by omega, by omega, fun _ => hb, by omega, by omega, by omega⟩
    · rw [ds_m3 m a b c d hp]; exact mOk_lo o (by omega) a ⟨by omega, by omega, by omega, fun _ => ha, by omega, by omega⟩
    · obtain ⟨k, hk, rfl⟩ := rg_k ha
      rw [ds_m4 m _ b c d hp]; exact mOk_ky o hk hb hc hd
    · obtain ⟨k, hk, rfl⟩ := rg_k ha
      rw [ds_m5 m _ b c d hp]; exact mOk_tg o hk
    · rw [ds_m6 m a b c d hp]; exact mOk_cp o
    · rw [ds_m7 m a b c d hp]; exact mOk_lo o (by omega) 0 ⟨by omega, by omega, by omega, by omega, by omega, fun _ => Or.inr ⟨0, by omega, by omega, rfl⟩⟩
    · rw [ds_m8 m a b c d hp]; exact mOk_mv o ha
    · rw [ds_m9 m a b c d hp]; exact mOk_ft o ha (rg_01 hb)
theorem aOk_k {w : Nat} {a b c d : Int32} (h : aOk w a b c d) : nI w = 4 ∨ nI w = 5 → kOk a := by
  intro hw
  have hw2 : w = 4 ∨ w = 5 := by
    have hlt : w < 2 ^ 31 := by rcases h with ⟨rfl, _⟩ | ⟨rfl, _⟩ | ⟨rfl, _⟩ | ⟨rfl, _⟩ | ⟨rfl, _⟩ | ⟨rfl, _⟩ | rfl | rfl | ⟨rfl, _⟩ | ⟨rfl, _⟩ <;> decide
    rcases hw with e | e
    · exact Or.inl (nI_inj hlt (by decide) (show nI w = nI 4 from e))
    · exact Or.inr (nI_inj hlt (by decide) (show nI w = nI 5 from e))
  rcases h with ⟨rfl, ha⟩ | ⟨rfl, ha⟩ | ⟨rfl, ha, hb⟩ | ⟨rfl, ha⟩ | ⟨rfl, ha, hb, hc, hd⟩ | ⟨rfl, ha⟩ | rfl | rfl | ⟨rfl, ha⟩ | ⟨rfl, ha, hb⟩
  · omega
  · omega
  · omega
  · omega
  · obtain ⟨k, hk, rfl⟩ := rg_k ha; exact vp_in_nI hk (by decide)
  · obtain ⟨k, hk, rfl⟩ := rg_k ha; exact vp_in_nI hk (by decide)
  · omega
  · omega
  · omega
  · omega
