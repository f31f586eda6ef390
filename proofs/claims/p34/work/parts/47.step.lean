set_option maxHeartbeats 4000000 in
set_option maxRecDepth 100000 in
theorem step_all (l : Launch) (D : va_G) {cI : ClassId} {tys : List (ClassId × FieldType)} (ht0 : tys[0]? = some (cI, .int)) (aJ : Nat → Nat) (J : Nat → Nat → Nat → Int32) (aN : Nat → Nat) (N : Nat → Nat → Nat → Int32) (x : Int32) {n τ : Nat} (hR : RR J N n τ) (hn : n < 100) (ht : τ + 30 ≤ 5000) : ∃ J' N' : Nat → Nat → Nat → Int32, RR J' N' (n + 1) (τ + 30) ∧ ∀ sz, kI l yL_isStep cL_isStep 5 (some .boolean) { frames := 9, cells := 0, slots := 0, locals := 152 } D tys [.ref (aJ 0), .ref (aN 0), .int x] (wVM cI aJ J ++ (wVM cI aN N)) (wVM cI aJ J' ++ (wVM cI aN N')) 1 0 0 sz := by
  obtain ⟨j, hj, e⟩ := up_k x (m := 11) (by decide) (by decide)
  rcases (show j = 0 ∨ j = 1 ∨ j = 2 ∨ j = 3 ∨ j = 4 ∨ j = 5 ∨ j = 6 ∨ j = 7 ∨ j = 8 ∨ j = 9 ∨ j = 10 by omega) with rfl | rfl | rfl | rfl | rfl | rfl | rfl | rfl | rfl | rfl | rfl
  · refine ⟨(vm_enact J 0 (upF (x >>> (4 &&& 31)) 10) (-1) (-1) (-1)), (vm_enact N 0 (otF (upF (x >>> (4 &&& 31)) 10)) (-1) (-1) (-1)), ?_, fun sz => k_L_isStep_0 l D ht0 aJ J aN N x hR hn ht e sz⟩
    exact rr_mo (rr_en hR hn (w := 0) (a := (upF (x >>> (4 &&& 31)) 10)) (b := (-1)) (c := (-1)) (d := (-1)) (Or.inl ⟨rfl, okS_rg (up_S _)⟩) (rr_okM hR hn 0 (by decide) (by decide) (by decide)).1 (rr_okM hR hn 0 (by decide) (by decide) (by decide)).2) (Nat.le_refl _) (Nat.le_add_right _ _)
  · refine ⟨(vm_enact J 1 (upF (x >>> (4 &&& 31)) 10) (-1) (-1) (-1)), (vm_enact N 1 (otF (upF (x >>> (4 &&& 31)) 10)) (-1) (-1) (-1)), ?_, fun sz => k_L_isStep_1 l D ht0 aJ J aN N x hR hn ht e sz⟩
    exact rr_mo (rr_en hR hn (w := 1) (a := (upF (x >>> (4 &&& 31)) 10)) (b := (-1)) (c := (-1)) (d := (-1)) (Or.inr (Or.inl ⟨rfl, okS_rg (up_S _)⟩)) (rr_okM hR hn 1 (by decide) (by decide) (by decide)).1 (rr_okM hR hn 1 (by decide) (by decide) (by decide)).2) (Nat.le_refl _) (Nat.le_add_right _ _)
  · refine ⟨(vm_enact J 2 (upF (x >>> (4 &&& 31)) 3) ((1 : Int32) + (upF (x >>> (6 &&& 31)) 40)) (-1) (-1)), (vm_enact N 2 (upF (x >>> (4 &&& 31)) 3) ((1 : Int32) + (upF (x >>> (6 &&& 31)) 40)) (-1) (-1)), ?_, fun sz => k_L_isStep_2 l D ht0 aJ J aN N x hR hn ht e sz⟩
    exact rr_mo (rr_en hR hn (w := 2) (a := (upF (x >>> (4 &&& 31)) 3)) (b := ((1 : Int32) + (upF (x >>> (6 &&& 31)) 40))) (c := (-1)) (d := (-1)) (Or.inr (Or.inr (Or.inl ⟨rfl, okK_rg (up_K _), (okR_rg (a := 1) (b := 100) (by decide) (by decide) (up_R1 (m := 40) (h := 100) _ (by decide) (by decide) (by decide)))⟩))) (rr_okM hR hn 2 (by decide) (by decide) (by decide)).1 (rr_okM hR hn 2 (by decide) (by decide) (by decide)).2) (Nat.le_refl _) (Nat.le_add_right _ _)
  · refine ⟨(if stF0 J = 0 then J else (vm_enact J 3 (upF (x >>> (4 &&& 31)) 16) (-1) (-1) (-1))), (if stF0 J = 0 then N else (vm_enact N 3 (upF (x >>> (4 &&& 31)) 16) (-1) (-1) (-1))), ?_, fun sz => k_L_isStep_3 l D ht0 aJ J aN N x hR hn ht e sz⟩
    by_cases h : stF0 J = 0
    · rw [if_pos h, if_pos h]; exact rr_mo hR (Nat.le_succ _) (Nat.le_add_right _ _)
    · rw [if_neg h, if_neg h]
      exact rr_mo (rr_en hR hn (w := 3) (a := (upF (x >>> (4 &&& 31)) 16)) (b := (-1)) (c := (-1)) (d := (-1)) (Or.inr (Or.inr (Or.inr (Or.inl ⟨rfl, (okR_rg (a := 0) (b := 15) (by decide) (by decide) (up_R0 (m := 16) (h := 15) _ (by decide) (by decide) (by decide)))⟩)))) (rr_ok3 hR hn h).1 (rr_ok3 hR hn h).2) (Nat.le_refl _) (Nat.le_add_right _ _)
  · refine ⟨(vm_enact J 4 (upF (x >>> (4 &&& 31)) 3) (upF (x >>> (6 &&& 31)) 10) (upF (x >>> (10 &&& 31)) 101) ((1 : Int32) + (upF (x >>> (12 &&& 31)) 100))), (vm_enact N 4 (upF (x >>> (4 &&& 31)) 3) (otF (upF (x >>> (6 &&& 31)) 10)) (upF (x >>> (10 &&& 31)) 101) ((1 : Int32) + (upF (x >>> (12 &&& 31)) 100))), ?_, fun sz => k_L_isStep_4 l D ht0 aJ J aN N x hR hn ht e sz⟩
    exact rr_mo (rr_en hR hn (w := 4) (a := (upF (x >>> (4 &&& 31)) 3)) (b := (upF (x >>> (6 &&& 31)) 10)) (c := (upF (x >>> (10 &&& 31)) 101)) (d := ((1 : Int32) + (upF (x >>> (12 &&& 31)) 100))) (Or.inr (Or.inr (Or.inr (Or.inr (Or.inl ⟨rfl, okK_rg (up_K _), okS_rg (up_S _), (okR_rg (a := 0) (b := 100) (by decide) (by decide) (up_R0 (m := 101) (h := 100) _ (by decide) (by decide) (by decide))), (okR_rg (a := 1) (b := 100) (by decide) (by decide) (up_R1 (m := 100) (h := 100) _ (by decide) (by decide) (by decide)))⟩))))) (rr_okM hR hn 4 (by decide) (by decide) (by decide)).1 (rr_okM hR hn 4 (by decide) (by decide) (by decide)).2) (Nat.le_refl _) (Nat.le_add_right _ _)
  · refine ⟨(vm_enact J 5 (upF (x >>> (4 &&& 31)) 3) (-1) (-1) (-1)), (vm_enact N 5 (upF (x >>> (4 &&& 31)) 3) (-1) (-1) (-1)), ?_, fun sz => k_L_isStep_5 l D ht0 aJ J aN N x hR hn ht e sz⟩
    exact rr_mo (rr_en hR hn (w := 5) (a := (upF (x >>> (4 &&& 31)) 3)) (b := (-1)) (c := (-1)) (d := (-1)) (Or.inr (Or.inr (Or.inr (Or.inr (Or.inr (Or.inl ⟨rfl, okK_rg (up_K _)⟩)))))) (rr_okM hR hn 5 (by decide) (by decide) (by decide)).1 (rr_okM hR hn 5 (by decide) (by decide) (by decide)).2) (Nat.le_refl _) (Nat.le_add_right _ _)
  · refine ⟨(if (0 : Int32) < (x >>> (4 &&& 31)) &&& 3 then J else (vm_enact J 6 (-1) (-1) (-1) (-1))), (if (0 : Int32) < (x >>> (4 &&& 31)) &&& 3 then N else (vm_enact N 6 (-1) (-1) (-1) (-1))), ?_, fun sz => k_L_isStep_6 l D ht0 aJ J aN N x hR hn ht e sz⟩
    by_cases h : (0 : Int32) < (x >>> (4 &&& 31)) &&& 3
    · rw [if_pos h, if_pos h]; exact rr_mo hR (Nat.le_succ _) (Nat.le_add_right _ _)
    · rw [if_neg h, if_neg h]
      exact rr_mo (rr_en hR hn (w := 6) (a := (-1)) (b := (-1)) (c := (-1)) (d := (-1)) (Or.inr (Or.inr (Or.inr (Or.inr (Or.inr (Or.inr (Or.inl rfl))))))) (rr_okM hR hn 6 (by decide) (by decide) (by decide)).1 (rr_okM hR hn 6 (by decide) (by decide) (by decide)).2) (Nat.le_refl _) (Nat.le_add_right _ _)
  · refine ⟨(if stF0 J = 0 then J else (vm_enact J 7 (-1) (-1) (-1) (-1))), (if stF0 J = 0 then N else (vm_enact N 7 (-1) (-1) (-1) (-1))), ?_, fun sz => k_L_isStep_7 l D ht0 aJ J aN N x hR hn ht e sz⟩
    by_cases h : stF0 J = 0
    · rw [if_pos h, if_pos h]; exact rr_mo hR (Nat.le_succ _) (Nat.le_add_right _ _)
    · rw [if_neg h, if_neg h]
      exact rr_mo (rr_en hR hn (w := 7) (a := (-1)) (b := (-1)) (c := (-1)) (d := (-1)) (Or.inr (Or.inr (Or.inr (Or.inr (Or.inr (Or.inr (Or.inr (Or.inl rfl)))))))) (rr_ok7 hR hn h).1 (rr_ok7 hR hn h).2) (Nat.le_refl _) (Nat.le_add_right _ _)
  · refine ⟨(if 0 ≤ psF J 6 then J else (vm_enact J 8 (upF (x >>> (4 &&& 31)) 1001) (-1) (-1) (-1))), (if 0 ≤ psF J 6 then N else (vm_enact N 8 (upF (x >>> (4 &&& 31)) 1001) (-1) (-1) (-1))), ?_, fun sz => k_L_isStep_8 l D ht0 aJ J aN N x hR hn ht e sz⟩
    by_cases h : 0 ≤ psF J 6
    · rw [if_pos h, if_pos h]; exact rr_mo hR (Nat.le_succ _) (Nat.le_add_right _ _)
    · rw [if_neg h, if_neg h]
      exact rr_mo (rr_en hR hn (w := 8) (a := (upF (x >>> (4 &&& 31)) 1001)) (b := (-1)) (c := (-1)) (d := (-1)) (Or.inr (Or.inr (Or.inr (Or.inr (Or.inr (Or.inr (Or.inr (Or.inr (Or.inl ⟨rfl, (okR_rg (a := 0) (b := 1000) (by decide) (by decide) (up_R0 (m := 1001) (h := 1000) _ (by decide) (by decide) (by decide)))⟩))))))))) (rr_ok8 hR hn h).1 (rr_ok8 hR hn h).2) (Nat.le_refl _) (Nat.le_add_right _ _)
  · refine ⟨(if (upF (x >>> (4 &&& 31)) 10) = 0 then J else (vm_enact J 9 (upF (x >>> (4 &&& 31)) 10) (if (x >>> (9 &&& 31)) &&& 1 = 0 then (nzF 1) else (nzF 0)) (-1) (-1))), (if (upF (x >>> (4 &&& 31)) 10) = 0 then N else (vm_enact N 9 (otF (upF (x >>> (4 &&& 31)) 10)) (if (x >>> (9 &&& 31)) &&& 1 = 0 then (nzF 1) else (nzF 0)) (-1) (-1))), ?_, fun sz => k_L_isStep_9 l D ht0 aJ J aN N x hR hn ht e sz⟩
    by_cases h : (upF (x >>> (4 &&& 31)) 10) = 0
    · rw [if_pos h, if_pos h]; exact rr_mo hR (Nat.le_succ _) (Nat.le_add_right _ _)
    · rw [if_neg h, if_neg h]
      have hb : rg (upF (x >>> (4 &&& 31)) 10) 1 9 := by
        obtain ⟨q, hq, eq⟩ := up_s (x >>> (4 &&& 31))
        rw [eq] at h ⊢
        exact ⟨q, by rcases Nat.eq_zero_or_pos q with z | z; exact absurd (by rw [z]; rfl) h; exact z, by omega, rfl⟩
      have hf : rg (if (x >>> (9 &&& 31)) &&& 1 = 0 then (nzF 1) else (nzF 0)) 0 1 := by split <;> exact nz_rg _
      exact rr_mo (rr_en hR hn (w := 9) (a := (upF (x >>> (4 &&& 31)) 10)) (b := (if (x >>> (9 &&& 31)) &&& 1 = 0 then (nzF 1) else (nzF 0))) (c := (-1)) (d := (-1)) (Or.inr (Or.inr (Or.inr (Or.inr (Or.inr (Or.inr (Or.inr (Or.inr (Or.inr (⟨rfl, hb, hf⟩)))))))))) (rr_okM hR hn 9 (by decide) (by decide) (by decide)).1 (rr_okM hR hn 9 (by decide) (by decide) (by decide)).2) (Nat.le_refl _) (Nat.le_add_right _ _)
  · refine ⟨(vm_pass J (upF (x >>> (4 &&& 31)) 30)), (vm_pass N (upF (x >>> (4 &&& 31)) 30)), ?_, fun sz => k_L_isStep_10 l D ht0 aJ J aN N x hR hn ht e sz⟩
    obtain ⟨q, hq, eq⟩ := up_k (x >>> (4 &&& 31)) (m := 30) (by decide) (by decide)
    have eq2 : (upF (x >>> (4 &&& 31)) 30) = nI q := eq
    rw [eq2]
    exact rr_ps hR ht hq
