/-! a step keeps the relation -/
theorem aOk2 {w : Nat} {a b c d : Int32} (h : aOk w a b c d) : aOk w (a2 w a) (b2 w b) c d := by
  have s : ∀ {q : Int32}, rg q 0 9 → rg (otF q) 0 9 := fun {q} ⟨k, _, hk, e⟩ => by
    rw [e, (ot_sg k (by omega)).1]
    exact ⟨sg k, by omega, by have := (ot_sg k (by omega)).2; omega, rfl⟩
  have s1 : ∀ {q : Int32}, rg q 1 9 → rg (otF q) 1 9 := fun {q} ⟨k, h1, hk, e⟩ => by
    rw [e, (ot_sg k (by omega)).1]
    exact ⟨sg k, (show ∀ k, 1 ≤ k → k < 10 → 1 ≤ sg k from fun k h1 h => by unfold sg; rw [if_neg (by omega)]; omega) k h1 (by omega), by have := (ot_sg k (by omega)).2; omega, rfl⟩
  rcases h with ⟨rfl, h1⟩ | ⟨rfl, h1⟩ | ⟨rfl, h1, h2⟩ | ⟨rfl, h1⟩ | ⟨rfl, h1, h2, h3, h4⟩ | ⟨rfl, h1⟩ | rfl | rfl | ⟨rfl, h1⟩ | ⟨rfl, h1, h2⟩
  · exact Or.inl ⟨rfl, s h1⟩
  · exact Or.inr (Or.inl ⟨rfl, s h1⟩)
  · exact Or.inr (Or.inr (Or.inl ⟨rfl, h1, h2⟩))
  · exact Or.inr (Or.inr (Or.inr (Or.inl ⟨rfl, h1⟩)))
  · exact Or.inr (Or.inr (Or.inr (Or.inr (Or.inl ⟨rfl, h1, s h2, h3, h4⟩))))
  · exact Or.inr (Or.inr (Or.inr (Or.inr (Or.inr (Or.inl ⟨rfl, h1⟩)))))
  · exact Or.inr (Or.inr (Or.inr (Or.inr (Or.inr (Or.inr (Or.inl rfl))))))
  · exact Or.inr (Or.inr (Or.inr (Or.inr (Or.inr (Or.inr (Or.inr (Or.inl rfl)))))))
  · exact Or.inr (Or.inr (Or.inr (Or.inr (Or.inr (Or.inr (Or.inr (Or.inr (Or.inl ⟨rfl, h1⟩))))))))
  · exact Or.inr (Or.inr (Or.inr (Or.inr (Or.inr (Or.inr (Or.inr (Or.inr (Or.inr ⟨rfl, s1 h1, h2⟩))))))))
theorem sg_a {E F : Nat → Int32} {n : Nat} (S : SG E F n) {w : Nat} (hw : w < 10) (t a b c d : Int32) : SG (mr_la E n t (nI w) a b c d) (mr_la F n t (nI w) (a2 w a) (b2 w b) c d) (n + 1) := by
  intro i hi
  by_cases e : i < n
  · rw [la_lo F n _ _ _ _ _ _ (i := 6 * i) (by omega), la_lo E n _ _ _ _ _ _ (i := 6 * i) (by omega), la_lo F n _ _ _ _ _ _ (i := 6 * i + 1) (by omega), la_lo E n _ _ _ _ _ _ (i := 6 * i + 1) (by omega), la_lo F n _ _ _ _ _ _ (i := 6 * i + 2) (by omega), la_lo E n _ _ _ _ _ _ (i := 6 * i + 2) (by omega), la_lo F n _ _ _ _ _ _ (i := 6 * i + 3) (by omega), la_lo E n _ _ _ _ _ _ (i := 6 * i + 3) (by omega), la_lo F n _ _ _ _ _ _ (i := 6 * i + 4) (by omega), la_lo E n _ _ _ _ _ _ (i := 6 * i + 4) (by omega), la_lo F n _ _ _ _ _ _ (i := 6 * i + 5) (by omega), la_lo E n _ _ _ _ _ _ (i := 6 * i + 5) (by omega)]
    exact S i e
  · have hn : i = n := by omega
    subst hn
    obtain ⟨e0, e1, e2, e3, e4, e5⟩ := la_k E i t (nI w) a b c d
    obtain ⟨f0, f1, f2, f3, f4, f5⟩ := la_k F i t (nI w) (a2 w a) (b2 w b) c d
    have k0 := (show ∀ w, w < 10 → ((nI w = 0 ↔ w = 0) ∧ (nI w = 1 ↔ w = 1) ∧ (nI w = 9 ↔ w = 9) ∧ (nI w = 4 ↔ w = 4)) by decide +kernel) w hw
    rw [e0, e1, e2, e3, e4, e5, f0, f1, f2, f3, f4, f5]
    refine ⟨rfl, rfl, ?_, ?_, rfl, rfl⟩
    · unfold a2
      by_cases z : w = 0 ∨ w = 1 ∨ w = 9
      · rw [if_pos z, if_pos (z.imp k0.1.mpr (fun y => y.imp k0.2.1.mpr k0.2.2.1.mpr))]
      · rw [if_neg z, if_neg (fun y => z (y.imp k0.1.mp (fun y => y.imp k0.2.1.mp k0.2.2.1.mp)))]
    · unfold b2
      by_cases z : w = 4
      · rw [if_pos z, if_pos (k0.2.2.2.mpr z)]
      · rw [if_neg z, if_neg (fun y => z (k0.2.2.2.mp y))]
theorem fa_a {E : Nat → Int32} {n : Nat} (A : FA E) (h5 : 5 ≤ n) (t w a b c d : Int32) : FA (mr_la E n t w a b c d) := by
  have lo : ∀ i, i < 30 → mr_la E n t w a b c d i = E i := fun i hi => la_lo E n _ _ _ _ _ _ (by omega)
  obtain ⟨a0, a1, a2, a3, a4, a5⟩ := A
  refine ⟨fun i hi => (lo _ (by omega)).trans (a0 i hi), (lo 1 (by omega)).trans a1, (lo 2 (by omega)).trans a2, (lo 7 (by omega)).trans a3, (lo 8 (by omega)).trans a4, fun j hj => ?_⟩
  obtain ⟨b1, b2, b3, b4, b5⟩ := a5 j hj
  exact ⟨(lo _ (by omega)).trans b1, (lo _ (by omega)).trans b2, (lo _ (by omega)).trans b3, (lo _ (by omega)).trans b4, (lo _ (by omega)).trans b5⟩
theorem rr_en {J N : Nat → Nat → Nat → Int32} {n τ : Nat} (hR : RR J N n τ) (hn : n < 100) {w : Nat} {a b c d : Int32} (ha : aOk w a b c d) (h1 : okM J (nI w)) (h2 : okM N (nI w)) : RR (vm_enact J (nI w) a b c d) (vm_enact N (nI w) (a2 w a) (b2 w b) c d) (n + 1) τ := by
  obtain ⟨E, F, p, t, k1, k2, S, A, h5, hp, hτ⟩ := hR
  exact ⟨_, _, p + 1, t, (kv_en k1 ha h1 (by omega)).2, (kv_en k2 (aOk2 ha) h2 (by omega)).2, sg_a S (aOk_10 ha) _ _ _ _ _, fa_a A h5 _ _ _ _ _ _, by omega, by omega, hτ⟩
theorem rr_ps {J N : Nat → Nat → Nat → Int32} {n τ : Nat} (hR : RR J N n τ) (ht : τ + 30 ≤ 5000) {f : Nat} (hf : f < 30) : RR (vm_pass J (nI f)) (vm_pass N (nI f)) (n + 1) (τ + 30) := by
  obtain ⟨E, F, p, t, k1, k2, S, A, h5, hp, hτ⟩ := hR
  exact ⟨E, F, p, t + f, (kv_ps k1 (by omega) (by omega)).2, (kv_ps k2 (by omega) (by omega)).2, S, A, h5, by omega, by omega⟩
theorem rr_mo {J N : Nat → Nat → Nat → Int32} {n τ n' τ' : Nat} (hR : RR J N n τ) (h1 : n ≤ n') (h2 : τ ≤ τ') : RR J N n' τ' := by
  obtain ⟨E, F, p, t, k1, k2, S, A, h5, hp, hτ⟩ := hR
  exact ⟨E, F, p, t, k1, k2, S, A, h5, by omega, by omega⟩
