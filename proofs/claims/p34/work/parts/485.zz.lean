theorem se_o (X : Nat → Nat → Nat → Int32) : soE X 0 = X 0 ∧ soE X 3 = X 3 ∧ soE X 7 = X 7 := ⟨rfl, rfl, rfl⟩
theorem so_t0 {J : Nat → Nat → Nat → Int32} (h : PJ J) {k : Int32} (hk : okK k) : ¬ perfR (J 0) 5 k (-1) (-1) (-1) < 0 := by
  obtain ⟨E, N, t, h⟩ := h
  obtain ⟨j, -, hj, rfl⟩ := okK_rg hk
  have p : ¬ mv_ps (rp E N (-1) t).1 (nI 5) = 0 := by rw [ps_1 _ (by decide) (by decide) (by decide)]; decide
  have ao : aOk 5 (nI j) (-1) (-1) (-1) := Or.inr (Or.inr (Or.inr (Or.inr (Or.inr (Or.inl ⟨rfl, ⟨j, by omega, by omega, rfl⟩⟩)))))
  have e1 := (RM_ds (kv_d h).2.2.1 (kv_ok h) ao p).2.1
  rw [ds_v5 _ _ _ _ _ p, kx3 (show j < 3 by omega), tg_at _ (show j < 3 by omega), if_pos rfl] at e1
  have e2 : perfR (J 0) 5 (nI j) (-1) (-1) (-1) = _ := e1
  rw [e2]
  obtain ⟨z, -, hz, ez⟩ := rg_1m ((kv_ok h).2.2.2.2.2.2.2.1 j (by omega)).2.2.2
  rw [ez]; exact nI_pos (by omega)
theorem so_c0 {J : Nat → Nat → Nat → Int32} (h : PJ J) : ¬ perfR (J 0) 6 (-1) (-1) (-1) (-1) < 0 := by
  obtain ⟨E, N, t, h⟩ := h
  have x : ∀ M : Nat → Nat → Int32, perfR M 6 (-1) (-1) (-1) (-1) = gt_complete M 0 0 := fun M => pR_6 M _ _ _ _
  rw [x, (RM_cp (kv_d h).2.2.1 (kv_ok h)).1 0 (by omega)]
  obtain ⟨z, -, hz, ez⟩ := (mOk_cp (kv_ok h)).1
  rw [ez]; exact nI_pos (by omega)
def lgO : Nat → Int32 := mr_la (mr_la (mr_la (mr_la (mr_la (fun _ => 0) 0 (nI 0) (nI 0) 1 (-1) (-1) (-1)) 1 (nI 0) (nI 1) 2 (-1) (-1) (-1)) 2 (nI 0) (nI 4) 0 (3 + 0) 100 25) 3 (nI 0) (nI 4) 1 (3 + 1) 100 25) 4 (nI 0) (nI 4) 2 (3 + 2) 100 25
def lgP : Nat → Int32 := mr_la (mr_la (mr_la (mr_la (mr_la (fun _ => 0) 0 (nI 0) (nI 0) 2 (-1) (-1) (-1)) 1 (nI 0) (nI 1) 3 (-1) (-1) (-1)) 2 (nI 0) (nI 4) 0 (4 + 0) 100 25) 3 (nI 0) (nI 4) 1 (4 + 1) 100 25) 4 (nI 0) (nI 4) 2 (4 + 2) 100 25
theorem kv_0 : KV vm0 (fun _ => 0) 0 0 := kv_of c2_init (by omega) (by omega) rfl rfl rfl rfl
theorem ao_k {j f : Nat} (hj : j ≤ 2) (hf : f ≤ 9) : aOk 4 (nI j) (nI f) 100 25 := Or.inr (Or.inr (Or.inr (Or.inr (Or.inl ⟨rfl, ⟨j, by omega, hj, rfl⟩, ⟨f, by omega, hf, rfl⟩, ⟨100, by omega, by omega, rfl⟩, ⟨25, by omega, by omega, rfl⟩⟩))))
theorem kv_o5 : KV (vm_enact (vm_enact (vm_enact (vm_enact (vm_enact vm0 0 1 (-1) (-1) (-1)) 1 2 (-1) (-1) (-1)) 4 0 ((3 : Int32) + 0) 100 25) 4 1 ((3 : Int32) + 1) 100 25) 4 2 ((3 : Int32) + 2) 100 25) lgO 5 0 := by
  have k1 := (kv_en kv_0 (w := 0) (a := 1) (b := (-1)) (c := (-1)) (d := (-1)) (Or.inl ⟨rfl, ⟨1, by omega, by omega, rfl⟩⟩) (show ¬ myF vm0 0 = 0 by decide +kernel) (by omega)).2
  have k2 := (kv_en k1 (w := 1) (a := 2) (b := (-1)) (c := (-1)) (d := (-1)) (Or.inr (Or.inl ⟨rfl, ⟨2, by omega, by omega, rfl⟩⟩)) (show ¬ myF (vm_enact vm0 0 1 (-1) (-1) (-1)) 1 = 0 by decide +kernel) (by omega)).2
  have k3 := (kv_en k2 (w := 4) (a := 0) (b := ((3 : Int32) + 0)) (c := 100) (d := 25) (ao_k (j := 0) (f := 3) (by omega) (by omega)) (show ¬ myF (vm_enact (vm_enact vm0 0 1 (-1) (-1) (-1)) 1 2 (-1) (-1) (-1)) 4 = 0 by decide +kernel) (by omega)).2
  have k4 := (kv_en k3 (w := 4) (a := 1) (b := ((3 : Int32) + 1)) (c := 100) (d := 25) (ao_k (j := 1) (f := 4) (by omega) (by omega)) (show ¬ myF (vm_enact (vm_enact (vm_enact vm0 0 1 (-1) (-1) (-1)) 1 2 (-1) (-1) (-1)) 4 0 ((3 : Int32) + 0) 100 25) 4 = 0 by decide +kernel) (by omega)).2
  have k5 := (kv_en k4 (w := 4) (a := 2) (b := ((3 : Int32) + 2)) (c := 100) (d := 25) (ao_k (j := 2) (f := 5) (by omega) (by omega)) (show ¬ myF (vm_enact (vm_enact (vm_enact (vm_enact vm0 0 1 (-1) (-1) (-1)) 1 2 (-1) (-1) (-1)) 4 0 ((3 : Int32) + 0) 100 25) 4 1 ((3 : Int32) + 1) 100 25) 4 = 0 by decide +kernel) (by omega)).2
  exact k5
theorem kv_p5 : KV (vm_enact (vm_enact (vm_enact (vm_enact (vm_enact vm0 0 2 (-1) (-1) (-1)) 1 3 (-1) (-1) (-1)) 4 0 ((4 : Int32) + 0) 100 25) 4 1 ((4 : Int32) + 1) 100 25) 4 2 ((4 : Int32) + 2) 100 25) lgP 5 0 := by
  have k1 := (kv_en kv_0 (w := 0) (a := 2) (b := (-1)) (c := (-1)) (d := (-1)) (Or.inl ⟨rfl, ⟨2, by omega, by omega, rfl⟩⟩) (show ¬ myF vm0 0 = 0 by decide +kernel) (by omega)).2
  have k2 := (kv_en k1 (w := 1) (a := 3) (b := (-1)) (c := (-1)) (d := (-1)) (Or.inr (Or.inl ⟨rfl, ⟨3, by omega, by omega, rfl⟩⟩)) (show ¬ myF (vm_enact vm0 0 2 (-1) (-1) (-1)) 1 = 0 by decide +kernel) (by omega)).2
  have k3 := (kv_en k2 (w := 4) (a := 0) (b := ((4 : Int32) + 0)) (c := 100) (d := 25) (ao_k (j := 0) (f := 4) (by omega) (by omega)) (show ¬ myF (vm_enact (vm_enact vm0 0 2 (-1) (-1) (-1)) 1 3 (-1) (-1) (-1)) 4 = 0 by decide +kernel) (by omega)).2
  have k4 := (kv_en k3 (w := 4) (a := 1) (b := ((4 : Int32) + 1)) (c := 100) (d := 25) (ao_k (j := 1) (f := 5) (by omega) (by omega)) (show ¬ myF (vm_enact (vm_enact (vm_enact vm0 0 2 (-1) (-1) (-1)) 1 3 (-1) (-1) (-1)) 4 0 ((4 : Int32) + 0) 100 25) 4 = 0 by decide +kernel) (by omega)).2
  have k5 := (kv_en k4 (w := 4) (a := 2) (b := ((4 : Int32) + 2)) (c := 100) (d := 25) (ao_k (j := 2) (f := 6) (by omega) (by omega)) (show ¬ myF (vm_enact (vm_enact (vm_enact (vm_enact vm0 0 2 (-1) (-1) (-1)) 1 3 (-1) (-1) (-1)) 4 0 ((4 : Int32) + 0) 100 25) 4 1 ((4 : Int32) + 1) 100 25) 4 = 0 by decide +kernel) (by omega)).2
  exact k5
theorem rr_0 : RR (vm_enact (vm_enact (vm_enact (vm_enact (vm_enact vm0 0 1 (-1) (-1) (-1)) 1 2 (-1) (-1) (-1)) 4 0 ((3 : Int32) + 0) 100 25) 4 1 ((3 : Int32) + 1) 100 25) 4 2 ((3 : Int32) + 2) 100 25) (vm_enact (vm_enact (vm_enact (vm_enact (vm_enact vm0 0 2 (-1) (-1) (-1)) 1 3 (-1) (-1) (-1)) 4 0 ((4 : Int32) + 0) 100 25) 4 1 ((4 : Int32) + 1) 100 25) 4 2 ((4 : Int32) + 2) 100 25) 5 0 := by
  refine ⟨lgO, lgP, 5, 0, kv_o5, kv_p5, ?_, ?_, by omega, by omega, by omega⟩
  · unfold SG; decide +kernel
  · unfold FA; decide +kernel
