/-! the law's numbers -/
theorem nI_mod (a b : Nat) (ha : a < 2 ^ 31) (hb : b < 2 ^ 31) : nI a % nI b = nI (a % b) := by
  apply Int32.toInt_inj.mp
  rw [Int32.toInt_mod, nI_toInt ha, nI_toInt hb, nI_toInt (Nat.lt_of_le_of_lt (Nat.mod_le a b) ha)]
  exact (Int.ofNat_tmod a b).symm
theorem up_w (v : Int32) : ∃ w : Nat, w < 2 ^ 31 ∧ v &&& 2147483647 = nI w := by
  refine ⟨v.toBitVec.toNat % 2 ^ 31, Nat.mod_lt _ (by decide), ?_⟩
  apply Int32.toBitVec_inj.mp
  show v.toBitVec &&& 2147483647#32 = BitVec.ofNat 32 (v.toBitVec.toNat % 2 ^ 31)
  apply BitVec.eq_of_toNat_eq
  rw [BitVec.toNat_and]
  show v.toBitVec.toNat &&& (2 ^ 31 - 1) = _
  rw [Nat.and_two_pow_sub_one_eq_mod, BitVec.toNat_ofNat, Nat.mod_eq_of_lt (a := _ % 2 ^ 31) (by omega)]
theorem up_k (v : Int32) {m : Nat} (h0 : 0 < m) (h2 : m < 2 ^ 31) : ∃ j : Nat, j < m ∧ upF v (nI m) = nI j := by
  obtain ⟨w, hw, e⟩ := up_w v
  refine ⟨w % m, Nat.mod_lt _ h0, ?_⟩
  unfold upF
  rw [e, nI_mod w m hw h2]
theorem sk_ok {k : Nat} (hk : k < 10) : okS (nI k) := (show ∀ k, k < 10 → (¬ nI k < 0 ∧ nI k < 10) by decide +kernel) k hk
theorem sg_ok {k : Nat} (hk : k < 10) : okS (otF (nI k)) := by
  rw [(ot_sg k hk).1]; exact sk_ok (ot_sg k hk).2
theorem up_s (v : Int32) : ∃ j : Nat, j < 10 ∧ upF v 10 = nI j := up_k v (m := 10) (by decide) (by decide)
theorem up_S (v : Int32) : okS (upF v 10) := by
  obtain ⟨j, hj, e⟩ := up_s v
  rw [e]; exact sk_ok hj
theorem up_oS (v : Int32) : okS (otF (upF v 10)) := by
  obtain ⟨j, hj, e⟩ := up_s v
  rw [e]; exact sg_ok hj
theorem up_oB {q : Int32} (h : ¬ upF q 10 = 0) : okB (otF (upF q 10)) := by
  obtain ⟨j, hj, e⟩ := up_s q
  rw [e] at h ⊢
  rw [(ot_sg j hj).1]
  exact (show ∀ k, k < 10 → ¬ nI k = 0 → ¬ nI (sg k) = 0 by decide +kernel) j hj h
theorem up_K (v : Int32) : okK (upF v 3) := by
  obtain ⟨j, hj, e⟩ := up_k v (m := 3) (by decide) (by decide)
  rw [show upF v 3 = nI j from e]
  exact (show ∀ k, k < 3 → (¬ nI k < 0 ∧ nI k < 3) by decide +kernel) j hj
theorem up_R0 {m h : Nat} (v : Int32) (h0 : 0 < m) (h1 : m ≤ h + 1) (h2 : h < 2 ^ 30) : okR (upF v (nI m)) 0 (nI h) := by
  obtain ⟨j, hj, e⟩ := up_k v h0 (by omega)
  rw [e]
  exact ⟨nI_pos (by omega), nI_le (by omega) (by omega)⟩
theorem up_R1 {m h : Nat} (v : Int32) (h0 : 0 < m) (h1 : m ≤ h) (h2 : h < 2 ^ 30) : okR (1 + upF v (nI m)) 1 (nI h) := by
  obtain ⟨j, hj, e⟩ := up_k v h0 (by omega)
  rw [e, show (1 : Int32) + nI j = nI (1 + j) from nI_add 1 j]
  exact ⟨fun z => by
    have := (nI_ltI (a := 1 + j) (b := 1) (by omega) (by decide)).mp z
    omega, nI_le (by omega) (by omega)⟩
theorem sl_i {x n : Int32} (h1 : 1 ≤ x) (h2 : ¬ n ≤ x) (h3 : n ≤ 100) : 1 ≤ x + 1 := by
  have a := i_le.mp h1
  have b := i_le.mp h3
  have c : x.toInt < n.toInt := by
    have := mt i_le.mpr h2
    omega
  have e1 : (1 : Int32).toInt = 1 := by decide
  have e2 : (100 : Int32).toInt = 100 := by decide
  rw [i_le, Int32.toInt_add, e1]
  rw [e1] at a
  rw [e2] at b
  rw [Int.bmod_eq_of_le (by omega) (by omega)]
  omega
theorem sl_stop {J : Nat → Nat → Nat → Int32} (h : PJ J) : slC J (lw (slC J) slB 101 1) = false := by
  have h8 := pj_n8 h
  refine lw_stop (fun x : Int32 => ∃ k : Nat, k ≤ 101 ∧ x = nI k) (fun x => 101 - x.toNatClampNeg) ?_ ?_ 101 1 ⟨1, by omega, rfl⟩ (by decide)
  · rintro x ⟨k, hk, rfl⟩ hc
    refine ⟨k + 1, ?_, nI_1 k⟩
    unfold slC at hc
    split at hc
    · cases hc
    · rename_i z
      rcases Nat.lt_or_ge k 101 with q | q
      · omega
      · exact absurd (Int32.le_trans h8 (nI_le (a := 100) (b := k) (by omega) (by omega))) z
  · rintro x ⟨k, hk, rfl⟩ hc
    unfold slC at hc
    split at hc
    · cases hc
    · rename_i z
      have hk2 : k < 100 := by
        rcases Nat.lt_or_ge k 100 with q | q
        · exact q
        · exact absurd (Int32.le_trans h8 (nI_le (a := 100) (b := k) (by omega) (by omega))) z
      show 101 - (nI k + 1).toNatClampNeg < 101 - (nI k).toNatClampNeg
      rw [nI_1, nI_clamp (by omega), nI_clamp (by omega)]
      omega
