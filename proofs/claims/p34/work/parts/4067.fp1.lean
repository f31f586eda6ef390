/-! what is faulty is at most the whole -/
theorem f1_c : FP.Core.val64 4696837146684686336 = .fin false 8589934592000000 (-33) := by decide +kernel
theorem f1_s (s : Bool) (c : Nat) : FP.Core.signed s c ≤ (c : Int) := by
  unfold FP.Core.signed
  cases s <;> simp <;> omega
theorem f1_v (K : Nat) (hK : K = 2 ^ (-FP.Core.b64.qmin).toNat) : FP.Core.zmag FP.Core.b64 (.fin false (2 ^ 52) (-52)) = K := by
  show 2 ^ 52 * 2 ^ ((-52 : Int) - FP.Core.b64.qmin).toNat = K
  rw [hK, ← Nat.pow_add]
  congr 1
theorem f1_le {f : Nat} (hf : f ≤ 1000000) : dvF (fyF (nI f)) ≤ 0 := by
  have hw : FP.Core.Whole (nI f).toInt (FP.Core.val64 (FP.i2d (nI f))) := FP.Core.i2d_int (nI f)
  have hfit := FP.Core.val64_fits (FP.i2d (nI f))
  obtain ⟨K, hK⟩ : ∃ K : Nat, K = 2 ^ (-FP.Core.b64.qmin).toNat := ⟨_, rfl⟩
  cases hv : FP.Core.val64 (FP.i2d (nI f)) with
  | nan => rw [hv] at hw; exact hw.elim
  | inf s => rw [hv] at hw; exact hw.elim
  | fin s c q =>
    rw [hv] at hw hfit
    have hz := FP.Core.whole_zval FP.Core.good_b64 hfit hw
    rw [nI_toInt (by omega), ← hK] at hz
    have hm : c * 2 ^ (q - FP.Core.b64.qmin).toNat = f * K := by
      have h1 : (FP.Core.signed s (c * 2 ^ (q - FP.Core.b64.qmin).toNat)).natAbs = ((f : Int) * (K : Int)).natAbs := congrArg Int.natAbs hz
      rw [FP.Core.natAbs_signed, Int.natAbs_mul] at h1
      exact h1
    have hq : FP.Core.val64 (fyF (nI f)) = FP.Core.roundRatio FP.Core.b64 (s != false) c 8589934592000000 (q - (-33)) := by
      unfold fyF
      rw [FP.Core.val64_ddiv, hv, f1_c]
      exact if_neg (t := if c = 0 then FP.Core.Datum.nan else FP.Core.Datum.inf (s != false)) (show ¬ (8589934592000000 : Nat) = 0 by decide)
    have hqm := hfit.2.1
    have hle : FP.Core.zmag FP.Core.b64 (FP.Core.val64 (fyF (nI f))) ≤ K := by
      rw [hq, ← f1_v K hK]
      refine FP.Core.zmag_roundRatio_le FP.Core.good_b64 (e0 := FP.Core.b64.qmin) (by decide) (by rw [← FP.Core.val64_dconst1]; exact FP.Core.val64_fits _) (fun h => by cases h) (Int.le_refl _) (by omega) ?_
      rw [f1_v K hK, Int.sub_self]
      show c * 2 ^ (q - (-33) - FP.Core.b64.qmin).toNat ≤ K * 2 ^ 0 * 8589934592000000
      rw [show (q - (-33) - FP.Core.b64.qmin).toNat = (q - FP.Core.b64.qmin).toNat + 33 by omega, Nat.pow_add, ← Nat.mul_assoc, hm]
      have h1 : f * K ≤ 1000000 * K := Nat.mul_le_mul_right K hf
      have h2 : f * K * 2 ^ 33 ≤ 1000000 * K * 2 ^ 33 := Nat.mul_le_mul_right _ h1
      have h3 : 1000000 * K * 2 ^ 33 = K * 2 ^ 0 * 8589934592000000 := by
        rw [Nat.pow_zero, Nat.mul_one, Nat.mul_comm 1000000 K, Nat.mul_assoc, show 1000000 * 2 ^ 33 = 8589934592000000 by decide]
      exact Nat.le_trans h2 (Nat.le_of_eq h3)
    have hn : FP.Core.val64 (fyF (nI f)) ≠ .nan := by
      rw [hq]
      rcases FP.Core.roundRatio_cases FP.Core.b64 (s != false) c 8589934592000000 (q - (-33)) with ⟨c', q', e⟩ | e <;> rw [e] <;> intro z <;> cases z
    have d1 : FP.Core.val64 FP.dconst1 = .fin false (2 ^ 52) (-52) := FP.Core.val64_dconst1
    have h1n : FP.Core.val64 FP.dconst1 ≠ .nan := by rw [d1]; intro z; cases z
    have hd := FP.Core.dcmp_zval hn h1n
    have hzy : FP.Core.zval FP.Core.b64 (FP.Core.val64 (fyF (nI f))) ≤ FP.Core.zval FP.Core.b64 (FP.Core.val64 FP.dconst1) := by
      refine Int.le_trans (f1_s _ _) ?_
      rw [d1]
      show _ ≤ ((FP.Core.zmag FP.Core.b64 (.fin false (2 ^ 52) (-52)) : Nat) : Int)
      rw [f1_v K hK]
      exact Int.ofNat_le.mpr hle
    unfold dvF
    rw [show FP.dcmp (fyF (nI f)) FP.dconst1 = _ from hd, FP.Core.compare_ite]
    split
    · decide
    · split
      · decide
      · omega
theorem so_f1 {J : Nat → Nat → Nat → Int32} (h : PJ J) : dvF (fyF (fpF (gt_paint (J 0) (J 5)) (J 0 0 9))) ≤ 0 := by
  obtain ⟨E, N, t, h⟩ := h
  rw [kv_fp h (J 5)]
  obtain ⟨f, hf, e⟩ := nn_fy (ls_n (kv_ok h) (fun _ => 0)) (fun k => bt ((rp E N (-1) t).1 19) k)
  rw [e]
  exact f1_le hf
