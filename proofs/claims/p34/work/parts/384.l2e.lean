/-! level 2: the other logged acts, the pass of time -/
theorem hm_1 {J : Nat → Nat → Nat → Int32} {S : Nat → Nat → Int32} (I : Inv J S) {w : Int32} (h : okM J w) : mv_hr (S 0 1) = 1 ∧ mv_ps (S 1) w = 1 ∧ mv_an (mv_hr (S 0 1)) (mv_ps (S 1) w) = 1 := by
  obtain ⟨a, b⟩ := (hr_ok I w).1.mp h
  have c := (ps_01 (S 1) w).resolve_left b
  rw [a, c]
  exact ⟨rfl, rfl, by decide⟩
theorem hm_0 {J : Nat → Nat → Nat → Int32} {S : Nat → Nat → Int32} (I : Inv J S) {w : Int32} (h : ¬ okM J w) : mv_an (mv_hr (S 0 1)) (mv_ps (S 1) w) = 0 ∧ (¬ w = 3 → ¬ w = 7 → ¬ w = 8 → mv_hr (S 0 1) = 0) := by
  obtain ⟨q, r⟩ := hr_ok I w
  have hn : ¬ (mv_hr (S 0 1) = 1 ∧ ¬ mv_ps (S 1) w = 0) := fun z => h (q.mpr z)
  refine ⟨?_, fun h3 h7 h8 => r.resolve_right (fun z => hn ⟨z, by rw [ps_1 _ h3 h7 h8]; decide⟩)⟩
  rcases r with e | e
  · rw [e]; rfl
  · rcases ps_01 (S 1) w with p | p
    · rw [e, p]; decide
    · exact absurd ⟨e, by rw [p]; decide⟩ hn
theorem an_0 (b : Int32) : mv_an 0 b = 0 := rfl
theorem gf_1 (b c : Int32) : mv_gf 0 b c = 1 := rfl
theorem gf_2 (c : Int32) : mv_gf 1 0 c = 2 := rfl
theorem gf_3 : mv_gf 1 1 0 = 3 := by decide
theorem gf_0 : mv_gf 1 1 1 = 0 := by decide
theorem go_1 (b c : Int32) : mv_go 0 b c = 0 := rfl
theorem go_2 (c : Int32) : mv_go 1 0 c = 0 := rfl
theorem go_3 : mv_go 1 1 0 = 0 := by decide
theorem go_0 : mv_go 1 1 1 = 1 := by decide
theorem an_11 : mv_an 1 1 = 1 := by decide
theorem an_10 : mv_an 1 0 = 0 := by decide
theorem okF_R (q : Int32) : okS q ∧ okB q ↔ okR q 1 9 := by
  unfold okS okB okR
  rw [i_nlt, i_nlt, Int32.lt_iff_toInt_lt (x := q) (y := 10), i_le, show (10 : Int32).toInt = 10 by decide, show (9 : Int32).toInt = 9 by decide, show (1 : Int32).toInt = 1 by decide, show (0 : Int32).toInt = 0 by decide, ← Int32.toInt_inj, show (0 : Int32).toInt = 0 by decide]
  constructor
  · intro h; omega
  · intro h; omega
theorem nz_rg (z : Int32) : rg (nzF z) 0 1 := by
  unfold nzF
  split
  · exact ⟨0, by omega, by omega, rfl⟩
  · exact ⟨1, by omega, by omega, rfl⟩
theorem frk_r (m : Nat → Int32) (r s : Int32) : ∀ n : Nat, (frk n (m, r)).1 = (frk n (m, s)).1
  | 0 => rfl
  | n + 1 => by show mr_fr _ = mr_fr _; rw [frk_r m r s n]

theorem c2_preview {J : Nat → Nat → Nat → Int32} {S : Nat → Nat → Int32} (I : Inv J S) (q : Int32) : (¬ (S 0 1) < 0) ∧ (((okS q) ∧ (okM J 1) ∧ (mc_preview S q) 0 2 = 0 ∧ perfR (J 0) 1 q (-1) (-1) (-1) = (if mv_go (mv_is q) (mv_hr (S 0 1)) 1 = 0 then 0 else mv_ds (S 1) 1 q (-1) (-1) (-1)) ∧ Inv (vm_enact J 1 q (-1) (-1) (-1)) (mc_preview S q)) ∨ (¬ (okS q) ∧ (mc_preview S q) 0 2 = 1 ∧ Inv J (mc_preview S q)) ∨ ((okS q) ∧ ¬ (okM J 1) ∧ (mc_preview S q) 0 2 = 2 ∧ Inv J (mc_preview S q))) := by
  refine ⟨(inv_n0 I).1, ?_⟩
  have r : (mc_preview S q) 0 2 = mv_gf (mv_is q) (mv_hr (S 0 1)) (1) := rfl
  have em : (mc_preview S q) = mo_log S (mv_is q) (mv_hr (S 0 1)) (1) 1 q (-1) (-1) (-1) := rfl
  by_cases h0 : okS q
  · have e0 : mv_is q = 1 := is_1 h0
    by_cases hm : okM J 1
    · obtain ⟨m1, m2, m3⟩ := hm_1 I hm
      have hg : ¬ mv_go (mv_is q) (mv_hr (S 0 1)) (1) = 0 := by
        rw [e0, m1]
        decide
      obtain ⟨x, y⟩ := log_eq I (w := 1) (a := q) (b := (-1)) (c := (-1)) (d := (-1)) (Or.inr (Or.inl ⟨rfl, okS_rg h0⟩)) hm hg
      left
      refine ⟨h0, hm, ?_, ?_, ?_⟩
      · rw [r, e0, m1]; decide
      · rw [if_neg hg]; exact x
      · rw [em]; exact y
    · obtain ⟨m3, m0⟩ := hm_0 I hm
      have m1 := m0 (by decide) (by decide) (by decide)
      right
      right
      refine ⟨h0, hm, ?_, ?_⟩
      · rw [r, e0, m1]; decide
      · rw [em]; exact log_no I (by rw [e0, m1]; decide)
  · have e0 : mv_is q = 0 := is_0 h0
    right
    left
    refine ⟨h0, ?_, ?_⟩
    · rw [r, e0]; rfl
    · rw [em]; exact log_no I (by rw [e0]; rfl)
theorem c2_transition {J : Nat → Nat → Nat → Int32} {S : Nat → Nat → Int32} (I : Inv J S) (k : Int32) (ra : Int32) : (¬ (S 0 1) < 0) ∧ (((okR k 0 2) ∧ (okR ra 1 100) ∧ (okM J 2) ∧ (mc_transition S k ra) 0 2 = 0 ∧ perfR (J 0) 2 k ra (-1) (-1) = (if mv_go (mv_an (mv_in (Int32.toInt64 k) 0 2) (mv_in (Int32.toInt64 ra) 1 100)) (mv_hr (S 0 1)) 1 = 0 then 0 else mv_ds (S 1) 2 k ra (-1) (-1)) ∧ Inv (vm_enact J 2 k ra (-1) (-1)) (mc_transition S k ra)) ∨ (¬ (okR k 0 2) ∧ (mc_transition S k ra) 0 2 = 1 ∧ Inv J (mc_transition S k ra)) ∨ ((okR k 0 2) ∧ ¬ (okR ra 1 100) ∧ (mc_transition S k ra) 0 2 = 1 ∧ Inv J (mc_transition S k ra)) ∨ ((okR k 0 2) ∧ (okR ra 1 100) ∧ ¬ (okM J 2) ∧ (mc_transition S k ra) 0 2 = 2 ∧ Inv J (mc_transition S k ra))) := by
  refine ⟨(inv_n0 I).1, ?_⟩
  have r : (mc_transition S k ra) 0 2 = mv_gf (mv_an (mv_in (Int32.toInt64 k) 0 2) (mv_in (Int32.toInt64 ra) 1 100)) (mv_hr (S 0 1)) (1) := rfl
  have em : (mc_transition S k ra) = mo_log S (mv_an (mv_in (Int32.toInt64 k) 0 2) (mv_in (Int32.toInt64 ra) 1 100)) (mv_hr (S 0 1)) (1) 2 k ra (-1) (-1) := rfl
  by_cases h0 : okR k 0 2
  · have e0 : mv_in (Int32.toInt64 k) 0 2 = 1 := in_L1 (by decide) (by decide) h0
    by_cases h1 : okR ra 1 100
    · have e1 : mv_in (Int32.toInt64 ra) 1 100 = 1 := in_L1 (by decide) (by decide) h1
      by_cases hm : okM J 2
      · obtain ⟨m1, m2, m3⟩ := hm_1 I hm
        have hg : ¬ mv_go (mv_an (mv_in (Int32.toInt64 k) 0 2) (mv_in (Int32.toInt64 ra) 1 100)) (mv_hr (S 0 1)) (1) = 0 := by
          rw [e0, e1, m1]
          decide
        obtain ⟨x, y⟩ := log_eq I (w := 2) (a := k) (b := ra) (c := (-1)) (d := (-1)) (Or.inr (Or.inr (Or.inl ⟨rfl, okR_rg (a := 0) (b := 2) (by decide) (by decide) h0, okR_rg (a := 1) (b := 100) (by decide) (by decide) h1⟩))) hm hg
        left
        refine ⟨h0, h1, hm, ?_, ?_, ?_⟩
        · rw [r, e0, e1, m1]; decide
        · rw [if_neg hg]; exact x
        · rw [em]; exact y
      · obtain ⟨m3, m0⟩ := hm_0 I hm
        have m1 := m0 (by decide) (by decide) (by decide)
        right
        right
        right
        refine ⟨h0, h1, hm, ?_, ?_⟩
        · rw [r, e0, e1, m1]; decide
        · rw [em]; exact log_no I (by rw [e0, e1, m1]; decide)
    · have e1 : mv_in (Int32.toInt64 ra) 1 100 = 0 := in_L0 (by decide) (by decide) h1
      right
      right
      left
      refine ⟨h0, h1, ?_, ?_⟩
      · rw [r, e0, e1]; rfl
      · rw [em]; exact log_no I (by rw [e0, e1]; rfl)
  · have e0 : mv_in (Int32.toInt64 k) 0 2 = 0 := in_L0 (by decide) (by decide) h0
    right
    left
    refine ⟨h0, ?_, ?_⟩
    · rw [r, e0]; rfl
    · rw [em]; exact log_no I (by rw [e0]; rfl)
theorem c2_next {J : Nat → Nat → Nat → Int32} {S : Nat → Nat → Int32} (I : Inv J S) (el : Int32) : (¬ (S 0 1) < 0) ∧ (((okR el 0 15) ∧ (okM J 3) ∧ (mc_next S el) 0 2 = 0 ∧ perfR (J 0) 3 el (-1) (-1) (-1) = (if mv_go (mv_in (Int32.toInt64 el) 0 15) (mv_an (mv_hr (S 0 1)) (mv_ps (S 1) 3)) 1 = 0 then 0 else mv_ds (S 1) 3 el (-1) (-1) (-1)) ∧ Inv (vm_enact J 3 el (-1) (-1) (-1)) (mc_next S el)) ∨ (¬ (okR el 0 15) ∧ (mc_next S el) 0 2 = 1 ∧ Inv J (mc_next S el)) ∨ ((okR el 0 15) ∧ ¬ (okM J 3) ∧ (mc_next S el) 0 2 = 2 ∧ Inv J (mc_next S el))) := by
  refine ⟨(inv_n0 I).1, ?_⟩
  have r : (mc_next S el) 0 2 = mv_gf (mv_in (Int32.toInt64 el) 0 15) (mv_an (mv_hr (S 0 1)) (mv_ps (S 1) 3)) (1) := rfl
  have em : (mc_next S el) = mo_log S (mv_in (Int32.toInt64 el) 0 15) (mv_an (mv_hr (S 0 1)) (mv_ps (S 1) 3)) (1) 3 el (-1) (-1) (-1) := rfl
  by_cases h0 : okR el 0 15
  · have e0 : mv_in (Int32.toInt64 el) 0 15 = 1 := in_L1 (by decide) (by decide) h0
    by_cases hm : okM J 3
    · obtain ⟨m1, m2, m3⟩ := hm_1 I hm
      have hg : ¬ mv_go (mv_in (Int32.toInt64 el) 0 15) (mv_an (mv_hr (S 0 1)) (mv_ps (S 1) 3)) (1) = 0 := by
        rw [e0, m3]
        decide
      obtain ⟨x, y⟩ := log_eq I (w := 3) (a := el) (b := (-1)) (c := (-1)) (d := (-1)) (Or.inr (Or.inr (Or.inr (Or.inl ⟨rfl, okR_rg (a := 0) (b := 15) (by decide) (by decide) h0⟩)))) hm hg
      left
      refine ⟨h0, hm, ?_, ?_, ?_⟩
      · rw [r, e0, m3]; decide
      · rw [if_neg hg]; exact x
      · rw [em]; exact y
    · obtain ⟨m3, m0⟩ := hm_0 I hm
      right
      right
      refine ⟨h0, hm, ?_, ?_⟩
      · rw [r, e0, m3]; decide
      · rw [em]; exact log_no I (by rw [e0, m3]; decide)
  · have e0 : mv_in (Int32.toInt64 el) 0 15 = 0 := in_L0 (by decide) (by decide) h0
    right
    left
    refine ⟨h0, ?_, ?_⟩
    · rw [r, e0]; rfl
    · rw [em]; exact log_no I (by rw [e0]; rfl)
theorem c2_key {J : Nat → Nat → Nat → Int32} {S : Nat → Nat → Int32} (I : Inv J S) (k : Int32) (f : Int32) (o : Int32) (ar : Int32) : (¬ (S 0 1) < 0) ∧ (((okK k) ∧ (okS f) ∧ (okR o 0 100) ∧ (okR ar 1 100) ∧ (okM J 4) ∧ (mc_key S k f o ar) 0 2 = 0 ∧ perfR (J 0) 4 k f o ar = (if mv_go (mv_an (mv_ik k) (mv_is f)) (mv_an (mv_in (Int32.toInt64 o) 0 100) (mv_in (Int32.toInt64 ar) 1 100)) (mv_hr (S 0 1)) = 0 then 0 else mv_ds (S 1) 4 k f o ar) ∧ Inv (vm_enact J 4 k f o ar) (mc_key S k f o ar)) ∨ (¬ (okK k) ∧ (mc_key S k f o ar) 0 2 = 1 ∧ Inv J (mc_key S k f o ar)) ∨ ((okK k) ∧ ¬ (okS f) ∧ (mc_key S k f o ar) 0 2 = 1 ∧ Inv J (mc_key S k f o ar)) ∨ ((okK k) ∧ (okS f) ∧ ¬ (okR o 0 100) ∧ (mc_key S k f o ar) 0 2 = 2 ∧ Inv J (mc_key S k f o ar)) ∨ ((okK k) ∧ (okS f) ∧ (okR o 0 100) ∧ ¬ (okR ar 1 100) ∧ (mc_key S k f o ar) 0 2 = 2 ∧ Inv J (mc_key S k f o ar)) ∨ ((okK k) ∧ (okS f) ∧ (okR o 0 100) ∧ (okR ar 1 100) ∧ ¬ (okM J 4) ∧ (mc_key S k f o ar) 0 2 = 3 ∧ Inv J (mc_key S k f o ar))) := by
  refine ⟨(inv_n0 I).1, ?_⟩
  have r : (mc_key S k f o ar) 0 2 = mv_gf (mv_an (mv_ik k) (mv_is f)) (mv_an (mv_in (Int32.toInt64 o) 0 100) (mv_in (Int32.toInt64 ar) 1 100)) (mv_hr (S 0 1)) := rfl
  have em : (mc_key S k f o ar) = mo_log S (mv_an (mv_ik k) (mv_is f)) (mv_an (mv_in (Int32.toInt64 o) 0 100) (mv_in (Int32.toInt64 ar) 1 100)) (mv_hr (S 0 1)) 4 k f o ar := rfl
  by_cases h0 : okK k
  · have e0 : mv_ik k = 1 := ik_1 h0
    by_cases h1 : okS f
    · have e1 : mv_is f = 1 := is_1 h1
      by_cases h2 : okR o 0 100
      · have e2 : mv_in (Int32.toInt64 o) 0 100 = 1 := in_L1 (by decide) (by decide) h2
        by_cases h3 : okR ar 1 100
        · have e3 : mv_in (Int32.toInt64 ar) 1 100 = 1 := in_L1 (by decide) (by decide) h3
          by_cases hm : okM J 4
          · obtain ⟨m1, m2, m3⟩ := hm_1 I hm
            have hg : ¬ mv_go (mv_an (mv_ik k) (mv_is f)) (mv_an (mv_in (Int32.toInt64 o) 0 100) (mv_in (Int32.toInt64 ar) 1 100)) (mv_hr (S 0 1)) = 0 := by
              rw [e0, e1, e2, e3, m1]
              decide
            obtain ⟨x, y⟩ := log_eq I (w := 4) (a := k) (b := f) (c := o) (d := ar) (Or.inr (Or.inr (Or.inr (Or.inr (Or.inl ⟨rfl, okK_rg h0, okS_rg h1, okR_rg (a := 0) (b := 100) (by decide) (by decide) h2, okR_rg (a := 1) (b := 100) (by decide) (by decide) h3⟩))))) hm hg
            left
            refine ⟨h0, h1, h2, h3, hm, ?_, ?_, ?_⟩
            · rw [r, e0, e1, e2, e3, m1]; decide
            · rw [if_neg hg]; exact x
            · rw [em]; exact y
          · obtain ⟨m3, m0⟩ := hm_0 I hm
            have m1 := m0 (by decide) (by decide) (by decide)
            right
            right
            right
            right
            right
            refine ⟨h0, h1, h2, h3, hm, ?_, ?_⟩
            · rw [r, e0, e1, e2, e3, m1]; decide
            · rw [em]; exact log_no I (by rw [e0, e1, e2, e3, m1]; decide)
        · have e3 : mv_in (Int32.toInt64 ar) 1 100 = 0 := in_L0 (by decide) (by decide) h3
          right
          right
          right
          right
          left
          refine ⟨h0, h1, h2, h3, ?_, ?_⟩
          · rw [r, e0, e1, e2, e3]; rfl
          · rw [em]; exact log_no I (by rw [e0, e1, e2, e3]; rfl)
      · have e2 : mv_in (Int32.toInt64 o) 0 100 = 0 := in_L0 (by decide) (by decide) h2
        right
        right
        right
        left
        refine ⟨h0, h1, h2, ?_, ?_⟩
        · rw [r, e0, e1, e2]; rfl
        · rw [em]; exact log_no I (by rw [e0, e1, e2]; rfl)
    · have e1 : mv_is f = 0 := is_0 h1
      right
      right
      left
      refine ⟨h0, h1, ?_, ?_⟩
      · rw [r, e0, e1]; rfl
      · rw [em]; exact log_no I (by rw [e0, e1]; rfl)
  · have e0 : mv_ik k = 0 := ik_0 h0
    right
    left
    refine ⟨h0, ?_, ?_⟩
    · rw [r, e0]; rfl
    · rw [em]; exact log_no I (by rw [e0]; rfl)
theorem c2_toggle {J : Nat → Nat → Nat → Int32} {S : Nat → Nat → Int32} (I : Inv J S) (k : Int32) : (¬ (S 0 1) < 0) ∧ (((okK k) ∧ (okM J 5) ∧ (mc_toggle S k) 0 2 = 0 ∧ perfR (J 0) 5 k (-1) (-1) (-1) = (if mv_go (mv_ik k) (mv_hr (S 0 1)) 1 = 0 then 0 else mv_ds (S 1) 5 k (-1) (-1) (-1)) ∧ Inv (vm_enact J 5 k (-1) (-1) (-1)) (mc_toggle S k)) ∨ (¬ (okK k) ∧ (mc_toggle S k) 0 2 = 1 ∧ Inv J (mc_toggle S k)) ∨ ((okK k) ∧ ¬ (okM J 5) ∧ (mc_toggle S k) 0 2 = 2 ∧ Inv J (mc_toggle S k))) := by
  refine ⟨(inv_n0 I).1, ?_⟩
  have r : (mc_toggle S k) 0 2 = mv_gf (mv_ik k) (mv_hr (S 0 1)) (1) := rfl
  have em : (mc_toggle S k) = mo_log S (mv_ik k) (mv_hr (S 0 1)) (1) 5 k (-1) (-1) (-1) := rfl
  by_cases h0 : okK k
  · have e0 : mv_ik k = 1 := ik_1 h0
    by_cases hm : okM J 5
    · obtain ⟨m1, m2, m3⟩ := hm_1 I hm
      have hg : ¬ mv_go (mv_ik k) (mv_hr (S 0 1)) (1) = 0 := by
        rw [e0, m1]
        decide
      obtain ⟨x, y⟩ := log_eq I (w := 5) (a := k) (b := (-1)) (c := (-1)) (d := (-1)) (Or.inr (Or.inr (Or.inr (Or.inr (Or.inr (Or.inl ⟨rfl, okK_rg h0⟩)))))) hm hg
      left
      refine ⟨h0, hm, ?_, ?_, ?_⟩
      · rw [r, e0, m1]; decide
      · rw [if_neg hg]; exact x
      · rw [em]; exact y
    · obtain ⟨m3, m0⟩ := hm_0 I hm
      have m1 := m0 (by decide) (by decide) (by decide)
      right
      right
      refine ⟨h0, hm, ?_, ?_⟩
      · rw [r, e0, m1]; decide
      · rw [em]; exact log_no I (by rw [e0, m1]; decide)
  · have e0 : mv_ik k = 0 := ik_0 h0
    right
    left
    refine ⟨h0, ?_, ?_⟩
    · rw [r, e0]; rfl
    · rw [em]; exact log_no I (by rw [e0]; rfl)
theorem c2_cut {J : Nat → Nat → Nat → Int32} {S : Nat → Nat → Int32} (I : Inv J S) : (¬ (S 0 1) < 0) ∧ (((okM J 6) ∧ (mc_cut S) 0 2 = 0 ∧ perfR (J 0) 6 (-1) (-1) (-1) (-1) = (if mv_go (mv_hr (S 0 1)) 1 1 = 0 then 0 else mv_ds (S 1) 6 (-1) (-1) (-1) (-1)) ∧ Inv (vm_enact J 6 (-1) (-1) (-1) (-1)) (mc_cut S)) ∨ (¬ (okM J 6) ∧ (mc_cut S) 0 2 = 1 ∧ Inv J (mc_cut S))) := by
  refine ⟨(inv_n0 I).1, ?_⟩
  have r : (mc_cut S) 0 2 = mv_gf (mv_hr (S 0 1)) (1) (1) := rfl
  have em : (mc_cut S) = mo_log S (mv_hr (S 0 1)) (1) (1) 6 (-1) (-1) (-1) (-1) := rfl
  by_cases hm : okM J 6
  · obtain ⟨m1, m2, m3⟩ := hm_1 I hm
    have hg : ¬ mv_go (mv_hr (S 0 1)) (1) (1) = 0 := by
      rw [m1]
      decide
    obtain ⟨x, y⟩ := log_eq I (w := 6) (a := (-1)) (b := (-1)) (c := (-1)) (d := (-1)) (Or.inr (Or.inr (Or.inr (Or.inr (Or.inr (Or.inr (Or.inl rfl))))))) hm hg
    left
    refine ⟨hm, ?_, ?_, ?_⟩
    · rw [r, m1]; decide
    · rw [if_neg hg]; exact x
    · rw [em]; exact y
  · obtain ⟨m3, m0⟩ := hm_0 I hm
    have m1 := m0 (by decide) (by decide) (by decide)
    right
    refine ⟨hm, ?_, ?_⟩
    · rw [r, m1]; decide
    · rw [em]; exact log_no I (by rw [m1]; decide)
theorem c2_auto {J : Nat → Nat → Nat → Int32} {S : Nat → Nat → Int32} (I : Inv J S) : (¬ (S 0 1) < 0) ∧ (((okM J 7) ∧ (mc_auto S) 0 2 = 0 ∧ perfR (J 0) 7 (-1) (-1) (-1) (-1) = (if mv_go (mv_an (mv_hr (S 0 1)) (mv_ps (S 1) 7)) 1 1 = 0 then 0 else mv_ds (S 1) 7 (-1) (-1) (-1) (-1)) ∧ Inv (vm_enact J 7 (-1) (-1) (-1) (-1)) (mc_auto S)) ∨ (¬ (okM J 7) ∧ (mc_auto S) 0 2 = 1 ∧ Inv J (mc_auto S))) := by
  refine ⟨(inv_n0 I).1, ?_⟩
  have r : (mc_auto S) 0 2 = mv_gf (mv_an (mv_hr (S 0 1)) (mv_ps (S 1) 7)) (1) (1) := rfl
  have em : (mc_auto S) = mo_log S (mv_an (mv_hr (S 0 1)) (mv_ps (S 1) 7)) (1) (1) 7 (-1) (-1) (-1) (-1) := rfl
  by_cases hm : okM J 7
  · obtain ⟨m1, m2, m3⟩ := hm_1 I hm
    have hg : ¬ mv_go (mv_an (mv_hr (S 0 1)) (mv_ps (S 1) 7)) (1) (1) = 0 := by
      rw [m3]
      decide
    obtain ⟨x, y⟩ := log_eq I (w := 7) (a := (-1)) (b := (-1)) (c := (-1)) (d := (-1)) (Or.inr (Or.inr (Or.inr (Or.inr (Or.inr (Or.inr (Or.inr (Or.inl rfl)))))))) hm hg
    left
    refine ⟨hm, ?_, ?_, ?_⟩
    · rw [r, m3]; decide
    · rw [if_neg hg]; exact x
    · rw [em]; exact y
  · obtain ⟨m3, m0⟩ := hm_0 I hm
    right
    refine ⟨hm, ?_, ?_⟩
    · rw [r, m3]; decide
    · rw [em]; exact log_no I (by rw [m3]; decide)
theorem c2_bar {J : Nat → Nat → Nat → Int32} {S : Nat → Nat → Int32} (I : Inv J S) (b : Int32) : (¬ (S 0 1) < 0) ∧ (((okR b 0 1000) ∧ (okM J 8) ∧ (mc_bar S b) 0 2 = 0 ∧ perfR (J 0) 8 b (-1) (-1) (-1) = (if mv_go (mv_in (Int32.toInt64 b) 0 1000) (mv_an (mv_hr (S 0 1)) (mv_ps (S 1) 8)) 1 = 0 then 0 else mv_ds (S 1) 8 b (-1) (-1) (-1)) ∧ Inv (vm_enact J 8 b (-1) (-1) (-1)) (mc_bar S b)) ∨ (¬ (okR b 0 1000) ∧ (mc_bar S b) 0 2 = 1 ∧ Inv J (mc_bar S b)) ∨ ((okR b 0 1000) ∧ ¬ (okM J 8) ∧ (mc_bar S b) 0 2 = 2 ∧ Inv J (mc_bar S b))) := by
  refine ⟨(inv_n0 I).1, ?_⟩
  have r : (mc_bar S b) 0 2 = mv_gf (mv_in (Int32.toInt64 b) 0 1000) (mv_an (mv_hr (S 0 1)) (mv_ps (S 1) 8)) (1) := rfl
  have em : (mc_bar S b) = mo_log S (mv_in (Int32.toInt64 b) 0 1000) (mv_an (mv_hr (S 0 1)) (mv_ps (S 1) 8)) (1) 8 b (-1) (-1) (-1) := rfl
  by_cases h0 : okR b 0 1000
  · have e0 : mv_in (Int32.toInt64 b) 0 1000 = 1 := in_L1 (by decide) (by decide) h0
    by_cases hm : okM J 8
    · obtain ⟨m1, m2, m3⟩ := hm_1 I hm
      have hg : ¬ mv_go (mv_in (Int32.toInt64 b) 0 1000) (mv_an (mv_hr (S 0 1)) (mv_ps (S 1) 8)) (1) = 0 := by
        rw [e0, m3]
        decide
      obtain ⟨x, y⟩ := log_eq I (w := 8) (a := b) (b := (-1)) (c := (-1)) (d := (-1)) (Or.inr (Or.inr (Or.inr (Or.inr (Or.inr (Or.inr (Or.inr (Or.inr (Or.inl ⟨rfl, okR_rg (a := 0) (b := 1000) (by decide) (by decide) h0⟩))))))))) hm hg
      left
      refine ⟨h0, hm, ?_, ?_, ?_⟩
      · rw [r, e0, m3]; decide
      · rw [if_neg hg]; exact x
      · rw [em]; exact y
    · obtain ⟨m3, m0⟩ := hm_0 I hm
      right
      right
      refine ⟨h0, hm, ?_, ?_⟩
      · rw [r, e0, m3]; decide
      · rw [em]; exact log_no I (by rw [e0, m3]; decide)
  · have e0 : mv_in (Int32.toInt64 b) 0 1000 = 0 := in_L0 (by decide) (by decide) h0
    right
    left
    refine ⟨h0, ?_, ?_⟩
    · rw [r, e0]; rfl
    · rw [em]; exact log_no I (by rw [e0]; rfl)
theorem c2_fault {J : Nat → Nat → Nat → Int32} {S : Nat → Nat → Int32} (I : Inv J S) (q : Int32) (fz : Int32) : (¬ (S 0 1) < 0) ∧ (((okS q) ∧ (okB q) ∧ (okM J 9) ∧ (mc_fault S q fz) 0 2 = 0 ∧ perfR (J 0) 9 q (nzF fz) (-1) (-1) = (if mv_go (mv_in (Int32.toInt64 q) 1 9) (mv_hr (S 0 1)) 1 = 0 then 0 else mv_ds (S 1) 9 q (nzF fz) (-1) (-1)) ∧ Inv (vm_enact J 9 q (nzF fz) (-1) (-1)) (mc_fault S q fz)) ∨ (¬ (okS q) ∧ (mc_fault S q fz) 0 2 = 1 ∧ Inv J (mc_fault S q fz)) ∨ ((okS q) ∧ ¬ (okB q) ∧ (mc_fault S q fz) 0 2 = 1 ∧ Inv J (mc_fault S q fz)) ∨ ((okS q) ∧ (okB q) ∧ ¬ (okM J 9) ∧ (mc_fault S q fz) 0 2 = 2 ∧ Inv J (mc_fault S q fz))) := by
  refine ⟨(inv_n0 I).1, ?_⟩
  have r : (mc_fault S q fz) 0 2 = mv_gf (mv_in (Int32.toInt64 q) 1 9) (mv_hr (S 0 1)) 1 := rfl
  have em : (mc_fault S q fz) = mo_log S (mv_in (Int32.toInt64 q) 1 9) (mv_hr (S 0 1)) 1 9 q (nzF fz) (-1) (-1) := rfl
  by_cases h0 : okS q
  · by_cases h1 : okB q
    · have hR := (okF_R q).mp ⟨h0, h1⟩
      have e0 : mv_in (Int32.toInt64 q) 1 9 = 1 := in_L1 (by decide) (by decide) hR
      by_cases hm : okM J 9
      · obtain ⟨m1, m2, m3⟩ := hm_1 I hm
        have hg : ¬ mv_go (mv_in (Int32.toInt64 q) 1 9) (mv_hr (S 0 1)) 1 = 0 := by rw [e0, m1]; decide
        obtain ⟨x, y⟩ := log_eq I (w := 9) (a := q) (b := nzF fz) (c := -1) (d := -1) (Or.inr (Or.inr (Or.inr (Or.inr (Or.inr (Or.inr (Or.inr (Or.inr (Or.inr ⟨rfl, okR_rg (a := 1) (b := 9) (by decide) (by decide) hR, nz_rg fz⟩))))))))) hm hg
        left
        refine ⟨h0, h1, hm, ?_, ?_, ?_⟩
        · rw [r, e0, m1]; decide
        · rw [if_neg hg]; exact x
        · rw [em]; exact y
      · have m1 := (hm_0 I hm).2 (by decide) (by decide) (by decide)
        right; right; right
        refine ⟨h0, h1, hm, ?_, ?_⟩
        · rw [r, e0, m1]; decide
        · rw [em]; exact log_no I (by rw [e0, m1]; decide)
    · have e0 : mv_in (Int32.toInt64 q) 1 9 = 0 := in_L0 (by decide) (by decide) (fun z => h1 ((okF_R q).mpr z).2)
      right; right; left
      refine ⟨h0, h1, ?_, ?_⟩
      · rw [r, e0]; rfl
      · rw [em]; exact log_no I (by rw [e0]; rfl)
  · have e0 : mv_in (Int32.toInt64 q) 1 9 = 0 := in_L0 (by decide) (by decide) (fun z => h0 ((okF_R q).mpr z).1)
    right; left
    refine ⟨h0, ?_, ?_⟩
    · rw [r, e0]; rfl
    · rw [em]; exact log_no I (by rw [e0]; rfl)
theorem psX_eq (m : Nat → Int32) (r : Int32) {t n : Nat} (hn : n ≤ 500) (ht : t ≤ 5000) : psX (nI n) m r (nI t) = ((frk n (m, r)).1, (frk n (m, r)).2, nI (t + n), nI n) := by
  have key : ∀ (d s : Nat), s + d = n → ∀ f : Nat, d < f → lw (psC (nI n)) psB f ((frk s (m, r)).1, (frk s (m, r)).2, nI (t + s), nI s) = ((frk n (m, r)).1, (frk n (m, r)).2, nI (t + n), nI n) := by
    intro d
    induction d with
    | zero =>
      intro s hs f hf
      have : s = n := by omega
      subst this
      exact lw_f (if_pos (show nI s ≤ nI s from nI_le (Nat.le_refl _) (by omega)))
    | succ d ih =>
      intro s hs f hf
      obtain ⟨g, rfl⟩ : ∃ g, f = g + 1 := ⟨f - 1, by omega⟩
      have hc : psC (nI n) ((frk s (m, r)).1, (frk s (m, r)).2, nI (t + s), nI s) = true := if_neg (show ¬ nI n ≤ nI s from nI_ge (by omega) (by omega))
      rw [lw_t hc, ← ih (s + 1) (by omega) g (by omega)]
      congr 1
      unfold psB
      rw [nI_1, nI_1]
      rfl
  have q := key n 0 (by omega) 501 (by omega)
  unfold psX
  exact q
theorem rp_pass {E : Nat → Int32} {N : Nat} {τ : Nat → Nat} {t : Nat} (H : LV E N τ t) (ht : t ≤ 5000) (hN : N ≤ 100) (wo : Int32) (n : Nat) (hn : n ≤ 5000) (r : Int32) : (rp E N wo (t + n)).1 = (frk n ((rp E N wo t).1, r)).1 := by
  rw [rp_c H (by omega) hN wo (by omega) (cnt_N H (show t ≤ t + n by omega)), rp_c H (by omega) hN wo (by omega) (cnt_N H (Nat.le_refl t))]
  show (uA E wo N (t + n)).1 = (frk n ((uA E wo N t).1, r)).1
  rw [uA_add (uS_t H (by omega) wo N (Nat.le_refl _) (cnt_N H (Nat.le_refl t)).2.1)]
  exact frk_r _ _ _ n
theorem po_0 {S : Nat → Nat → Int32} {fr : Int32} (hg : ¬ mv_pg (S 0 0) fr = 0) : mo_pass S fr 0 0 = (psX fr (S 1) (S 0 3) (S 0 0)).2.2.1 ∧ mo_pass S fr 0 1 = S 0 1 ∧ mo_pass S fr 0 8 = S 0 8 ∧ mo_pass S fr 1 = (psX fr (S 1) (S 0 3) (S 0 0)).1 ∧ mo_pass S fr 3 = S 3 ∧ mo_pass S fr 6 = S 6 := by
  unfold mo_pass
  rw [if_neg hg, if_neg hg, if_neg hg]
  simp only [sF_eq, sF_ne, sR_eq, sR_ne, upd_eq, upd_ne, Nat.reduceBEq]
  exact ⟨trivial, trivial, trivial, trivial, trivial, trivial⟩
theorem vp_0 (J : Nat → Nat → Nat → Int32) (fr : Int32) : vm_pass J fr 0 = gt_letPass fr (J 0) ∧ vm_pass J fr 3 = J 3 ∧ vm_pass J fr 7 = J 7 := by
  unfold vm_pass
  rw [gs_eq, gs_ne _ _ _ rfl, gs_ne _ _ _ rfl]
  exact ⟨rfl, rfl, rfl⟩
theorem pass_eq {J : Nat → Nat → Nat → Int32} {S : Nat → Nat → Int32} (I : Inv J S) {fr : Int32} (h : okR fr 0 500) (hP : okP J fr) (hg : ¬ mv_pg (S 0 0) fr = 0) : gt_letPass fr (J 0) 0 7 = (psX fr (S 1) (S 0 3) (S 0 0)).2.2.1 ∧ Inv (vm_pass J fr) (mo_pass S fr) := by
  have o := inv_ok I
  obtain ⟨n, -, hn, rfl⟩ := okR_rg (a := 0) (b := 500) (by decide) (by decide) h
  obtain ⟨N, t, K, hN, ht, hK, h1, h2, h3, h4, h5, h6, ⟨τ, j1, j2⟩, h8, h9, h10, h11⟩ := I
  have H : LV (S 3) N τ t := ⟨j1, j2⟩
  unfold okP at hP
  rw [h2, nI_add] at hP
  have hP2 : t + n ≤ 5000 := (nI_leI (b := 5000) (by omega) (by decide)).mp hP
  obtain ⟨m1, m2, m3, m4, m5, m6⟩ := po_0 hg
  have ex := psX_eq (S 1) (S 0 3) (n := n) (t := t) hn ht
  rw [h3, ex] at m1 m4
  obtain ⟨v1, v2, v3⟩ := vp_0 J (nI n)
  obtain ⟨l1, l2, l3⟩ := lp_eq h1 o (n := n) (by omega) (r := J 0 0 8) rfl
  have l4 : gt_letPass (nI n) (J 0) 0 7 = nI (t + n) := by rw [l3, h2, nI_add]
  refine ⟨by rw [l4, h3, ex], N, t + n, K, hN, hP2, hK, ?_, ?_, ?_, ?_, ?_, ?_, ?_, ?_, ?_, ?_, ?_⟩
  · rw [v1, m4]
    show RM _ (frk n (S 1, S 0 3)).1
    rw [frk_r (S 1) (S 0 3) (J 0 0 8) n]
    exact l1
  · rw [v1]; exact l4
  · exact m1
  · rw [v2]; exact h4
  · rw [m2]; exact h5
  · rw [v2, m5]; exact h6
  · rw [m5]; exact ⟨τ, fun i hi => ⟨(j1 i hi).1, by have := (j1 i hi).2.1; omega, (j1 i hi).2.2⟩, j2⟩
  · rw [v3]; exact h8
  · rw [m3]; exact h9
  · rw [v3, m6]; exact h10
  · rw [m4, m5]
    show ∀ k, k < 20 → (frk n (S 1, S 0 3)).1 k = _
    rw [rp_pass H ht hN (-1) n (by omega) (S 0 3)]
    exact (e_frk h11 (S 0 3) n).1
theorem pass_no {J : Nat → Nat → Nat → Int32} {S : Nat → Nat → Int32} (I : Inv J S) {fr : Int32} (hg : mv_pg (S 0 0) fr = 0) : Inv J (mo_pass S fr) := by
  have e : mo_pass S fr = sF (sF (sF (sR S 1 (S 1)) 0 3 (S 0 3)) 0 0 (S 0 0)) 0 2 (mv_gf (mv_in (Int32.toInt64 fr) 0 500) (mv_ps2 (S 0 0) fr) 1) := by
    unfold mo_pass
    rw [if_pos hg, if_pos hg, if_pos hg]
  rw [e]
  exact inv_cg I rfl rfl rfl rfl rfl rfl eq_n.rf rfl rfl
theorem c2_pass {J : Nat → Nat → Nat → Int32} {S : Nat → Nat → Int32} (I : Inv J S) (fr : Int32) : (¬ (S 1) 3 = 0) ∧ (¬ mv_pg (S 0 0) fr = 0 → psC fr (psX fr (S 1) (S 0 3) (S 0 0)) = false) ∧ (((okR fr 0 500) ∧ (okP J fr) ∧ (mc_pass S fr) 0 2 = 0 ∧ gt_letPass fr (J 0) 0 7 = (if mv_pg (S 0 0) fr = 0 then 0 else (psX fr (S 1) (S 0 3) (S 0 0)).2.2.1) ∧ Inv (vm_pass J fr) (mc_pass S fr)) ∨ (¬ (okR fr 0 500) ∧ (mc_pass S fr) 0 2 = 1 ∧ Inv J (mc_pass S fr)) ∨ ((okR fr 0 500) ∧ ¬ (okP J fr) ∧ (mc_pass S fr) 0 2 = 2 ∧ Inv J (mc_pass S fr))) := by
  have o := inv_ok I
  have it := (inv_t I).1
  have r : (mc_pass S fr) 0 2 = mv_gf (mv_in (Int32.toInt64 fr) 0 500) (mv_ps2 (S 0 0) fr) 1 := rfl
  have em : mc_pass S fr = mo_pass S fr := rfl
  refine ⟨(okm_m o).2.2.2.2.2, fun hg => ps_stop _ _ hg, ?_⟩
  by_cases h0 : okR fr 0 500
  · have e0 : mv_in (Int32.toInt64 fr) 0 500 = 1 := in_L1 (by decide) (by decide) h0
    by_cases hP : okP J fr
    · have e1 : mv_ps2 (S 0 0) fr = 1 := by
        unfold mv_ps2
        unfold okP at hP
        rw [it] at hP
        rw [e0, if_neg (by decide), if_neg (fun z => by
          have a := Int32.lt_iff_toInt_lt.mp z
          have b := i_le.mp hP
          omega)]
      have hg : ¬ mv_pg (S 0 0) fr = 0 := by unfold mv_pg; rw [e0, e1]; decide
      obtain ⟨x, y⟩ := pass_eq I h0 hP hg
      left
      refine ⟨h0, hP, by rw [r, e0, e1]; decide, by rw [if_neg hg]; exact x, by rw [em]; exact y⟩
    · have e1 : mv_ps2 (S 0 0) fr = 0 := by
        unfold mv_ps2
        unfold okP at hP
        rw [it, i_le] at hP
        rw [e0, if_neg (by decide), if_pos (by rw [Int32.lt_iff_toInt_lt]; omega)]
      right; right
      refine ⟨h0, hP, by rw [r, e0, e1]; decide, ?_⟩
      rw [em]; exact pass_no I (by unfold mv_pg; rw [e0, e1]; decide)
  · have e0 : mv_in (Int32.toInt64 fr) 0 500 = 0 := in_L0 (by decide) (by decide) h0
    right; left
    refine ⟨h0, by rw [r, e0]; rfl, ?_⟩
    rw [em]; exact pass_no I (by unfold mv_pg; rw [e0]; rfl)
