def okm (m : Nat → Int32) : Prop := vp_in (m 0) 10 ∧ vp_in (m 1) 10 ∧ vp_in (m 7) 10 ∧ vp_in (m 11) 10 ∧ vp_in (m 15) 10 ∧ ¬ m 3 = 0
theorem nI_nz {i : Nat} : nI i = nI i := rfl
def mr_z (k : Nat) (s : Nat → Int32) : Nat → Int32 := upd s k 0
def cl (x : Int32) : Nat := x.toNatClampNeg
def mr_ad (s : Nat → Int32) (k : Nat) (v : Int32) : Nat → Int32 := upd s k (s k + v)
def mr_sb (m s : Nat → Int32) : Nat → Int32 := if mv_el m 0 = 0 then mr_ad s (cl (m 0)) 1000000 else if 2 ≤ m 2 then (if 500 < m 5 then mr_ad (mr_ad s 0 ((2000 - 2 * m 5) * 1000)) (cl (m 1)) ((2 * m 5 - 1000) * 1000) else mr_ad (mr_ad s (cl (m 0)) ((1000 - 2 * m 5) * 1000)) 0 (2 * m 5 * 1000)) else mr_ad (mr_ad s (cl (m 0)) ((1000 - m 5) * 1000)) (cl (m 1)) (m 5 * 1000)
def mv_co (m : Nat → Int32) (k t : Int32) : Int32 := if mv_el m (1 + k) = 0 then m (kx k 1) * m (kx k 2) * m (kx k 3) else m (kx k 1) * m (kx k 2) * (if m (kx k 3) = 1 then 1000 - t else t) / 1000
def mv_tk (c : Int32) (k : Nat) (s : Nat → Int32) : Int32 := Int64.toInt32 (Int32.toInt64 (s k) * Int32.toInt64 c / 10000)
def mr_ts (c : Int32) (k : Nat) (x : (Nat → Int32) × Int32) : (Nat → Int32) × Int32 := (upd x.1 k (x.1 k - mv_tk c k x.1), x.2 + mv_tk c k x.1)
def mr_ta (c : Int32) (n : Nat) (s : Nat → Int32) : (Nat → Int32) × Int32 := it (mr_ts c) n (s, 0)
def mr_cv (m : Nat → Int32) (k c : Int32) (s : Nat → Int32) : Nat → Int32 := upd (mr_ta c 10 s).1 (cl (m (kx k 0))) ((mr_ta c 10 s).1 (cl (m (kx k 0))) + (mr_ta c 10 s).2)
def mr_cvs (m : Nat → Int32) (k : Nat) (s : Nat → Int32) : Nat → Int32 := mr_cv m (nI k) (mv_co m (nI k) (m 5)) s
def mr_ls (m s : Nat → Int32) : Nat → Int32 := it (mr_cvs m) 3 (mr_sb m (it mr_z 10 s))
def mv_st (m : Nat → Int32) (c n w : Int32) : Int32 := if 7 ≤ w then (if w = 7 then c else n) else m (cl w)
def mv_rs (s : Nat → Int32) (k : Nat) (x : Int32) : Int32 := if s k ≤ 0 then x ||| 0 else x ||| (1 <<< (nI k &&& 31))
def mv_rd (s : Nat → Int32) : Int32 := it (mv_rs s) 10 0
def mr_c1 (m : Nat → Int32) (k : Nat) (s : Nat → Int32) : Nat → Int32 := upd s k (m k)
def mr_ly (m a : Nat → Int32) : Nat → Int32 := it (mr_c1 m) 20 a
def mr_as (m a : Nat → Int32) : Nat → Int32 := mr_ly m a
def mr_tb (m a : Nat → Int32) : Nat → Int32 := mr_ly (mr_ly m a) (mr_cp m)
def mv_bt (x q : Int32) : Int32 := (x >>> (q &&& 31)) &&& 1
def mv_rb (m s : Nat → Int32) : Int32 := mv_rd (mr_ls (mr_cp m) s)
def mv_ty (m s : Nat → Int32) (q : Int32) : Int32 := if mv_bt (mv_rd (mr_ls m s)) q = 1 then 2 else mv_bt (mv_rb m (mr_ls m s)) q
def mr_t1 (m a s : Nat → Int32) (q : Int32) : Nat → Int32 := if mv_bt (mv_rd (mr_ls m s)) q = 1 then m else mr_tb m a
def mr_t2 (m a s : Nat → Int32) (q : Int32) : Nat → Int32 := if mv_bt (mv_rd (mr_ls m s)) q = 1 then a else mr_ly m a
def mr_t4 (m s : Nat → Int32) (q : Int32) : Nat → Int32 := if mv_bt (mv_rd (mr_ls m s)) q = 1 then mr_ls m s else mr_ls (mr_cp m) (mr_ls m s)
def mv_fs (m s : Nat → Int32) (k : Nat) (x : Int32) : Int32 := if mv_bt (m 19) (nI (k + 1)) = 1 then x + s (k + 1) else x + 0
def mv_sc (m s : Nat → Int32) (q : Int32) (x : Int32 × Int32) : Bool := if 10 ≤ x.2 then false else if q = 0 then true else false
def mv_sn (m s : Nat → Int32) (x : Int32 × Int32) : Int32 × Int32 := (if mv_bt (m 19) x.2 = 1 then x.1 + s (cl x.2) else x.1 + 0, x.2 + 1)
def mv_sh (m s : Nat → Int32) (q sn : Int32) : Int32 := if sn = 0 then s (cl q) else if mv_bt (m 19) q = 1 then 0 else (lw (mv_sc m s q) (mv_sn m s) 10 (s (cl q), 1)).1
theorem sn_k {m s : Nat → Int32} {q : Int32} {x : Int32 × Int32} (h : ∃ k : Nat, k ≤ 10 ∧ x.2 = nI k) (hc : mv_sc m s q x = true) : ∃ k : Nat, k < 10 ∧ x.2 = nI k := by
  obtain ⟨k, hk, e⟩ := h
  rcases Nat.lt_or_ge k 10 with h | h
  · exact ⟨k, h, e⟩
  · exfalso
    have : k = 10 := by omega
    subst this
    unfold mv_sc at hc
    rw [e, if_pos (show (10 : Int32) ≤ nI 10 by decide)] at hc
    cases hc
theorem sn_stop (m s : Nat → Int32) (q : Int32) (x : Int32) : mv_sc m s q (lw (mv_sc m s q) (mv_sn m s) 10 (x, 1)) = false := by
  refine lw_stop (fun x => ∃ k : Nat, k ≤ 10 ∧ x.2 = nI k) (fun x => 10 - x.2.toNatClampNeg) ?_ ?_ 10 _ ⟨1, by omega, rfl⟩ (by show 10 - (1 : Int32).toNatClampNeg < 10; decide)
  · intro x hx hc
    obtain ⟨k, hk, e⟩ := sn_k hx hc
    exact ⟨k + 1, by omega, by show x.2 + 1 = _; rw [e, nI_1]⟩
  · intro x hx hc
    obtain ⟨k, hk, e⟩ := sn_k hx hc
    show 10 - (x.2 + 1).toNatClampNeg < 10 - x.2.toNatClampNeg
    rw [e, nI_1, nI_clamp (by omega), nI_clamp (by omega)]
    omega
theorem sn_in {x : Int32} (h : ∃ k : Nat, k ≤ 10 ∧ x = nI k) (h2 : ¬ 10 ≤ x) : vp_in x 10 := by
  obtain ⟨k, hk, rfl⟩ := h
  rcases Nat.lt_or_ge k 10 with h | h
  · exact vp_in_nI h (by decide)
  · exact absurd (nI_le h (by omega)) h2
theorem okm_cp {m : Nat → Int32} (h : okm m) : okm (mr_cp m) := by
  have e : ∀ j : Nat, (j == 10) = false → (j == 14) = false → (j == 18) = false → (j == 5) = false → (j == 6) = false → mr_cp m j = mr_sw m j := by
    intro j h1 h2 h3 h4 h5
    unfold mr_cp
    rw [upd_ne _ _ _ h5, upd_ne _ _ _ h4]
    show mr_cs 2 (mr_cs 1 (mr_cs 0 (mr_sw m))) j = _
    unfold mr_cs
    rw [upd_ne _ _ _ h3, upd_ne _ _ _ h2, upd_ne _ _ _ h1]
  unfold okm
  rw [e 0 rfl rfl rfl rfl rfl, e 1 rfl rfl rfl rfl rfl, e 7 rfl rfl rfl rfl rfl, e 11 rfl rfl rfl rfl rfl, e 15 rfl rfl rfl rfl rfl, e 3 rfl rfl rfl rfl rfl]
  unfold mr_sw
  split
  · exact h
  · exact ⟨h.2.1, h.1, h.2.2.1, h.2.2.2.1, h.2.2.2.2.1, h.2.2.2.2.2⟩
theorem okm_f {m : Nat → Int32} (h : okm m) {k : Int32} (hk : kOk k) : vp_in (m (kx k 0)) 10 := by
  obtain ⟨j, hj, rfl⟩ := vp_in_of hk (by decide)
  rcases (show j = 0 ∨ j = 1 ∨ j = 2 by omega) with rfl | rfl | rfl
  · exact h.2.2.1
  · exact h.2.2.2.1
  · exact h.2.2.2.2.1
theorem st7 {w : Int32} (h : ¬ w < 0) (h2 : ¬ 7 ≤ w) : w.toNatClampNeg < 7 := by
  rcases pk_ix w (n := 7) (by decide) with h1 | h1 | ⟨j, hj, rfl⟩
  · exact absurd h1 h
  · exact absurd h1 h2
  · rw [nI_clamp (by omega)]; exact hj
