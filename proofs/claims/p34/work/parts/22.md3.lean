def mv_an (a b : Int32) : Int32 := if a = 0 then 0 else if b = 0 then 0 else 1
theorem an_1 {a b : Int32} (h : ¬ mv_an a b = 0) : ¬ a = 0 := fun e => h (by unfold mv_an; rw [if_pos e])
theorem an_2 {a b : Int32} (h : ¬ mv_an a b = 0) : ¬ b = 0 := fun e => h (by unfold mv_an; rw [if_neg (an_1 h), if_pos e])
theorem ik_k {k : Int32} (h : ¬ mv_ik k = 0) : kOk k := in_k (n := 2) (by decide) h
theorem is_q {q : Int32} (h : ¬ mv_is q = 0) : vp_in q 10 := in_k (n := 9) (by decide) h
def psC (fr : Int32) (x : (Nat → Int32) × Int32 × Int32 × Int32) : Bool := if fr ≤ x.2.2.2 then false else true
def psB (x : (Nat → Int32) × Int32 × Int32 × Int32) : (Nat → Int32) × Int32 × Int32 × Int32 := (mr_fr x.1, mv_fn x.1 x.2.1, x.2.2.1 + 1, x.2.2.2 + 1)
def psX (fr : Int32) (m : Nat → Int32) (r c : Int32) : (Nat → Int32) × Int32 × Int32 × Int32 := lw (psC fr) psB 501 (m, r, c, 0)
theorem cp_3 (m : Nat → Int32) : mr_cp m 3 = m 3 := by
  unfold mr_cp
  rw [upd_ne _ _ _ rfl, upd_ne _ _ _ rfl]
  show mr_cs 2 (mr_cs 1 (mr_cs 0 (mr_sw m))) 3 = _
  unfold mr_cs
  rw [upd_ne _ _ _ rfl, upd_ne _ _ _ rfl, upd_ne _ _ _ rfl]
  unfold mr_sw
  split
  · rfl
  · rw [upd_ne _ _ _ rfl, upd_ne _ _ _ rfl]
theorem fr_3 (m : Nat → Int32) : mr_fr m 3 = m 3 := by
  unfold mr_fr
  split
  · rfl
  · split
    · rw [upd_ne _ _ _ rfl]; rfl
    · rw [cp_3]; rfl
theorem okm_fr {m : Nat → Int32} (h : okm m) : okm (mr_fr m) := by
  have h1 : okm (mr_f1 m) := h
  unfold mr_fr
  split
  · exact h
  · split
    · exact h1
    · exact okm_cp h1
def mv_ps2 (c fr : Int32) : Int32 := if mv_in (Int32.toInt64 fr) 0 500 = 0 then 0 else if 5000 < c + fr then 0 else 1
def mv_pg (c fr : Int32) : Int32 := mv_go (mv_in (Int32.toInt64 fr) 0 500) (mv_ps2 c fr) 1
theorem vp_nn {a : Int32} {n : Nat} (h : vp_in a n) : ¬ a < 0 := fun e => h (Or.inl e)
theorem vp_mo {a : Int32} {n k : Nat} (h : vp_in a n) (hk : n ≤ k) : vp_in a k := fun e => h (e.elim Or.inl (fun q => Or.inr (Nat.le_trans hk q)))
theorem kw_in {k w : Int32} (hk : kOk k) (hw : vp_in w 4) : vp_in (7 + 4 * k + w) 20 := by
  obtain ⟨j, hj, rfl⟩ := vp_in_of hw (by decide)
  exact kx_in hk j hj
