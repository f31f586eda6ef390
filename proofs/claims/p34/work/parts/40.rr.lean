/-! two mixers: the second one's sources from 1 on are called by other numbers -/
def sg (k : Nat) : Nat := if k = 0 then 0 else 1 + k % 9
def otF (q : Int32) : Int32 := if q = 0 then 0 else 1 + q % 9
def upF (v n : Int32) : Int32 := (v &&& 2147483647) % n
def stF0 (J : Nat → Nat → Nat → Int32) : Int32 := if psF J 5 = 0 then (if 0 ≤ psF J 6 then 0 else 1) else 0
/-- the reference's row of a log -/
def sS (E : Nat → Int32) (N t : Nat) : Nat → Nat → Int32 := sR (sR (sF (sF (sF zM 0 0 (nI t)) 0 1 (nI N)) 0 8 0) 1 (rp E N (-1) t).1) 3 E
/-- a mixer that has the log E of N acts, at the time t -/
def KV (J : Nat → Nat → Nat → Int32) (E : Nat → Int32) (N t : Nat) : Prop := N ≤ 100 ∧ t ≤ 5000 ∧ Inv J (sS E N t)
def PJ (J : Nat → Nat → Nat → Int32) : Prop := ∃ (E : Nat → Int32) (N t : Nat), KV J E N t
/-- the second log: the first one's, the sources' numbers changed -/
def SG (E F : Nat → Int32) (n : Nat) : Prop := ∀ i, i < n → F (6 * i) = E (6 * i) ∧ F (6 * i + 1) = E (6 * i + 1) ∧ F (6 * i + 2) = (if E (6 * i + 1) = 0 ∨ E (6 * i + 1) = 1 ∨ E (6 * i + 1) = 9 then otF (E (6 * i + 2)) else E (6 * i + 2)) ∧ F (6 * i + 3) = (if E (6 * i + 1) = 4 then otF (E (6 * i + 3)) else E (6 * i + 3)) ∧ F (6 * i + 4) = E (6 * i + 4) ∧ F (6 * i + 5) = E (6 * i + 5)
/-- the first five acts, at the time 0 -/
def FA (E : Nat → Int32) : Prop := (∀ i, i < 5 → E (6 * i) = 0) ∧ E 1 = 0 ∧ E 2 = 1 ∧ E 7 = 1 ∧ E 8 = 2 ∧ ∀ j, j < 3 → E (6 * (2 + j) + 1) = 4 ∧ E (6 * (2 + j) + 2) = nI j ∧ E (6 * (2 + j) + 3) = nI (3 + j) ∧ E (6 * (2 + j) + 4) = 100 ∧ E (6 * (2 + j) + 5) = 25
def RR (J N : Nat → Nat → Nat → Int32) (n τ : Nat) : Prop := ∃ (E F : Nat → Int32) (a t : Nat), KV J E a t ∧ KV N F a t ∧ SG E F a ∧ FA E ∧ 5 ≤ a ∧ a ≤ n ∧ t ≤ τ
abbrev sTr (J : Nat → Nat → Nat → Int32) (q : Int32) : Nat → Nat → Nat → Int32 := vm_46 J (trX J q).1 (trX J q).2.1
abbrev sLs (J : Nat → Nat → Nat → Int32) : Nat → Nat → Nat → Int32 := vm_46 J (lsX J).1 (lsX J).2.1
abbrev sRu (J : Nat → Nat → Nat → Int32) : Nat → Nat → Nat → Int32 := vm_replay J (J 0 0 7) (-1)
def al0 (J : Nat → Nat → Nat → Int32) : Nat → Nat → Nat → Int32 := sRu (sLs (vm_pP J))
def alO (k : Nat) (J : Nat → Nat → Nat → Int32) : Nat → Nat → Nat → Int32 := sTr (vm_tal (vm_pP (vm_pP J))) (nI k)
def alP (k : Nat) (J : Nat → Nat → Nat → Int32) : Nat → Nat → Nat → Int32 := sTr (vm_tal (vm_pP (vm_pP J))) (otF (nI k))
def soS (k : Nat) (J : Nat → Nat → Nat → Int32) : Nat → Nat → Nat → Int32 := sTr (if tpF (vm_tal (vm_pP (vm_tal (vm_pP (vm_pP J))))) (nI k) < 2 then vm_tal (vm_pP (vm_tal (vm_pP (vm_pP J)))) else sTr (vm_fr (vm_tal (vm_pP (vm_tal (vm_pP (vm_pP J))))) (nI k)) (nI k)) (nI k)
def soP (J : Nat → Nat → Nat → Int32) (k : Nat) (a : Int32) : Int32 := a + shF (it soS k J) (nI k) 0
def soQ (J : Nat → Nat → Nat → Int32) (k : Nat) (a : Int32) : Int32 := a + shF (vm_pP (it soS k J)) (nI k) 1
def slC (J : Nat → Nat → Nat → Int32) (x : Int32) : Bool := if psF J 8 ≤ x then false else true
def dvF (x : UInt64) : Int32 := Op.cmpValue (FP.dcmp x FP.dconst1) .g
def slB (x : Int32) : Int32 := x + 1
def soE (J : Nat → Nat → Nat → Int32) : Nat → Nat → Nat → Int32 := vm_pP (sLs (vm_id J))
/-! what the walks of the law's methods rest on -/
theorem ot_sg : ∀ k, k < 10 → otF (nI k) = nI (sg k) ∧ sg k < 10 := by decide +kernel
theorem kv_cg {J X : Nat → Nat → Nat → Int32} {E : Nat → Int32} {N t : Nat} (h : KV J E N t) (h0 : X 0 = J 0) (h3 : X 3 = J 3) (h7 : X 7 = J 7) : KV X E N t := ⟨h.1, h.2.1, inv_cg h.2.2 h0 h3 h7 rfl rfl rfl eq_n.rf rfl rfl⟩
theorem pj_cg {J X : Nat → Nat → Nat → Int32} (h : PJ J) (h0 : X 0 = J 0) (h3 : X 3 = J 3) (h7 : X 7 = J 7) : PJ X := by
  obtain ⟨E, N, t, h⟩ := h; exact ⟨E, N, t, kv_cg h h0 h3 h7⟩
theorem rr_cg {J N X Y : Nat → Nat → Nat → Int32} {n τ : Nat} (h : RR J N n τ) (h0 : X 0 = J 0) (h3 : X 3 = J 3) (h7 : X 7 = J 7) (k0 : Y 0 = N 0) (k3 : Y 3 = N 3) (k7 : Y 7 = N 7) : RR X Y n τ := by
  obtain ⟨E, F, a, t, h1, h2, h⟩ := h; exact ⟨E, F, a, t, kv_cg h1 h0 h3 h7, kv_cg h2 k0 k3 k7, h⟩
theorem rr_l {J N : Nat → Nat → Nat → Int32} {n τ : Nat} (h : RR J N n τ) : PJ J := by
  obtain ⟨E, F, a, t, h1, h2, h⟩ := h; exact ⟨E, a, t, h1⟩
theorem rr_r {J N : Nat → Nat → Nat → Int32} {n τ : Nat} (h : RR J N n τ) : PJ N := by
  obtain ⟨E, F, a, t, h1, h2, h⟩ := h; exact ⟨F, a, t, h2⟩
theorem vp_o (J : Nat → Nat → Nat → Int32) : vm_pP J 0 = J 0 ∧ vm_pP J 3 = J 3 ∧ vm_pP J 7 = J 7 := ⟨rfl, rfl, rfl⟩
theorem vt_o (J : Nat → Nat → Nat → Int32) : vm_tal J 0 = J 0 ∧ vm_tal J 3 = J 3 ∧ vm_tal J 7 = J 7 := ⟨rfl, rfl, rfl⟩
theorem vr_o (J : Nat → Nat → Nat → Int32) (t w : Int32) : vm_replay J t w 0 = J 0 ∧ vm_replay J t w 3 = J 3 ∧ vm_replay J t w 7 = J 7 := ⟨rfl, rfl, rfl⟩
theorem vf_o (J : Nat → Nat → Nat → Int32) (q : Int32) : vm_fr J q 0 = J 0 ∧ vm_fr J q 3 = J 3 ∧ vm_fr J q 7 = J 7 := by unfold vm_fr; split <;> exact ⟨rfl, rfl, rfl⟩
theorem v4_o (J : Nat → Nat → Nat → Int32) (R O : Nat → Nat → Int32) : vm_46 J R O 0 = J 0 ∧ vm_46 J R O 3 = J 3 ∧ vm_46 J R O 7 = J 7 := ⟨rfl, rfl, rfl⟩
theorem vi_o (J : Nat → Nat → Nat → Int32) : vm_id J 0 = J 0 ∧ vm_id J 3 = J 3 ∧ vm_id J 7 = J 7 := ⟨rfl, rfl, rfl⟩
theorem a0_o (J : Nat → Nat → Nat → Int32) : al0 J 0 = J 0 ∧ al0 J 3 = J 3 ∧ al0 J 7 = J 7 := ⟨rfl, rfl, rfl⟩
theorem ao_o (k : Nat) (J : Nat → Nat → Nat → Int32) : alO k J 0 = J 0 ∧ alO k J 3 = J 3 ∧ alO k J 7 = J 7 := ⟨rfl, rfl, rfl⟩
theorem ap_o (k : Nat) (J : Nat → Nat → Nat → Int32) : alP k J 0 = J 0 ∧ alP k J 3 = J 3 ∧ alP k J 7 = J 7 := ⟨rfl, rfl, rfl⟩
theorem so_o (k : Nat) (J : Nat → Nat → Nat → Int32) : soS k J 0 = J 0 ∧ soS k J 3 = J 3 ∧ soS k J 7 = J 7 := by
  unfold soS; split
  · exact ⟨rfl, rfl, rfl⟩
  · exact vf_o (vm_tal (vm_pP (vm_tal (vm_pP (vm_pP J))))) (nI k)
theorem it_o {f : Nat → (Nat → Nat → Nat → Int32) → Nat → Nat → Nat → Int32} (hf : ∀ k J, f k J 0 = J 0 ∧ f k J 3 = J 3 ∧ f k J 7 = J 7) (J : Nat → Nat → Nat → Int32) : ∀ i : Nat, it f i J 0 = J 0 ∧ it f i J 3 = J 3 ∧ it f i J 7 = J 7
  | 0 => ⟨rfl, rfl, rfl⟩
  | i + 1 => by
    obtain ⟨a, b, c⟩ := it_o hf J i
    obtain ⟨d, e, g⟩ := hf i (it f i J)
    rw [it_s]; exact ⟨d.trans a, e.trans b, g.trans c⟩
theorem pj_pP {J : Nat → Nat → Nat → Int32} (h : PJ J) : PJ (vm_pP J) := pj_cg h rfl rfl rfl
theorem pj_tal {J : Nat → Nat → Nat → Int32} (h : PJ J) : PJ (vm_tal J) := pj_cg h rfl rfl rfl
theorem pj_46 {J : Nat → Nat → Nat → Int32} (R O : Nat → Nat → Int32) (h : PJ J) : PJ (vm_46 J R O) := pj_cg h rfl rfl rfl
theorem pj_fr {J : Nat → Nat → Nat → Int32} (q : Int32) (h : PJ J) : PJ (vm_fr J q) := pj_cg h (vf_o J q).1 (vf_o J q).2.1 (vf_o J q).2.2
theorem pj_rp {J : Nat → Nat → Nat → Int32} (t w : Int32) (h : PJ J) : PJ (vm_replay J t w) := pj_cg h rfl rfl rfl
theorem pj_id {J : Nat → Nat → Nat → Int32} (h : PJ J) : PJ (vm_id J) := pj_cg h rfl rfl rfl
theorem pj_so {J : Nat → Nat → Nat → Int32} (h : PJ J) (i : Nat) : PJ (it soS i J) := pj_cg h (it_o so_o J i).1 (it_o so_o J i).2.1 (it_o so_o J i).2.2
theorem rr_pP {J N : Nat → Nat → Nat → Int32} {n τ : Nat} (h : RR J N n τ) : RR (vm_pP J) (vm_pP N) n τ := rr_cg h rfl rfl rfl rfl rfl rfl
theorem rr_tal {J N : Nat → Nat → Nat → Int32} {n τ : Nat} (h : RR J N n τ) : RR (vm_tal J) (vm_tal N) n τ := rr_cg h rfl rfl rfl rfl rfl rfl
theorem rr_46 {J N : Nat → Nat → Nat → Int32} {n τ : Nat} (A B C D : Nat → Nat → Int32) (h : RR J N n τ) : RR (vm_46 J A B) (vm_46 N C D) n τ := rr_cg h rfl rfl rfl rfl rfl rfl
theorem rr_al {J N : Nat → Nat → Nat → Int32} {n τ : Nat} (h : RR J N n τ) (i : Nat) : RR (it alO i (al0 J)) (it alP i (al0 N)) n τ :=
  rr_cg h ((it_o ao_o (al0 J) i).1.trans (a0_o J).1) ((it_o ao_o (al0 J) i).2.1.trans (a0_o J).2.1) ((it_o ao_o (al0 J) i).2.2.trans (a0_o J).2.2) ((it_o ap_o (al0 N) i).1.trans (a0_o N).1) ((it_o ap_o (al0 N) i).2.1.trans (a0_o N).2.1) ((it_o ap_o (al0 N) i).2.2.trans (a0_o N).2.2)
