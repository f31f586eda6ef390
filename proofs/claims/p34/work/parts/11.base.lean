/-! the states: rows of numbers. A group of cells (a Mix, a Log, ..) has a state M : M 0 its int fields, M 1, M 2 .. its arrays -/
def sF (M : Nat → Nat → Int32) (r i : Nat) (v : Int32) : Nat → Nat → Int32 := fun r' => if r' = r then upd (M r) i v else M r'
def sR (M : Nat → Nat → Int32) (r : Nat) (f : Nat → Int32) : Nat → Nat → Int32 := fun r' => if r' = r then f else M r'
def gs (J : Nat → Nat → Nat → Int32) (g : Nat) (M : Nat → Nat → Int32) : Nat → Nat → Nat → Int32 := fun g' => if g' = g then M else J g'
theorem sR_eq (M : Nat → Nat → Int32) (r : Nat) (f : Nat → Int32) : sR M r f r = f := if_pos rfl
theorem sR_ne (M : Nat → Nat → Int32) (r : Nat) (f : Nat → Int32) {q : Nat} (h : (q == r) = false) : sR M r f q = M q := if_neg (by simpa using h)
theorem sF_eq (M : Nat → Nat → Int32) (r i : Nat) (v : Int32) : sF M r i v r = upd (M r) i v := if_pos rfl
theorem sF_ne (M : Nat → Nat → Int32) (r i : Nat) (v : Int32) {q : Nat} (h : (q == r) = false) : sF M r i v q = M q := if_neg (by simpa using h)
theorem upd_eq (f : Nat → Int32) (k : Nat) (v : Int32) : upd f k v k = v := if_pos rfl
theorem upd_ne (f : Nat → Int32) (k : Nat) (v : Int32) {q : Nat} (h : (q == k) = false) : upd f k v q = f q := if_neg (by simpa using h)
theorem gs_eq (J : Nat → Nat → Nat → Int32) (g : Nat) (M : Nat → Nat → Int32) : gs J g M g = M := if_pos rfl
theorem gs_ne (J : Nat → Nat → Nat → Int32) (g : Nat) (M : Nat → Nat → Int32) {q : Nat} (h : (q == g) = false) : gs J g M q = J q := if_neg (by simpa using h)
/-- a Replay's state: rows 0 to 3 its Mix's, row 4 its own -/
def gm (M R : Nat → Nat → Int32) : Nat → Nat → Int32 := fun r => if r = 4 then R 4 else M r
theorem gm_4 (M R : Nat → Nat → Int32) : gm M R 4 = R 4 := rfl
theorem gm_ne (M R : Nat → Nat → Int32) {q : Nat} (h : (q == 4) = false) : gm M R q = M q := if_neg (by simpa using h)
def it {α : Type} (f : Nat → α → α) : Nat → α → α
  | 0, x => x
  | n + 1, x => f n (it f n x)
theorem it_0 {α : Type} (f : Nat → α → α) (x : α) : it f 0 x = x := by
  have h : ∀ n : Nat, n = 0 → it f n x = x := by
    intro n hn
    subst hn
    rfl
  exact h 0 rfl
theorem it_s {α : Type} (f : Nat → α → α) (n : Nat) (x : α) : it f (n + 1) x = f n (it f n x) := by cases n <;> rfl
def lp {α : Type} (c : α → Bool) (b : α → α) : Nat → α → Option α
  | 0, _ => none
  | n + 1, x => if c x then lp c b n (b x) else some x
/-- while c: b, n times at most -/
def lw {α : Type} (c : α → Bool) (b : α → α) : Nat → α → α
  | 0, x => x
  | n + 1, x => if c x then lw c b n (b x) else x
theorem lw_t {α : Type} {c : α → Bool} {b : α → α} {n : Nat} {x : α} (h : c x = true) : lw c b (n + 1) x = lw c b n (b x) := by simp [lw, h]
theorem lw_f {α : Type} {c : α → Bool} {b : α → α} {n : Nat} {x : α} (h : c x = false) : lw c b n x = x := by cases n <;> simp [lw, h]
def cellF (f : Nat → Int32) (n : Nat) (i : Int32) : Int32 := if i < 0 then -1 else if Int32.ofNat n ≤ i then -1 else f i.toNatClampNeg
def putF (f : Nat → Int32) (n : Nat) (i v : Int32) : Nat → Int32 := if i < 0 then f else if Int32.ofNat n ≤ i then f else upd f i.toNatClampNeg v
abbrev wArr (cI : ClassId) (a n : Nat) (f : Nat → Int32) : va_W := [(a, .inl (cI, n, .inl f))]
def wMixR (cI : ClassId) (a : Nat → Nat) (v0 v1 v2 v3 v4 v5 v6 v7 v8 v9 v10 : Int32) (F O P : Nat → Int32) : va_W :=
  [(a 0, .inr (1, [.int v0, .int v1, .int v2, .int v3, .int v4, .int v5, .int v6, .int v7, .int v8, .int v9, .int v10, .ref (a 1), .ref (a 2), .ref (a 3)])), (a 1, .inl (cI, 3, .inl F)), (a 2, .inl (cI, 3, .inl O)), (a 3, .inl (cI, 3, .inl P))]
abbrev wMix (cI : ClassId) (a : Nat → Nat) (M : Nat → Nat → Int32) : va_W := wMixR cI a (M 0 0) (M 0 1) (M 0 2) (M 0 3) (M 0 4) (M 0 5) (M 0 6) (M 0 7) (M 0 8) (M 0 9) (M 0 10) (M 1) (M 2) (M 3)
def wLogR (cI : ClassId) (a : Nat → Nat) (v0 : Int32) (E : Nat → Int32) : va_W :=
  [(a 0, .inr (0, [.ref (a 1), .int v0])), (a 1, .inl (cI, 600, .inl E))]
abbrev wLog (cI : ClassId) (a : Nat → Nat) (M : Nat → Nat → Int32) : va_W := wLogR cI a (M 0 0) (M 1)
def wPicR (cI : ClassId) (a : Nat → Nat) (E : Nat → Int32) : va_W :=
  [(a 0, .inr (2, [.ref (a 1)])), (a 1, .inl (cI, 10, .inl E))]
abbrev wPic (cI : ClassId) (a : Nat → Nat) (M : Nat → Nat → Int32) : va_W := wPicR cI a (M 1)
def wRepR (cI : ClassId) (a : Nat → Nat) (u v0 v1 v2 v3 v4 v5 v6 v7 v8 v9 v10 : Int32) (F O P : Nat → Int32) : va_W :=
  (a 0, .inr (3, [.ref (a 1), .int u])) :: wMixR cI (fun k => a (1 + k)) v0 v1 v2 v3 v4 v5 v6 v7 v8 v9 v10 F O P
abbrev wRep (cI : ClassId) (a : Nat → Nat) (M : Nat → Nat → Int32) : va_W := wRepR cI a (M 4 0) (M 0 0) (M 0 1) (M 0 2) (M 0 3) (M 0 4) (M 0 5) (M 0 6) (M 0 7) (M 0 8) (M 0 9) (M 0 10) (M 1) (M 2) (M 3)
def wScrR (cI : ClassId) (a : Nat → Nat) (v0 v1 v2 v3 : Int32) (E F : Nat → Int32) : va_W :=
  [(a 0, .inr (4, [.ref (a 1), .ref (a 2), .int v0, .int v1, .int v2, .int v3])), (a 1, .inl (cI, 120, .inl E)), (a 2, .inl (cI, 180, .inl F))]
abbrev wScr (cI : ClassId) (a : Nat → Nat) (M : Nat → Nat → Int32) : va_W := wScrR cI a (M 0 0) (M 0 1) (M 0 2) (M 0 3) (M 1) (M 2)
def wVMR (cI : ClassId) (a : Nat → Nat) (M0 M1 M2 L R P1 P2 C : Nat → Nat → Int32) : va_W :=
  (a 0, .inr (5, [.ref (a 1), .ref (a 5), .ref (a 9), .ref (a 13), .ref (a 15), .ref (a 20), .ref (a 22), .ref (a 24)])) ::
  (wMix cI (fun k => a (1 + k)) M0 ++ (wMix cI (fun k => a (5 + k)) M1 ++ (wMix cI (fun k => a (9 + k)) M2 ++ (wLog cI (fun k => a (13 + k)) L ++ (wRep cI (fun k => a (15 + k)) R ++ (wPic cI (fun k => a (20 + k)) P1 ++ (wPic cI (fun k => a (22 + k)) P2 ++ wScr cI (fun k => a (24 + k)) C)))))))
abbrev wVM (cI : ClassId) (a : Nat → Nat) (J : Nat → Nat → Nat → Int32) : va_W := wVMR cI a (J 0) (J 1) (J 2) (J 3) (J 4) (J 5) (J 6) (J 7)
def wMdR (cI : ClassId) (a : Nat → Nat) (v0 v1 v2 v3 v4 v5 v6 v7 v8 v9 v10 v11 v12 : Int32) (E1 E2 E3 E4 E5 E6 : Nat → Int32) : va_W :=
  [(a 0, .inr (6, [.ref (a 1), .ref (a 2), .int v0, .ref (a 3), .int v1, .int v2, .int v3, .ref (a 4), .int v4, .int v5, .int v6, .int v7, .ref (a 5), .ref (a 6), .int v8, .int v9, .int v10, .int v11, .int v12])),
   (a 1, .inl (cI, 20, .inl E1)), (a 2, .inl (cI, 20, .inl E2)), (a 3, .inl (cI, 600, .inl E3)), (a 4, .inl (cI, 10, .inl E4)), (a 5, .inl (cI, 10, .inl E5)), (a 6, .inl (cI, 120, .inl E6))]
abbrev wMd (cI : ClassId) (a : Nat → Nat) (K : Nat → Nat → Int32) : va_W := wMdR cI a (K 0 0) (K 0 1) (K 0 2) (K 0 3) (K 0 4) (K 0 5) (K 0 6) (K 0 7) (K 0 8) (K 0 9) (K 0 10) (K 0 11) (K 0 12) (K 1) (K 2) (K 3) (K 4) (K 5) (K 6)
theorem y_vin {i : Int32} {n : Nat} (hn : n < 2 ^ 31) (h1 : ¬ i < 0) (h2 : ¬ Int32.ofNat n ≤ i) : vp_in i n := by
  rcases pk_ix i hn with h | h | ⟨j, hj, rfl⟩
  · exact absurd h h1
  · exact absurd h h2
  · exact vp_in_nI hj hn
theorem y_sw (x : Int32) (lo n : Nat) (hn : lo + n < 2 ^ 30) : (x.toInt < (lo : Int) ∨ ((lo + n : Nat) : Int) < x.toInt) ∨ ∃ j : Nat, j ≤ n ∧ x = nI (lo + j) := by
  rcases pk_ix x (n := lo + n + 1) (by omega) with h | h | ⟨j, hj, h⟩
  · refine Or.inl (Or.inl ?_)
    have h2 : x.toInt < 0 := by simpa using Int32.lt_iff_toInt_lt.mp h
    omega
  · refine Or.inl (Or.inr ?_)
    have h2 := Int32.le_iff_toInt_le.mp h
    rw [nI_toInt (by omega)] at h2
    omega
  · by_cases hl : j < lo
    · refine Or.inl (Or.inl ?_)
      rw [h, nI_toInt (by omega)]
      omega
    · exact Or.inr ⟨j - lo, by omega, by rw [h]; congr 1; omega⟩
theorem y_swn {x : Int32} {lo hi : Int} (h : x.toInt < lo ∨ hi < x.toInt) (k : Int32) (h0 : ¬ k.toInt < lo) (h1 : ¬ hi < k.toInt) : ¬ x = k := by
  rintro rfl
  rcases h with h | h
  · exact h0 h
  · exact h1 h
theorem y_lkn {x k : Int32} (h : ¬ x = k) : ¬ k.toInt = x.toInt := fun e => h (Int32.toInt_inj.mp e.symm)
theorem nm_RX0_17 : Cond.methodLinkNest RX0 17 yX5_put RX5 ∈ yNest := List.mem_of_getElem? (i := 0) rfl
theorem nm_RX0_23 : Cond.methodLinkNest RX0 23 yX5_cell RX5 ∈ yNest := List.mem_of_getElem? (i := 1) rfl
theorem nm_RX1_58 : Cond.methodLinkNest RX1 58 yX5_put RX5 ∈ yNest := List.mem_of_getElem? (i := 2) rfl
theorem nm_RX1_62 : Cond.methodLinkNest RX1 62 yX5_cell RX5 ∈ yNest := List.mem_of_getElem? (i := 3) rfl
theorem nm_RX2_15 : Cond.methodLinkNest RX2 15 yX5_put RX5 ∈ yNest := List.mem_of_getElem? (i := 4) rfl
theorem nm_RX2_58 : Cond.methodLinkNest RX2 58 yX5_cell RX5 ∈ yNest := List.mem_of_getElem? (i := 5) rfl
theorem nm_RX2_70 : Cond.methodLinkNest RX2 70 yX5_hasSource RX5 ∈ yNest := List.mem_of_getElem? (i := 6) rfl
theorem nl_RX5_120 : Cond.fieldLinkNest RX5 120 RX3 "mix" "LVisionMixer$Mix;" RX5 ∈ yNest := List.mem_of_getElem? (i := 7) rfl
theorem nl_RX5_145 : Cond.fieldLinkNest RX5 145 RX1 "runsCompleted" "I" RX5 ∈ yNest := List.mem_of_getElem? (i := 8) rfl
theorem nl_RX5_71 : Cond.fieldLinkNest RX5 71 RX1 "time" "I" RX5 ∈ yNest := List.mem_of_getElem? (i := 9) rfl
theorem nl_RX5_93 : Cond.fieldLinkNest RX5 93 RX1 "faults" "I" RX5 ∈ yNest := List.mem_of_getElem? (i := 10) rfl
theorem nl_RX2_36 : Cond.fieldLinkNest RX2 36 RX1 "position" "I" RX5 ∈ yNest := List.mem_of_getElem? (i := 11) rfl
theorem nl_RX2_44 : Cond.fieldLinkNest RX2 44 RX1 "program" "I" RX5 ∈ yNest := List.mem_of_getElem? (i := 12) rfl
theorem nl_RX2_51 : Cond.fieldLinkNest RX2 51 RX1 "kind" "I" RX5 ∈ yNest := List.mem_of_getElem? (i := 13) rfl
theorem nl_RX2_54 : Cond.fieldLinkNest RX2 54 RX1 "preview" "I" RX5 ∈ yNest := List.mem_of_getElem? (i := 14) rfl
theorem nl_RX3_35 : Cond.fieldLinkNest RX3 35 RX1 "time" "I" RX5 ∈ yNest := List.mem_of_getElem? (i := 15) rfl
theorem nl_RX3_46 : Cond.fieldLinkNest RX3 46 RX1 "run" "I" RX5 ∈ yNest := List.mem_of_getElem? (i := 16) rfl
theorem hs_X0_size : yX0_size.cls ≠ "java/lang/invoke/MethodHandle" ∧ yX0_size.cls ≠ "java/lang/invoke/VarHandle" ∧ (parseMethodDescriptor yX0_size.desc).map (fun d => d.parameters.length) = some 0 := by decide +kernel
theorem hd_X0_size : yX0_size.cls = RX0 ∧ yX0_size.cls ≠ "java/lang/invoke/MethodHandle" ∧ yX0_size.cls ≠ "java/lang/invoke/VarHandle" ∧ (parseMethodDescriptor yX0_size.desc).map (fun d => d.parameters.length) = some 0 := ⟨rfl, hs_X0_size⟩
theorem hs_X0_isFull : yX0_isFull.cls ≠ "java/lang/invoke/MethodHandle" ∧ yX0_isFull.cls ≠ "java/lang/invoke/VarHandle" ∧ (parseMethodDescriptor yX0_isFull.desc).map (fun d => d.parameters.length) = some 0 := by decide +kernel
theorem hd_X0_isFull : yX0_isFull.cls = RX0 ∧ yX0_isFull.cls ≠ "java/lang/invoke/MethodHandle" ∧ yX0_isFull.cls ≠ "java/lang/invoke/VarHandle" ∧ (parseMethodDescriptor yX0_isFull.desc).map (fun d => d.parameters.length) = some 0 := ⟨rfl, hs_X0_isFull⟩
theorem hs_X0_add : yX0_add.cls ≠ "java/lang/invoke/MethodHandle" ∧ yX0_add.cls ≠ "java/lang/invoke/VarHandle" ∧ (parseMethodDescriptor yX0_add.desc).map (fun d => d.parameters.length) = some 6 := by decide +kernel
theorem hd_X0_add : yX0_add.cls = RX0 ∧ yX0_add.cls ≠ "java/lang/invoke/MethodHandle" ∧ yX0_add.cls ≠ "java/lang/invoke/VarHandle" ∧ (parseMethodDescriptor yX0_add.desc).map (fun d => d.parameters.length) = some 6 := ⟨rfl, hs_X0_add⟩
theorem hs_X0_remove : yX0_remove.cls ≠ "java/lang/invoke/MethodHandle" ∧ yX0_remove.cls ≠ "java/lang/invoke/VarHandle" ∧ (parseMethodDescriptor yX0_remove.desc).map (fun d => d.parameters.length) = some 1 := by decide +kernel
theorem hd_X0_remove : yX0_remove.cls = RX0 ∧ yX0_remove.cls ≠ "java/lang/invoke/MethodHandle" ∧ yX0_remove.cls ≠ "java/lang/invoke/VarHandle" ∧ (parseMethodDescriptor yX0_remove.desc).map (fun d => d.parameters.length) = some 1 := ⟨rfl, hs_X0_remove⟩
theorem hs_X0_tell : yX0_tell.cls ≠ "java/lang/invoke/MethodHandle" ∧ yX0_tell.cls ≠ "java/lang/invoke/VarHandle" ∧ (parseMethodDescriptor yX0_tell.desc).map (fun d => d.parameters.length) = some 2 := by decide +kernel
theorem hd_X0_tell : yX0_tell.cls = RX0 ∧ yX0_tell.cls ≠ "java/lang/invoke/MethodHandle" ∧ yX0_tell.cls ≠ "java/lang/invoke/VarHandle" ∧ (parseMethodDescriptor yX0_tell.desc).map (fun d => d.parameters.length) = some 2 := ⟨rfl, hs_X0_tell⟩
theorem hs_X0_timeOf : yX0_timeOf.cls ≠ "java/lang/invoke/MethodHandle" ∧ yX0_timeOf.cls ≠ "java/lang/invoke/VarHandle" ∧ (parseMethodDescriptor yX0_timeOf.desc).map (fun d => d.parameters.length) = some 1 := by decide +kernel
theorem hd_X0_timeOf : yX0_timeOf.cls = RX0 ∧ yX0_timeOf.cls ≠ "java/lang/invoke/MethodHandle" ∧ yX0_timeOf.cls ≠ "java/lang/invoke/VarHandle" ∧ (parseMethodDescriptor yX0_timeOf.desc).map (fun d => d.parameters.length) = some 1 := ⟨rfl, hs_X0_timeOf⟩
theorem hs_X0_redo : yX0_redo.cls ≠ "java/lang/invoke/MethodHandle" ∧ yX0_redo.cls ≠ "java/lang/invoke/VarHandle" ∧ (parseMethodDescriptor yX0_redo.desc).map (fun d => d.parameters.length) = some 2 := by decide +kernel
theorem hd_X0_redo : yX0_redo.cls = RX0 ∧ yX0_redo.cls ≠ "java/lang/invoke/MethodHandle" ∧ yX0_redo.cls ≠ "java/lang/invoke/VarHandle" ∧ (parseMethodDescriptor yX0_redo.desc).map (fun d => d.parameters.length) = some 2 := ⟨rfl, hs_X0_redo⟩
theorem hs_X1_reset : yX1_reset.cls ≠ "java/lang/invoke/MethodHandle" ∧ yX1_reset.cls ≠ "java/lang/invoke/VarHandle" ∧ (parseMethodDescriptor yX1_reset.desc).map (fun d => d.parameters.length) = some 0 := by decide +kernel
theorem hd_X1_reset : yX1_reset.cls = RX1 ∧ yX1_reset.cls ≠ "java/lang/invoke/MethodHandle" ∧ yX1_reset.cls ≠ "java/lang/invoke/VarHandle" ∧ (parseMethodDescriptor yX1_reset.desc).map (fun d => d.parameters.length) = some 0 := ⟨rfl, hs_X1_reset⟩
theorem hs_X1_copy : yX1_copy.cls ≠ "java/lang/invoke/MethodHandle" ∧ yX1_copy.cls ≠ "java/lang/invoke/VarHandle" ∧ (parseMethodDescriptor yX1_copy.desc).map (fun d => d.parameters.length) = some 1 := by decide +kernel
theorem hd_X1_copy : yX1_copy.cls = RX1 ∧ yX1_copy.cls ≠ "java/lang/invoke/MethodHandle" ∧ yX1_copy.cls ≠ "java/lang/invoke/VarHandle" ∧ (parseMethodDescriptor yX1_copy.desc).map (fun d => d.parameters.length) = some 1 := ⟨rfl, hs_X1_copy⟩
theorem hs_X1_isPossible : yX1_isPossible.cls ≠ "java/lang/invoke/MethodHandle" ∧ yX1_isPossible.cls ≠ "java/lang/invoke/VarHandle" ∧ (parseMethodDescriptor yX1_isPossible.desc).map (fun d => d.parameters.length) = some 1 := by decide +kernel
theorem hd_X1_isPossible : yX1_isPossible.cls = RX1 ∧ yX1_isPossible.cls ≠ "java/lang/invoke/MethodHandle" ∧ yX1_isPossible.cls ≠ "java/lang/invoke/VarHandle" ∧ (parseMethodDescriptor yX1_isPossible.desc).map (fun d => d.parameters.length) = some 1 := ⟨rfl, hs_X1_isPossible⟩
theorem hs_X1_perform : yX1_perform.cls ≠ "java/lang/invoke/MethodHandle" ∧ yX1_perform.cls ≠ "java/lang/invoke/VarHandle" ∧ (parseMethodDescriptor yX1_perform.desc).map (fun d => d.parameters.length) = some 5 := by decide +kernel
theorem hd_X1_perform : yX1_perform.cls = RX1 ∧ yX1_perform.cls ≠ "java/lang/invoke/MethodHandle" ∧ yX1_perform.cls ≠ "java/lang/invoke/VarHandle" ∧ (parseMethodDescriptor yX1_perform.desc).map (fun d => d.parameters.length) = some 5 := ⟨rfl, hs_X1_perform⟩
theorem hs_X1_setProgram : yX1_setProgram.cls ≠ "java/lang/invoke/MethodHandle" ∧ yX1_setProgram.cls ≠ "java/lang/invoke/VarHandle" ∧ (parseMethodDescriptor yX1_setProgram.desc).map (fun d => d.parameters.length) = some 1 := by decide +kernel
theorem hd_X1_setProgram : yX1_setProgram.cls = RX1 ∧ yX1_setProgram.cls ≠ "java/lang/invoke/MethodHandle" ∧ yX1_setProgram.cls ≠ "java/lang/invoke/VarHandle" ∧ (parseMethodDescriptor yX1_setProgram.desc).map (fun d => d.parameters.length) = some 1 := ⟨rfl, hs_X1_setProgram⟩
theorem hs_X1_setPreview : yX1_setPreview.cls ≠ "java/lang/invoke/MethodHandle" ∧ yX1_setPreview.cls ≠ "java/lang/invoke/VarHandle" ∧ (parseMethodDescriptor yX1_setPreview.desc).map (fun d => d.parameters.length) = some 1 := by decide +kernel
theorem hd_X1_setPreview : yX1_setPreview.cls = RX1 ∧ yX1_setPreview.cls ≠ "java/lang/invoke/MethodHandle" ∧ yX1_setPreview.cls ≠ "java/lang/invoke/VarHandle" ∧ (parseMethodDescriptor yX1_setPreview.desc).map (fun d => d.parameters.length) = some 1 := ⟨rfl, hs_X1_setPreview⟩
theorem hs_X1_setKindAndRate : yX1_setKindAndRate.cls ≠ "java/lang/invoke/MethodHandle" ∧ yX1_setKindAndRate.cls ≠ "java/lang/invoke/VarHandle" ∧ (parseMethodDescriptor yX1_setKindAndRate.desc).map (fun d => d.parameters.length) = some 2 := by decide +kernel
theorem hd_X1_setKindAndRate : yX1_setKindAndRate.cls = RX1 ∧ yX1_setKindAndRate.cls ≠ "java/lang/invoke/MethodHandle" ∧ yX1_setKindAndRate.cls ≠ "java/lang/invoke/VarHandle" ∧ (parseMethodDescriptor yX1_setKindAndRate.desc).map (fun d => d.parameters.length) = some 2 := ⟨rfl, hs_X1_setKindAndRate⟩
theorem hs_X1_setElements : yX1_setElements.cls ≠ "java/lang/invoke/MethodHandle" ∧ yX1_setElements.cls ≠ "java/lang/invoke/VarHandle" ∧ (parseMethodDescriptor yX1_setElements.desc).map (fun d => d.parameters.length) = some 1 := by decide +kernel
theorem hd_X1_setElements : yX1_setElements.cls = RX1 ∧ yX1_setElements.cls ≠ "java/lang/invoke/MethodHandle" ∧ yX1_setElements.cls ≠ "java/lang/invoke/VarHandle" ∧ (parseMethodDescriptor yX1_setElements.desc).map (fun d => d.parameters.length) = some 1 := ⟨rfl, hs_X1_setElements⟩
theorem hs_X1_setKeyer : yX1_setKeyer.cls ≠ "java/lang/invoke/MethodHandle" ∧ yX1_setKeyer.cls ≠ "java/lang/invoke/VarHandle" ∧ (parseMethodDescriptor yX1_setKeyer.desc).map (fun d => d.parameters.length) = some 4 := by decide +kernel
theorem hd_X1_setKeyer : yX1_setKeyer.cls = RX1 ∧ yX1_setKeyer.cls ≠ "java/lang/invoke/MethodHandle" ∧ yX1_setKeyer.cls ≠ "java/lang/invoke/VarHandle" ∧ (parseMethodDescriptor yX1_setKeyer.desc).map (fun d => d.parameters.length) = some 4 := ⟨rfl, hs_X1_setKeyer⟩
theorem hs_X1_switchKeyer : yX1_switchKeyer.cls ≠ "java/lang/invoke/MethodHandle" ∧ yX1_switchKeyer.cls ≠ "java/lang/invoke/VarHandle" ∧ (parseMethodDescriptor yX1_switchKeyer.desc).map (fun d => d.parameters.length) = some 1 := by decide +kernel
theorem hd_X1_switchKeyer : yX1_switchKeyer.cls = RX1 ∧ yX1_switchKeyer.cls ≠ "java/lang/invoke/MethodHandle" ∧ yX1_switchKeyer.cls ≠ "java/lang/invoke/VarHandle" ∧ (parseMethodDescriptor yX1_switchKeyer.desc).map (fun d => d.parameters.length) = some 1 := ⟨rfl, hs_X1_switchKeyer⟩
theorem hs_X1_setPosition : yX1_setPosition.cls ≠ "java/lang/invoke/MethodHandle" ∧ yX1_setPosition.cls ≠ "java/lang/invoke/VarHandle" ∧ (parseMethodDescriptor yX1_setPosition.desc).map (fun d => d.parameters.length) = some 1 := by decide +kernel
theorem hd_X1_setPosition : yX1_setPosition.cls = RX1 ∧ yX1_setPosition.cls ≠ "java/lang/invoke/MethodHandle" ∧ yX1_setPosition.cls ≠ "java/lang/invoke/VarHandle" ∧ (parseMethodDescriptor yX1_setPosition.desc).map (fun d => d.parameters.length) = some 1 := ⟨rfl, hs_X1_setPosition⟩
theorem hs_X1_setFault : yX1_setFault.cls ≠ "java/lang/invoke/MethodHandle" ∧ yX1_setFault.cls ≠ "java/lang/invoke/VarHandle" ∧ (parseMethodDescriptor yX1_setFault.desc).map (fun d => d.parameters.length) = some 2 := by decide +kernel
theorem hd_X1_setFault : yX1_setFault.cls = RX1 ∧ yX1_setFault.cls ≠ "java/lang/invoke/MethodHandle" ∧ yX1_setFault.cls ≠ "java/lang/invoke/VarHandle" ∧ (parseMethodDescriptor yX1_setFault.desc).map (fun d => d.parameters.length) = some 2 := ⟨rfl, hs_X1_setFault⟩
theorem hs_X1_complete : yX1_complete.cls ≠ "java/lang/invoke/MethodHandle" ∧ yX1_complete.cls ≠ "java/lang/invoke/VarHandle" ∧ (parseMethodDescriptor yX1_complete.desc).map (fun d => d.parameters.length) = some 0 := by decide +kernel
theorem hd_X1_complete : yX1_complete.cls = RX1 ∧ yX1_complete.cls ≠ "java/lang/invoke/MethodHandle" ∧ yX1_complete.cls ≠ "java/lang/invoke/VarHandle" ∧ (parseMethodDescriptor yX1_complete.desc).map (fun d => d.parameters.length) = some 0 := ⟨rfl, hs_X1_complete⟩
theorem hs_X1_letPass : yX1_letPass.cls ≠ "java/lang/invoke/MethodHandle" ∧ yX1_letPass.cls ≠ "java/lang/invoke/VarHandle" ∧ (parseMethodDescriptor yX1_letPass.desc).map (fun d => d.parameters.length) = some 1 := by decide +kernel
theorem hd_X1_letPass : yX1_letPass.cls = RX1 ∧ yX1_letPass.cls ≠ "java/lang/invoke/MethodHandle" ∧ yX1_letPass.cls ≠ "java/lang/invoke/VarHandle" ∧ (parseMethodDescriptor yX1_letPass.desc).map (fun d => d.parameters.length) = some 1 := ⟨rfl, hs_X1_letPass⟩
theorem hs_X1_movesBackground : yX1_movesBackground.cls ≠ "java/lang/invoke/MethodHandle" ∧ yX1_movesBackground.cls ≠ "java/lang/invoke/VarHandle" ∧ (parseMethodDescriptor yX1_movesBackground.desc).map (fun d => d.parameters.length) = some 0 := by decide +kernel
theorem hd_X1_movesBackground : yX1_movesBackground.cls = RX1 ∧ yX1_movesBackground.cls ≠ "java/lang/invoke/MethodHandle" ∧ yX1_movesBackground.cls ≠ "java/lang/invoke/VarHandle" ∧ (parseMethodDescriptor yX1_movesBackground.desc).map (fun d => d.parameters.length) = some 0 := ⟨rfl, hs_X1_movesBackground⟩
theorem hs_X1_moves : yX1_moves.cls ≠ "java/lang/invoke/MethodHandle" ∧ yX1_moves.cls ≠ "java/lang/invoke/VarHandle" ∧ (parseMethodDescriptor yX1_moves.desc).map (fun d => d.parameters.length) = some 1 := by decide +kernel
theorem hd_X1_moves : yX1_moves.cls = RX1 ∧ yX1_moves.cls ≠ "java/lang/invoke/MethodHandle" ∧ yX1_moves.cls ≠ "java/lang/invoke/VarHandle" ∧ (parseMethodDescriptor yX1_moves.desc).map (fun d => d.parameters.length) = some 1 := ⟨rfl, hs_X1_moves⟩
theorem hs_X1_isOn : yX1_isOn.cls ≠ "java/lang/invoke/MethodHandle" ∧ yX1_isOn.cls ≠ "java/lang/invoke/VarHandle" ∧ (parseMethodDescriptor yX1_isOn.desc).map (fun d => d.parameters.length) = some 1 := by decide +kernel
theorem hd_X1_isOn : yX1_isOn.cls = RX1 ∧ yX1_isOn.cls ≠ "java/lang/invoke/MethodHandle" ∧ yX1_isOn.cls ≠ "java/lang/invoke/VarHandle" ∧ (parseMethodDescriptor yX1_isOn.desc).map (fun d => d.parameters.length) = some 1 := ⟨rfl, hs_X1_isOn⟩
theorem hs_X1_fillOf : yX1_fillOf.cls ≠ "java/lang/invoke/MethodHandle" ∧ yX1_fillOf.cls ≠ "java/lang/invoke/VarHandle" ∧ (parseMethodDescriptor yX1_fillOf.desc).map (fun d => d.parameters.length) = some 1 := by decide +kernel
theorem hd_X1_fillOf : yX1_fillOf.cls = RX1 ∧ yX1_fillOf.cls ≠ "java/lang/invoke/MethodHandle" ∧ yX1_fillOf.cls ≠ "java/lang/invoke/VarHandle" ∧ (parseMethodDescriptor yX1_fillOf.desc).map (fun d => d.parameters.length) = some 1 := ⟨rfl, hs_X1_fillOf⟩
theorem hs_X1_coverOf : yX1_coverOf.cls ≠ "java/lang/invoke/MethodHandle" ∧ yX1_coverOf.cls ≠ "java/lang/invoke/VarHandle" ∧ (parseMethodDescriptor yX1_coverOf.desc).map (fun d => d.parameters.length) = some 1 := by decide +kernel
theorem hd_X1_coverOf : yX1_coverOf.cls = RX1 ∧ yX1_coverOf.cls ≠ "java/lang/invoke/MethodHandle" ∧ yX1_coverOf.cls ≠ "java/lang/invoke/VarHandle" ∧ (parseMethodDescriptor yX1_coverOf.desc).map (fun d => d.parameters.length) = some 1 := ⟨rfl, hs_X1_coverOf⟩
theorem hs_X1_tellSetting : yX1_tellSetting.cls ≠ "java/lang/invoke/MethodHandle" ∧ yX1_tellSetting.cls ≠ "java/lang/invoke/VarHandle" ∧ (parseMethodDescriptor yX1_tellSetting.desc).map (fun d => d.parameters.length) = some 1 := by decide +kernel
theorem hd_X1_tellSetting : yX1_tellSetting.cls = RX1 ∧ yX1_tellSetting.cls ≠ "java/lang/invoke/MethodHandle" ∧ yX1_tellSetting.cls ≠ "java/lang/invoke/VarHandle" ∧ (parseMethodDescriptor yX1_tellSetting.desc).map (fun d => d.parameters.length) = some 1 := ⟨rfl, hs_X1_tellSetting⟩
theorem hs_X1_tellKeyer : yX1_tellKeyer.cls ≠ "java/lang/invoke/MethodHandle" ∧ yX1_tellKeyer.cls ≠ "java/lang/invoke/VarHandle" ∧ (parseMethodDescriptor yX1_tellKeyer.desc).map (fun d => d.parameters.length) = some 2 := by decide +kernel
theorem hd_X1_tellKeyer : yX1_tellKeyer.cls = RX1 ∧ yX1_tellKeyer.cls ≠ "java/lang/invoke/MethodHandle" ∧ yX1_tellKeyer.cls ≠ "java/lang/invoke/VarHandle" ∧ (parseMethodDescriptor yX1_tellKeyer.desc).map (fun d => d.parameters.length) = some 2 := ⟨rfl, hs_X1_tellKeyer⟩
theorem hs_X2_paint : yX2_paint.cls ≠ "java/lang/invoke/MethodHandle" ∧ yX2_paint.cls ≠ "java/lang/invoke/VarHandle" ∧ (parseMethodDescriptor yX2_paint.desc).map (fun d => d.parameters.length) = some 1 := by decide +kernel
theorem hd_X2_paint : yX2_paint.cls = RX2 ∧ yX2_paint.cls ≠ "java/lang/invoke/MethodHandle" ∧ yX2_paint.cls ≠ "java/lang/invoke/VarHandle" ∧ (parseMethodDescriptor yX2_paint.desc).map (fun d => d.parameters.length) = some 1 := ⟨rfl, hs_X2_paint⟩
theorem hs_X2_paintBackground : yX2_paintBackground.cls ≠ "java/lang/invoke/MethodHandle" ∧ yX2_paintBackground.cls ≠ "java/lang/invoke/VarHandle" ∧ (parseMethodDescriptor yX2_paintBackground.desc).map (fun d => d.parameters.length) = some 1 := by decide +kernel
theorem hd_X2_paintBackground : yX2_paintBackground.cls = RX2 ∧ yX2_paintBackground.cls ≠ "java/lang/invoke/MethodHandle" ∧ yX2_paintBackground.cls ≠ "java/lang/invoke/VarHandle" ∧ (parseMethodDescriptor yX2_paintBackground.desc).map (fun d => d.parameters.length) = some 1 := ⟨rfl, hs_X2_paintBackground⟩
theorem hs_X2_addPart : yX2_addPart.cls ≠ "java/lang/invoke/MethodHandle" ∧ yX2_addPart.cls ≠ "java/lang/invoke/VarHandle" ∧ (parseMethodDescriptor yX2_addPart.desc).map (fun d => d.parameters.length) = some 2 := by decide +kernel
theorem hd_X2_addPart : yX2_addPart.cls = RX2 ∧ yX2_addPart.cls ≠ "java/lang/invoke/MethodHandle" ∧ yX2_addPart.cls ≠ "java/lang/invoke/VarHandle" ∧ (parseMethodDescriptor yX2_addPart.desc).map (fun d => d.parameters.length) = some 2 := ⟨rfl, hs_X2_addPart⟩
theorem hs_X2_layOver : yX2_layOver.cls ≠ "java/lang/invoke/MethodHandle" ∧ yX2_layOver.cls ≠ "java/lang/invoke/VarHandle" ∧ (parseMethodDescriptor yX2_layOver.desc).map (fun d => d.parameters.length) = some 2 := by decide +kernel
theorem hd_X2_layOver : yX2_layOver.cls = RX2 ∧ yX2_layOver.cls ≠ "java/lang/invoke/MethodHandle" ∧ yX2_layOver.cls ≠ "java/lang/invoke/VarHandle" ∧ (parseMethodDescriptor yX2_layOver.desc).map (fun d => d.parameters.length) = some 2 := ⟨rfl, hs_X2_layOver⟩
theorem hs_X2_partOf : yX2_partOf.cls ≠ "java/lang/invoke/MethodHandle" ∧ yX2_partOf.cls ≠ "java/lang/invoke/VarHandle" ∧ (parseMethodDescriptor yX2_partOf.desc).map (fun d => d.parameters.length) = some 1 := by decide +kernel
theorem hd_X2_partOf : yX2_partOf.cls = RX2 ∧ yX2_partOf.cls ≠ "java/lang/invoke/MethodHandle" ∧ yX2_partOf.cls ≠ "java/lang/invoke/VarHandle" ∧ (parseMethodDescriptor yX2_partOf.desc).map (fun d => d.parameters.length) = some 1 := ⟨rfl, hs_X2_partOf⟩
theorem hs_X2_seenOf : yX2_seenOf.cls ≠ "java/lang/invoke/MethodHandle" ∧ yX2_seenOf.cls ≠ "java/lang/invoke/VarHandle" ∧ (parseMethodDescriptor yX2_seenOf.desc).map (fun d => d.parameters.length) = some 2 := by decide +kernel
theorem hd_X2_seenOf : yX2_seenOf.cls = RX2 ∧ yX2_seenOf.cls ≠ "java/lang/invoke/MethodHandle" ∧ yX2_seenOf.cls ≠ "java/lang/invoke/VarHandle" ∧ (parseMethodDescriptor yX2_seenOf.desc).map (fun d => d.parameters.length) = some 2 := ⟨rfl, hs_X2_seenOf⟩
theorem hs_X2_faultyParts : yX2_faultyParts.cls ≠ "java/lang/invoke/MethodHandle" ∧ yX2_faultyParts.cls ≠ "java/lang/invoke/VarHandle" ∧ (parseMethodDescriptor yX2_faultyParts.desc).map (fun d => d.parameters.length) = some 1 := by decide +kernel
theorem hd_X2_faultyParts : yX2_faultyParts.cls = RX2 ∧ yX2_faultyParts.cls ≠ "java/lang/invoke/MethodHandle" ∧ yX2_faultyParts.cls ≠ "java/lang/invoke/VarHandle" ∧ (parseMethodDescriptor yX2_faultyParts.desc).map (fun d => d.parameters.length) = some 1 := ⟨rfl, hs_X2_faultyParts⟩
theorem hs_X2_reds : yX2_reds.cls ≠ "java/lang/invoke/MethodHandle" ∧ yX2_reds.cls ≠ "java/lang/invoke/VarHandle" ∧ (parseMethodDescriptor yX2_reds.desc).map (fun d => d.parameters.length) = some 0 := by decide +kernel
theorem hd_X2_reds : yX2_reds.cls = RX2 ∧ yX2_reds.cls ≠ "java/lang/invoke/MethodHandle" ∧ yX2_reds.cls ≠ "java/lang/invoke/VarHandle" ∧ (parseMethodDescriptor yX2_reds.desc).map (fun d => d.parameters.length) = some 0 := ⟨rfl, hs_X2_reds⟩
theorem hs_X2_sameParts : yX2_sameParts.cls ≠ "java/lang/invoke/MethodHandle" ∧ yX2_sameParts.cls ≠ "java/lang/invoke/VarHandle" ∧ (parseMethodDescriptor yX2_sameParts.desc).map (fun d => d.parameters.length) = some 1 := by decide +kernel
theorem hd_X2_sameParts : yX2_sameParts.cls = RX2 ∧ yX2_sameParts.cls ≠ "java/lang/invoke/MethodHandle" ∧ yX2_sameParts.cls ≠ "java/lang/invoke/VarHandle" ∧ (parseMethodDescriptor yX2_sameParts.desc).map (fun d => d.parameters.length) = some 1 := ⟨rfl, hs_X2_sameParts⟩
theorem hs_X3_begin : yX3_begin.cls ≠ "java/lang/invoke/MethodHandle" ∧ yX3_begin.cls ≠ "java/lang/invoke/VarHandle" ∧ (parseMethodDescriptor yX3_begin.desc).map (fun d => d.parameters.length) = some 0 := by decide +kernel
theorem hd_X3_begin : yX3_begin.cls = RX3 ∧ yX3_begin.cls ≠ "java/lang/invoke/MethodHandle" ∧ yX3_begin.cls ≠ "java/lang/invoke/VarHandle" ∧ (parseMethodDescriptor yX3_begin.desc).map (fun d => d.parameters.length) = some 0 := ⟨rfl, hs_X3_begin⟩
theorem hs_X3_goTo : yX3_goTo.cls ≠ "java/lang/invoke/MethodHandle" ∧ yX3_goTo.cls ≠ "java/lang/invoke/VarHandle" ∧ (parseMethodDescriptor yX3_goTo.desc).map (fun d => d.parameters.length) = some 3 := by decide +kernel
theorem hd_X3_goTo : yX3_goTo.cls = RX3 ∧ yX3_goTo.cls ≠ "java/lang/invoke/MethodHandle" ∧ yX3_goTo.cls ≠ "java/lang/invoke/VarHandle" ∧ (parseMethodDescriptor yX3_goTo.desc).map (fun d => d.parameters.length) = some 3 := ⟨rfl, hs_X3_goTo⟩
theorem hs_X3_sameTimes : yX3_sameTimes.cls ≠ "java/lang/invoke/MethodHandle" ∧ yX3_sameTimes.cls ≠ "java/lang/invoke/VarHandle" ∧ (parseMethodDescriptor yX3_sameTimes.desc).map (fun d => d.parameters.length) = some 2 := by decide +kernel
theorem hd_X3_sameTimes : yX3_sameTimes.cls = RX3 ∧ yX3_sameTimes.cls ≠ "java/lang/invoke/MethodHandle" ∧ yX3_sameTimes.cls ≠ "java/lang/invoke/VarHandle" ∧ (parseMethodDescriptor yX3_sameTimes.desc).map (fun d => d.parameters.length) = some 2 := ⟨rfl, hs_X3_sameTimes⟩
theorem hs_X4_size : yX4_size.cls ≠ "java/lang/invoke/MethodHandle" ∧ yX4_size.cls ≠ "java/lang/invoke/VarHandle" ∧ (parseMethodDescriptor yX4_size.desc).map (fun d => d.parameters.length) = some 0 := by decide +kernel
theorem hd_X4_size : yX4_size.cls = RX4 ∧ yX4_size.cls ≠ "java/lang/invoke/MethodHandle" ∧ yX4_size.cls ≠ "java/lang/invoke/VarHandle" ∧ (parseMethodDescriptor yX4_size.desc).map (fun d => d.parameters.length) = some 0 := ⟨rfl, hs_X4_size⟩
theorem hs_X5_program : yX5_program.cls ≠ "java/lang/invoke/MethodHandle" ∧ yX5_program.cls ≠ "java/lang/invoke/VarHandle" ∧ (parseMethodDescriptor yX5_program.desc).map (fun d => d.parameters.length) = some 1 := by decide +kernel
theorem hd_X5_program : yX5_program.cls = RX5 ∧ yX5_program.cls ≠ "java/lang/invoke/MethodHandle" ∧ yX5_program.cls ≠ "java/lang/invoke/VarHandle" ∧ (parseMethodDescriptor yX5_program.desc).map (fun d => d.parameters.length) = some 1 := ⟨rfl, hs_X5_program⟩
theorem hs_X5_preview : yX5_preview.cls ≠ "java/lang/invoke/MethodHandle" ∧ yX5_preview.cls ≠ "java/lang/invoke/VarHandle" ∧ (parseMethodDescriptor yX5_preview.desc).map (fun d => d.parameters.length) = some 1 := by decide +kernel
theorem hd_X5_preview : yX5_preview.cls = RX5 ∧ yX5_preview.cls ≠ "java/lang/invoke/MethodHandle" ∧ yX5_preview.cls ≠ "java/lang/invoke/VarHandle" ∧ (parseMethodDescriptor yX5_preview.desc).map (fun d => d.parameters.length) = some 1 := ⟨rfl, hs_X5_preview⟩
theorem hs_X5_transition : yX5_transition.cls ≠ "java/lang/invoke/MethodHandle" ∧ yX5_transition.cls ≠ "java/lang/invoke/VarHandle" ∧ (parseMethodDescriptor yX5_transition.desc).map (fun d => d.parameters.length) = some 2 := by decide +kernel
theorem hd_X5_transition : yX5_transition.cls = RX5 ∧ yX5_transition.cls ≠ "java/lang/invoke/MethodHandle" ∧ yX5_transition.cls ≠ "java/lang/invoke/VarHandle" ∧ (parseMethodDescriptor yX5_transition.desc).map (fun d => d.parameters.length) = some 2 := ⟨rfl, hs_X5_transition⟩
theorem hs_X5_next : yX5_next.cls ≠ "java/lang/invoke/MethodHandle" ∧ yX5_next.cls ≠ "java/lang/invoke/VarHandle" ∧ (parseMethodDescriptor yX5_next.desc).map (fun d => d.parameters.length) = some 1 := by decide +kernel
theorem hd_X5_next : yX5_next.cls = RX5 ∧ yX5_next.cls ≠ "java/lang/invoke/MethodHandle" ∧ yX5_next.cls ≠ "java/lang/invoke/VarHandle" ∧ (parseMethodDescriptor yX5_next.desc).map (fun d => d.parameters.length) = some 1 := ⟨rfl, hs_X5_next⟩
theorem hs_X5_key : yX5_key.cls ≠ "java/lang/invoke/MethodHandle" ∧ yX5_key.cls ≠ "java/lang/invoke/VarHandle" ∧ (parseMethodDescriptor yX5_key.desc).map (fun d => d.parameters.length) = some 4 := by decide +kernel
theorem hd_X5_key : yX5_key.cls = RX5 ∧ yX5_key.cls ≠ "java/lang/invoke/MethodHandle" ∧ yX5_key.cls ≠ "java/lang/invoke/VarHandle" ∧ (parseMethodDescriptor yX5_key.desc).map (fun d => d.parameters.length) = some 4 := ⟨rfl, hs_X5_key⟩
theorem hs_X5_toggle : yX5_toggle.cls ≠ "java/lang/invoke/MethodHandle" ∧ yX5_toggle.cls ≠ "java/lang/invoke/VarHandle" ∧ (parseMethodDescriptor yX5_toggle.desc).map (fun d => d.parameters.length) = some 1 := by decide +kernel
theorem hd_X5_toggle : yX5_toggle.cls = RX5 ∧ yX5_toggle.cls ≠ "java/lang/invoke/MethodHandle" ∧ yX5_toggle.cls ≠ "java/lang/invoke/VarHandle" ∧ (parseMethodDescriptor yX5_toggle.desc).map (fun d => d.parameters.length) = some 1 := ⟨rfl, hs_X5_toggle⟩
theorem hs_X5_cut : yX5_cut.cls ≠ "java/lang/invoke/MethodHandle" ∧ yX5_cut.cls ≠ "java/lang/invoke/VarHandle" ∧ (parseMethodDescriptor yX5_cut.desc).map (fun d => d.parameters.length) = some 0 := by decide +kernel
theorem hd_X5_cut : yX5_cut.cls = RX5 ∧ yX5_cut.cls ≠ "java/lang/invoke/MethodHandle" ∧ yX5_cut.cls ≠ "java/lang/invoke/VarHandle" ∧ (parseMethodDescriptor yX5_cut.desc).map (fun d => d.parameters.length) = some 0 := ⟨rfl, hs_X5_cut⟩
theorem hs_X5_auto : yX5_auto.cls ≠ "java/lang/invoke/MethodHandle" ∧ yX5_auto.cls ≠ "java/lang/invoke/VarHandle" ∧ (parseMethodDescriptor yX5_auto.desc).map (fun d => d.parameters.length) = some 0 := by decide +kernel
theorem hd_X5_auto : yX5_auto.cls = RX5 ∧ yX5_auto.cls ≠ "java/lang/invoke/MethodHandle" ∧ yX5_auto.cls ≠ "java/lang/invoke/VarHandle" ∧ (parseMethodDescriptor yX5_auto.desc).map (fun d => d.parameters.length) = some 0 := ⟨rfl, hs_X5_auto⟩
theorem hs_X5_bar : yX5_bar.cls ≠ "java/lang/invoke/MethodHandle" ∧ yX5_bar.cls ≠ "java/lang/invoke/VarHandle" ∧ (parseMethodDescriptor yX5_bar.desc).map (fun d => d.parameters.length) = some 1 := by decide +kernel
theorem hd_X5_bar : yX5_bar.cls = RX5 ∧ yX5_bar.cls ≠ "java/lang/invoke/MethodHandle" ∧ yX5_bar.cls ≠ "java/lang/invoke/VarHandle" ∧ (parseMethodDescriptor yX5_bar.desc).map (fun d => d.parameters.length) = some 1 := ⟨rfl, hs_X5_bar⟩
theorem hs_X5_fault : yX5_fault.cls ≠ "java/lang/invoke/MethodHandle" ∧ yX5_fault.cls ≠ "java/lang/invoke/VarHandle" ∧ (parseMethodDescriptor yX5_fault.desc).map (fun d => d.parameters.length) = some 2 := by decide +kernel
theorem hd_X5_fault : yX5_fault.cls = RX5 ∧ yX5_fault.cls ≠ "java/lang/invoke/MethodHandle" ∧ yX5_fault.cls ≠ "java/lang/invoke/VarHandle" ∧ (parseMethodDescriptor yX5_fault.desc).map (fun d => d.parameters.length) = some 2 := ⟨rfl, hs_X5_fault⟩
theorem hs_X5_pass : yX5_pass.cls ≠ "java/lang/invoke/MethodHandle" ∧ yX5_pass.cls ≠ "java/lang/invoke/VarHandle" ∧ (parseMethodDescriptor yX5_pass.desc).map (fun d => d.parameters.length) = some 1 := by decide +kernel
theorem hd_X5_pass : yX5_pass.cls = RX5 ∧ yX5_pass.cls ≠ "java/lang/invoke/MethodHandle" ∧ yX5_pass.cls ≠ "java/lang/invoke/VarHandle" ∧ (parseMethodDescriptor yX5_pass.desc).map (fun d => d.parameters.length) = some 1 := ⟨rfl, hs_X5_pass⟩
theorem hs_X5_setting : yX5_setting.cls ≠ "java/lang/invoke/MethodHandle" ∧ yX5_setting.cls ≠ "java/lang/invoke/VarHandle" ∧ (parseMethodDescriptor yX5_setting.desc).map (fun d => d.parameters.length) = some 1 := by decide +kernel
theorem hd_X5_setting : yX5_setting.cls = RX5 ∧ yX5_setting.cls ≠ "java/lang/invoke/MethodHandle" ∧ yX5_setting.cls ≠ "java/lang/invoke/VarHandle" ∧ (parseMethodDescriptor yX5_setting.desc).map (fun d => d.parameters.length) = some 1 := ⟨rfl, hs_X5_setting⟩
theorem hs_X5_share : yX5_share.cls ≠ "java/lang/invoke/MethodHandle" ∧ yX5_share.cls ≠ "java/lang/invoke/VarHandle" ∧ (parseMethodDescriptor yX5_share.desc).map (fun d => d.parameters.length) = some 2 := by decide +kernel
theorem hd_X5_share : yX5_share.cls = RX5 ∧ yX5_share.cls ≠ "java/lang/invoke/MethodHandle" ∧ yX5_share.cls ≠ "java/lang/invoke/VarHandle" ∧ (parseMethodDescriptor yX5_share.desc).map (fun d => d.parameters.length) = some 2 := ⟨rfl, hs_X5_share⟩
theorem hs_X5_tally : yX5_tally.cls ≠ "java/lang/invoke/MethodHandle" ∧ yX5_tally.cls ≠ "java/lang/invoke/VarHandle" ∧ (parseMethodDescriptor yX5_tally.desc).map (fun d => d.parameters.length) = some 1 := by decide +kernel
theorem hd_X5_tally : yX5_tally.cls = RX5 ∧ yX5_tally.cls ≠ "java/lang/invoke/MethodHandle" ∧ yX5_tally.cls ≠ "java/lang/invoke/VarHandle" ∧ (parseMethodDescriptor yX5_tally.desc).map (fun d => d.parameters.length) = some 1 := ⟨rfl, hs_X5_tally⟩
theorem hs_X5_faulty : yX5_faulty.cls ≠ "java/lang/invoke/MethodHandle" ∧ yX5_faulty.cls ≠ "java/lang/invoke/VarHandle" ∧ (parseMethodDescriptor yX5_faulty.desc).map (fun d => d.parameters.length) = some 0 := by decide +kernel
theorem hd_X5_faulty : yX5_faulty.cls = RX5 ∧ yX5_faulty.cls ≠ "java/lang/invoke/MethodHandle" ∧ yX5_faulty.cls ≠ "java/lang/invoke/VarHandle" ∧ (parseMethodDescriptor yX5_faulty.desc).map (fun d => d.parameters.length) = some 0 := ⟨rfl, hs_X5_faulty⟩
theorem hs_X5_timesRed : yX5_timesRed.cls ≠ "java/lang/invoke/MethodHandle" ∧ yX5_timesRed.cls ≠ "java/lang/invoke/VarHandle" ∧ (parseMethodDescriptor yX5_timesRed.desc).map (fun d => d.parameters.length) = some 1 := by decide +kernel
theorem hd_X5_timesRed : yX5_timesRed.cls = RX5 ∧ yX5_timesRed.cls ≠ "java/lang/invoke/MethodHandle" ∧ yX5_timesRed.cls ≠ "java/lang/invoke/VarHandle" ∧ (parseMethodDescriptor yX5_timesRed.desc).map (fun d => d.parameters.length) = some 1 := ⟨rfl, hs_X5_timesRed⟩
theorem hs_X5_firstRed : yX5_firstRed.cls ≠ "java/lang/invoke/MethodHandle" ∧ yX5_firstRed.cls ≠ "java/lang/invoke/VarHandle" ∧ (parseMethodDescriptor yX5_firstRed.desc).map (fun d => d.parameters.length) = some 1 := by decide +kernel
theorem hd_X5_firstRed : yX5_firstRed.cls = RX5 ∧ yX5_firstRed.cls ≠ "java/lang/invoke/MethodHandle" ∧ yX5_firstRed.cls ≠ "java/lang/invoke/VarHandle" ∧ (parseMethodDescriptor yX5_firstRed.desc).map (fun d => d.parameters.length) = some 1 := ⟨rfl, hs_X5_firstRed⟩
theorem hs_X5_longestShot : yX5_longestShot.cls ≠ "java/lang/invoke/MethodHandle" ∧ yX5_longestShot.cls ≠ "java/lang/invoke/VarHandle" ∧ (parseMethodDescriptor yX5_longestShot.desc).map (fun d => d.parameters.length) = some 0 := by decide +kernel
theorem hd_X5_longestShot : yX5_longestShot.cls = RX5 ∧ yX5_longestShot.cls ≠ "java/lang/invoke/MethodHandle" ∧ yX5_longestShot.cls ≠ "java/lang/invoke/VarHandle" ∧ (parseMethodDescriptor yX5_longestShot.desc).map (fun d => d.parameters.length) = some 0 := ⟨rfl, hs_X5_longestShot⟩
theorem hs_X5_runs : yX5_runs.cls ≠ "java/lang/invoke/MethodHandle" ∧ yX5_runs.cls ≠ "java/lang/invoke/VarHandle" ∧ (parseMethodDescriptor yX5_runs.desc).map (fun d => d.parameters.length) = some 0 := by decide +kernel
theorem hd_X5_runs : yX5_runs.cls = RX5 ∧ yX5_runs.cls ≠ "java/lang/invoke/MethodHandle" ∧ yX5_runs.cls ≠ "java/lang/invoke/VarHandle" ∧ (parseMethodDescriptor yX5_runs.desc).map (fun d => d.parameters.length) = some 0 := ⟨rfl, hs_X5_runs⟩
theorem hs_X5_act : yX5_act.cls ≠ "java/lang/invoke/MethodHandle" ∧ yX5_act.cls ≠ "java/lang/invoke/VarHandle" ∧ (parseMethodDescriptor yX5_act.desc).map (fun d => d.parameters.length) = some 2 := by decide +kernel
theorem hd_X5_act : yX5_act.cls = RX5 ∧ yX5_act.cls ≠ "java/lang/invoke/MethodHandle" ∧ yX5_act.cls ≠ "java/lang/invoke/VarHandle" ∧ (parseMethodDescriptor yX5_act.desc).map (fun d => d.parameters.length) = some 2 := ⟨rfl, hs_X5_act⟩
theorem hs_X5_takeOut : yX5_takeOut.cls ≠ "java/lang/invoke/MethodHandle" ∧ yX5_takeOut.cls ≠ "java/lang/invoke/VarHandle" ∧ (parseMethodDescriptor yX5_takeOut.desc).map (fun d => d.parameters.length) = some 1 := by decide +kernel
theorem hd_X5_takeOut : yX5_takeOut.cls = RX5 ∧ yX5_takeOut.cls ≠ "java/lang/invoke/MethodHandle" ∧ yX5_takeOut.cls ≠ "java/lang/invoke/VarHandle" ∧ (parseMethodDescriptor yX5_takeOut.desc).map (fun d => d.parameters.length) = some 1 := ⟨rfl, hs_X5_takeOut⟩
theorem hs_X5_undo : yX5_undo.cls ≠ "java/lang/invoke/MethodHandle" ∧ yX5_undo.cls ≠ "java/lang/invoke/VarHandle" ∧ (parseMethodDescriptor yX5_undo.desc).map (fun d => d.parameters.length) = some 0 := by decide +kernel
theorem hd_X5_undo : yX5_undo.cls = RX5 ∧ yX5_undo.cls ≠ "java/lang/invoke/MethodHandle" ∧ yX5_undo.cls ≠ "java/lang/invoke/VarHandle" ∧ (parseMethodDescriptor yX5_undo.desc).map (fun d => d.parameters.length) = some 0 := ⟨rfl, hs_X5_undo⟩
theorem hs_X5_idle : yX5_idle.cls ≠ "java/lang/invoke/MethodHandle" ∧ yX5_idle.cls ≠ "java/lang/invoke/VarHandle" ∧ (parseMethodDescriptor yX5_idle.desc).map (fun d => d.parameters.length) = some 0 := by decide +kernel
theorem hd_X5_idle : yX5_idle.cls = RX5 ∧ yX5_idle.cls ≠ "java/lang/invoke/MethodHandle" ∧ yX5_idle.cls ≠ "java/lang/invoke/VarHandle" ∧ (parseMethodDescriptor yX5_idle.desc).map (fun d => d.parameters.length) = some 0 := ⟨rfl, hs_X5_idle⟩
theorem hs_X5_digest : yX5_digest.cls ≠ "java/lang/invoke/MethodHandle" ∧ yX5_digest.cls ≠ "java/lang/invoke/VarHandle" ∧ (parseMethodDescriptor yX5_digest.desc).map (fun d => d.parameters.length) = some 0 := by decide +kernel
theorem hd_X5_digest : yX5_digest.cls = RX5 ∧ yX5_digest.cls ≠ "java/lang/invoke/MethodHandle" ∧ yX5_digest.cls ≠ "java/lang/invoke/VarHandle" ∧ (parseMethodDescriptor yX5_digest.desc).map (fun d => d.parameters.length) = some 0 := ⟨rfl, hs_X5_digest⟩
theorem hs_X5_checkSource : yX5_checkSource.cls ≠ "java/lang/invoke/MethodHandle" ∧ yX5_checkSource.cls ≠ "java/lang/invoke/VarHandle" ∧ (parseMethodDescriptor yX5_checkSource.desc).map (fun d => d.parameters.length) = some 1 := by decide +kernel
theorem hd_X5_checkSource : yX5_checkSource.cls = RX5 ∧ yX5_checkSource.cls ≠ "java/lang/invoke/MethodHandle" ∧ yX5_checkSource.cls ≠ "java/lang/invoke/VarHandle" ∧ (parseMethodDescriptor yX5_checkSource.desc).map (fun d => d.parameters.length) = some 1 := ⟨rfl, hs_X5_checkSource⟩
theorem hs_X5_checkKeyer : yX5_checkKeyer.cls ≠ "java/lang/invoke/MethodHandle" ∧ yX5_checkKeyer.cls ≠ "java/lang/invoke/VarHandle" ∧ (parseMethodDescriptor yX5_checkKeyer.desc).map (fun d => d.parameters.length) = some 1 := by decide +kernel
theorem hd_X5_checkKeyer : yX5_checkKeyer.cls = RX5 ∧ yX5_checkKeyer.cls ≠ "java/lang/invoke/MethodHandle" ∧ yX5_checkKeyer.cls ≠ "java/lang/invoke/VarHandle" ∧ (parseMethodDescriptor yX5_checkKeyer.desc).map (fun d => d.parameters.length) = some 1 := ⟨rfl, hs_X5_checkKeyer⟩
theorem hs_X5_checkAct : yX5_checkAct.cls ≠ "java/lang/invoke/MethodHandle" ∧ yX5_checkAct.cls ≠ "java/lang/invoke/VarHandle" ∧ (parseMethodDescriptor yX5_checkAct.desc).map (fun d => d.parameters.length) = some 1 := by decide +kernel
theorem hd_X5_checkAct : yX5_checkAct.cls = RX5 ∧ yX5_checkAct.cls ≠ "java/lang/invoke/MethodHandle" ∧ yX5_checkAct.cls ≠ "java/lang/invoke/VarHandle" ∧ (parseMethodDescriptor yX5_checkAct.desc).map (fun d => d.parameters.length) = some 1 := ⟨rfl, hs_X5_checkAct⟩
theorem hs_X5_checkRange : yX5_checkRange.cls ≠ "java/lang/invoke/MethodHandle" ∧ yX5_checkRange.cls ≠ "java/lang/invoke/VarHandle" ∧ (parseMethodDescriptor yX5_checkRange.desc).map (fun d => d.parameters.length) = some 3 := by decide +kernel
theorem hd_X5_checkRange : yX5_checkRange.cls = RX5 ∧ yX5_checkRange.cls ≠ "java/lang/invoke/MethodHandle" ∧ yX5_checkRange.cls ≠ "java/lang/invoke/VarHandle" ∧ (parseMethodDescriptor yX5_checkRange.desc).map (fun d => d.parameters.length) = some 3 := ⟨rfl, hs_X5_checkRange⟩
theorem hs_X5_mayAct : yX5_mayAct.cls ≠ "java/lang/invoke/MethodHandle" ∧ yX5_mayAct.cls ≠ "java/lang/invoke/VarHandle" ∧ (parseMethodDescriptor yX5_mayAct.desc).map (fun d => d.parameters.length) = some 1 := by decide +kernel
theorem hd_X5_mayAct : yX5_mayAct.cls = RX5 ∧ yX5_mayAct.cls ≠ "java/lang/invoke/MethodHandle" ∧ yX5_mayAct.cls ≠ "java/lang/invoke/VarHandle" ∧ (parseMethodDescriptor yX5_mayAct.desc).map (fun d => d.parameters.length) = some 1 := ⟨rfl, hs_X5_mayAct⟩
theorem hs_X5_enact : yX5_enact.cls ≠ "java/lang/invoke/MethodHandle" ∧ yX5_enact.cls ≠ "java/lang/invoke/VarHandle" ∧ (parseMethodDescriptor yX5_enact.desc).map (fun d => d.parameters.length) = some 5 := by decide +kernel
theorem hd_X5_enact : yX5_enact.cls = RX5 ∧ yX5_enact.cls ≠ "java/lang/invoke/MethodHandle" ∧ yX5_enact.cls ≠ "java/lang/invoke/VarHandle" ∧ (parseMethodDescriptor yX5_enact.desc).map (fun d => d.parameters.length) = some 5 := ⟨rfl, hs_X5_enact⟩
theorem hs_X5_replayTo : yX5_replayTo.cls ≠ "java/lang/invoke/MethodHandle" ∧ yX5_replayTo.cls ≠ "java/lang/invoke/VarHandle" ∧ (parseMethodDescriptor yX5_replayTo.desc).map (fun d => d.parameters.length) = some 2 := by decide +kernel
theorem hd_X5_replayTo : yX5_replayTo.cls = RX5 ∧ yX5_replayTo.cls ≠ "java/lang/invoke/MethodHandle" ∧ yX5_replayTo.cls ≠ "java/lang/invoke/VarHandle" ∧ (parseMethodDescriptor yX5_replayTo.desc).map (fun d => d.parameters.length) = some 2 := ⟨rfl, hs_X5_replayTo⟩
theorem hs_X5_replayPresent : yX5_replayPresent.cls ≠ "java/lang/invoke/MethodHandle" ∧ yX5_replayPresent.cls ≠ "java/lang/invoke/VarHandle" ∧ (parseMethodDescriptor yX5_replayPresent.desc).map (fun d => d.parameters.length) = some 0 := by decide +kernel
theorem hd_X5_replayPresent : yX5_replayPresent.cls = RX5 ∧ yX5_replayPresent.cls ≠ "java/lang/invoke/MethodHandle" ∧ yX5_replayPresent.cls ≠ "java/lang/invoke/VarHandle" ∧ (parseMethodDescriptor yX5_replayPresent.desc).map (fun d => d.parameters.length) = some 0 := ⟨rfl, hs_X5_replayPresent⟩
theorem hs_X5_redsAt : yX5_redsAt.cls ≠ "java/lang/invoke/MethodHandle" ∧ yX5_redsAt.cls ≠ "java/lang/invoke/VarHandle" ∧ (parseMethodDescriptor yX5_redsAt.desc).map (fun d => d.parameters.length) = some 1 := by decide +kernel
theorem hd_X5_redsAt : yX5_redsAt.cls = RX5 ∧ yX5_redsAt.cls ≠ "java/lang/invoke/MethodHandle" ∧ yX5_redsAt.cls ≠ "java/lang/invoke/VarHandle" ∧ (parseMethodDescriptor yX5_redsAt.desc).map (fun d => d.parameters.length) = some 1 := ⟨rfl, hs_X5_redsAt⟩
theorem hs_X5_presentSetting : yX5_presentSetting.cls ≠ "java/lang/invoke/MethodHandle" ∧ yX5_presentSetting.cls ≠ "java/lang/invoke/VarHandle" ∧ (parseMethodDescriptor yX5_presentSetting.desc).map (fun d => d.parameters.length) = some 1 := by decide +kernel
theorem hd_X5_presentSetting : yX5_presentSetting.cls = RX5 ∧ yX5_presentSetting.cls ≠ "java/lang/invoke/MethodHandle" ∧ yX5_presentSetting.cls ≠ "java/lang/invoke/VarHandle" ∧ (parseMethodDescriptor yX5_presentSetting.desc).map (fun d => d.parameters.length) = some 1 := ⟨rfl, hs_X5_presentSetting⟩
theorem hs_X5_paintTallies : yX5_paintTallies.cls ≠ "java/lang/invoke/MethodHandle" ∧ yX5_paintTallies.cls ≠ "java/lang/invoke/VarHandle" ∧ (parseMethodDescriptor yX5_paintTallies.desc).map (fun d => d.parameters.length) = some 0 := by decide +kernel
theorem hd_X5_paintTallies : yX5_paintTallies.cls = RX5 ∧ yX5_paintTallies.cls ≠ "java/lang/invoke/MethodHandle" ∧ yX5_paintTallies.cls ≠ "java/lang/invoke/VarHandle" ∧ (parseMethodDescriptor yX5_paintTallies.desc).map (fun d => d.parameters.length) = some 0 := ⟨rfl, hs_X5_paintTallies⟩
theorem hs_X5_tallyPainted : yX5_tallyPainted.cls ≠ "java/lang/invoke/MethodHandle" ∧ yX5_tallyPainted.cls ≠ "java/lang/invoke/VarHandle" ∧ (parseMethodDescriptor yX5_tallyPainted.desc).map (fun d => d.parameters.length) = some 1 := by decide +kernel
theorem hd_X5_tallyPainted : yX5_tallyPainted.cls = RX5 ∧ yX5_tallyPainted.cls ≠ "java/lang/invoke/MethodHandle" ∧ yX5_tallyPainted.cls ≠ "java/lang/invoke/VarHandle" ∧ (parseMethodDescriptor yX5_tallyPainted.desc).map (fun d => d.parameters.length) = some 1 := ⟨rfl, hs_X5_tallyPainted⟩
theorem hs_X5_hashKeyers : yX5_hashKeyers.cls ≠ "java/lang/invoke/MethodHandle" ∧ yX5_hashKeyers.cls ≠ "java/lang/invoke/VarHandle" ∧ (parseMethodDescriptor yX5_hashKeyers.desc).map (fun d => d.parameters.length) = some 1 := by decide +kernel
theorem hd_X5_hashKeyers : yX5_hashKeyers.cls = RX5 ∧ yX5_hashKeyers.cls ≠ "java/lang/invoke/MethodHandle" ∧ yX5_hashKeyers.cls ≠ "java/lang/invoke/VarHandle" ∧ (parseMethodDescriptor yX5_hashKeyers.desc).map (fun d => d.parameters.length) = some 1 := ⟨rfl, hs_X5_hashKeyers⟩
theorem hs_X5_hashSources : yX5_hashSources.cls ≠ "java/lang/invoke/MethodHandle" ∧ yX5_hashSources.cls ≠ "java/lang/invoke/VarHandle" ∧ (parseMethodDescriptor yX5_hashSources.desc).map (fun d => d.parameters.length) = some 1 := by decide +kernel
theorem hd_X5_hashSources : yX5_hashSources.cls = RX5 ∧ yX5_hashSources.cls ≠ "java/lang/invoke/MethodHandle" ∧ yX5_hashSources.cls ≠ "java/lang/invoke/VarHandle" ∧ (parseMethodDescriptor yX5_hashSources.desc).map (fun d => d.parameters.length) = some 1 := ⟨rfl, hs_X5_hashSources⟩
theorem hs_X5_hashActs : yX5_hashActs.cls ≠ "java/lang/invoke/MethodHandle" ∧ yX5_hashActs.cls ≠ "java/lang/invoke/VarHandle" ∧ (parseMethodDescriptor yX5_hashActs.desc).map (fun d => d.parameters.length) = some 1 := by decide +kernel
theorem hd_X5_hashActs : yX5_hashActs.cls = RX5 ∧ yX5_hashActs.cls ≠ "java/lang/invoke/MethodHandle" ∧ yX5_hashActs.cls ≠ "java/lang/invoke/VarHandle" ∧ (parseMethodDescriptor yX5_hashActs.desc).map (fun d => d.parameters.length) = some 1 := ⟨rfl, hs_X5_hashActs⟩
theorem hs_X5_hashed : yX5_hashed.cls ≠ "java/lang/invoke/MethodHandle" ∧ yX5_hashed.cls ≠ "java/lang/invoke/VarHandle" ∧ (parseMethodDescriptor yX5_hashed.desc).map (fun d => d.parameters.length) = some 2 := by decide +kernel
theorem hd_X5_hashed : yX5_hashed.cls = RX5 ∧ yX5_hashed.cls ≠ "java/lang/invoke/MethodHandle" ∧ yX5_hashed.cls ≠ "java/lang/invoke/VarHandle" ∧ (parseMethodDescriptor yX5_hashed.desc).map (fun d => d.parameters.length) = some 2 := ⟨rfl, hs_X5_hashed⟩
theorem hs_X5_hasSource : yX5_hasSource.cls ≠ "java/lang/invoke/MethodHandle" ∧ yX5_hasSource.cls ≠ "java/lang/invoke/VarHandle" ∧ (parseMethodDescriptor yX5_hasSource.desc).map (fun d => d.parameters.length) = some 2 := by decide +kernel
theorem hd_X5_hasSource : yX5_hasSource.cls = RX5 ∧ yX5_hasSource.cls ≠ "java/lang/invoke/MethodHandle" ∧ yX5_hasSource.cls ≠ "java/lang/invoke/VarHandle" ∧ (parseMethodDescriptor yX5_hasSource.desc).map (fun d => d.parameters.length) = some 2 := ⟨rfl, hs_X5_hasSource⟩
theorem hs_X5_cell : yX5_cell.cls ≠ "java/lang/invoke/MethodHandle" ∧ yX5_cell.cls ≠ "java/lang/invoke/VarHandle" ∧ (parseMethodDescriptor yX5_cell.desc).map (fun d => d.parameters.length) = some 2 := by decide +kernel
theorem hd_X5_cell : yX5_cell.cls = RX5 ∧ yX5_cell.cls ≠ "java/lang/invoke/MethodHandle" ∧ yX5_cell.cls ≠ "java/lang/invoke/VarHandle" ∧ (parseMethodDescriptor yX5_cell.desc).map (fun d => d.parameters.length) = some 2 := ⟨rfl, hs_X5_cell⟩
theorem hs_X5_put : yX5_put.cls ≠ "java/lang/invoke/MethodHandle" ∧ yX5_put.cls ≠ "java/lang/invoke/VarHandle" ∧ (parseMethodDescriptor yX5_put.desc).map (fun d => d.parameters.length) = some 3 := by decide +kernel
theorem hd_X5_put : yX5_put.cls = RX5 ∧ yX5_put.cls ≠ "java/lang/invoke/MethodHandle" ∧ yX5_put.cls ≠ "java/lang/invoke/VarHandle" ∧ (parseMethodDescriptor yX5_put.desc).map (fun d => d.parameters.length) = some 3 := ⟨rfl, hs_X5_put⟩
