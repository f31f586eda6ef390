/-! a callee's cells put back at their places -/
def y_set : va_W → List Nat → va_W → va_W
  | ws, i :: is, e :: es => y_set (ws.set i e) is es
  | ws, _, _ => ws
theorem y_set_get : ∀ (is : List Nat) (es ws : va_W) (k : Nat) (q : Nat × va_E), is.length = es.length → (y_set ws is es)[k]? = some q → (∃ j : Nat, is[j]? = some k ∧ es[j]? = some q) ∨ ((∀ j : Nat, is[j]? = some k → False) ∧ ws[k]? = some q)
  | [], es, ws, k, q, _, h => Or.inr ⟨fun j hj => by simp at hj, by cases es <;> exact h⟩
  | i :: is, [], ws, k, q, hl, _ => by simp at hl
  | i :: is, e :: es, ws, k, q, hl, h => by
    rcases y_set_get is es (ws.set i e) k q (by simpa using hl) h with ⟨j, h1, h2⟩ | ⟨h1, h2⟩
    · exact Or.inl ⟨j + 1, by simpa using h1, by simpa using h2⟩
    · by_cases hk : i = k
      · subst hk
        have hi : i < (ws.set i e).length := (List.getElem?_eq_some_iff.mp h2).1
        rw [List.length_set] at hi
        rw [List.getElem?_set_self hi] at h2
        exact Or.inl ⟨0, by simp, by simpa using h2⟩
      · rw [List.getElem?_set_ne hk] at h2
        refine Or.inr ⟨fun j hj => ?_, h2⟩
        cases j with
        | zero => exact hk (by simpa using hj)
        | succ j => exact h1 j (by simpa using hj)
theorem y_join {D : va_G} {A0 : Nat → Prop} {ws wc w1 ws2 : va_W} {H H1 : Heap} (hP : va_P D vwCl ws H) (hD : va_D A0 ws) (is : List Nat) (hC : is.map (fun i => ws[i]?) = wc.map some) (had : wc.map (fun x => x.1) = w1.map (fun x => x.1))
    (hn : y_set ws is w1 = ws2) (hk : ∀ q : Nat, q < H.size → ¬ va_A wc H.size q → H1[q]? = H[q]?) (hP1 : va_P D vwCl w1 H1) : va_P D vwCl ws2 H1 ∧ va_D A0 ws2 := by
  subst hn
  have hlen1 : is.length = wc.length := by have := congrArg List.length hC; simpa using this
  have hlen2 : wc.length = w1.length := by have := congrArg List.length had; simpa using this
  have at1 : ∀ (j : Nat) (q : Nat × va_E), wc[j]? = some q → ∃ i, is[j]? = some i ∧ ws[i]? = some q := by
    intro j q hq
    have h1 : (is.map (fun i => ws[i]?))[j]? = some (some q) := by rw [hC, List.getElem?_map, hq]; rfl
    rw [List.getElem?_map] at h1
    cases hi : is[j]? with
    | none => rw [hi] at h1; cases h1
    | some i => rw [hi] at h1; exact ⟨i, rfl, Option.some.inj h1⟩
  have at2 : ∀ (j : Nat) (q : Nat × va_E), w1[j]? = some q → ∃ q0 : Nat × va_E, wc[j]? = some q0 ∧ q0.1 = q.1 := by
    intro j q hq
    have h1 : (w1.map (fun x => x.1))[j]? = some q.1 := by rw [List.getElem?_map, hq]; rfl
    rw [← had, List.getElem?_map] at h1
    cases hi : wc[j]? with
    | none => rw [hi] at h1; cases h1
    | some q0 => rw [hi] at h1; exact ⟨q0, rfl, Option.some.inj h1⟩
  have key : ∀ (k : Nat) (q : Nat × va_E), (y_set ws is w1)[k]? = some q → ∃ q0 : Nat × va_E, ws[k]? = some q0 ∧ q0.1 = q.1 := by
    intro k q hq
    rcases y_set_get is w1 ws k q (hlen1.trans hlen2) hq with ⟨j, h1, h2⟩ | ⟨-, h2⟩
    · obtain ⟨q0, h3, h4⟩ := at2 j q h2
      obtain ⟨i, h5, h6⟩ := at1 j q0 h3
      cases h1.symm.trans h5
      exact ⟨q0, h6, h4⟩
    · exact ⟨q, h2, rfl⟩
  refine ⟨fun k q hq => ?_, fun i j x y hi hj hxy => ?_, fun k q hq => ?_⟩
  · rcases y_set_get is w1 ws k q (hlen1.trans hlen2) hq with ⟨j, -, h2⟩ | ⟨h1, h2⟩
    · exact hP1 j q h2
    · refine (hP k q h2).kept (hk q.1 (hP k q h2).lt ?_)
      rintro (⟨j, e, hj⟩ | hz)
      · obtain ⟨i, h5, h6⟩ := at1 j _ hj
        have := hD.1 k i q (q.1, e) h2 h6 rfl
        subst this
        exact h1 j h5
      · have := (hP k q h2).lt
        omega
  · obtain ⟨x0, h1, h2⟩ := key i x hi
    obtain ⟨y0, h3, h4⟩ := key j y hj
    exact hD.1 i j x0 y0 h1 h3 (h2.trans (hxy.trans h4.symm))
  · obtain ⟨q0, h1, h2⟩ := key k q hq
    rw [← h2]
    exact hD.2 k q0 h1
/-! contracts: from the world w0 to the world w1, with the answer r -/
abbrev yPre (D : va_G) (tys : List (ClassId × FieldType)) (w0 : va_W) (sz : Nat) (U : State) : Prop := U.heap.size = sz ∧ va_P D vwCl w0 U.heap ∧ va_K D vwCl tys U ∧ va_D (fun _ => True) w0 ∧ yNst U
abbrev yEnd (D : va_G) (tys : List (ClassId × FieldType)) (A : Nat → Prop) (w1 : va_W) (t : State) : Prop := va_P D vwCl w1 t.heap ∧ va_K D vwCl tys t ∧ va_D A w1
abbrev qI (D : va_G) (tys : List (ClassId × FieldType)) (A : Nat → Prop) (w1 : va_W) (r : Int32) : Array Value → State → Outcome → State → Prop := va_Qi (fun x (_ : Unit) => x = r) (fun _ t => yEnd D tys A w1 t) A
abbrev qL (D : va_G) (tys : List (ClassId × FieldType)) (A : Nat → Prop) (w1 : va_W) (r : Int64) : Array Value → State → Outcome → State → Prop := va_Ql (fun x (_ : Unit) => x = r) (fun _ t => yEnd D tys A w1 t) A
abbrev qV (D : va_G) (tys : List (ClassId × FieldType)) (A : Nat → Prop) (w1 : va_W) : Array Value → State → Outcome → State → Prop := va_Qv (fun (_ : Unit) => True) (fun _ t => yEnd D tys A w1 t) A
def kI (l : Launch) (y : MethodName) (cc : ByteArray) (maxL : Nat) (ret : Option FieldType) (rm : Room) (D : va_G) (tys : List (ClassId × FieldType)) (av : List Value) (w0 w1 : va_W) (r : Int32) (mc ms sz : Nat) : Prop := Met l y (Cond.code y cc maxL ret :: wsL_law) rm (va_Pc av (yPre D tys w0 sz)) (qI D tys (va_A w0 sz) w1 r) mc ms (va_A w0 sz)
def kL (l : Launch) (y : MethodName) (cc : ByteArray) (maxL : Nat) (ret : Option FieldType) (rm : Room) (D : va_G) (tys : List (ClassId × FieldType)) (av : List Value) (w0 w1 : va_W) (r : Int64) (mc ms sz : Nat) : Prop := Met l y (Cond.code y cc maxL ret :: wsL_law) rm (va_Pc av (yPre D tys w0 sz)) (qL D tys (va_A w0 sz) w1 r) mc ms (va_A w0 sz)
def kV (l : Launch) (y : MethodName) (cc : ByteArray) (maxL : Nat) (ret : Option FieldType) (rm : Room) (D : va_G) (tys : List (ClassId × FieldType)) (av : List Value) (w0 w1 : va_W) (mc ms sz : Nat) : Prop := Met l y (Cond.code y cc maxL ret :: wsL_law) rm (va_Pc av (yPre D tys w0 sz)) (qV D tys (va_A w0 sz) w1) mc ms (va_A w0 sz)
def QI (D : va_G) (tys : List (ClassId × FieldType)) (A : Nat → Prop) (w1 : va_W) (r : Int32) (below : List Frame) (args : Array Value) (s : State) (mc ms : Nat) : State → Prop := MQ below (qI D tys A w1 r) args s mc ms A
def QL (D : va_G) (tys : List (ClassId × FieldType)) (A : Nat → Prop) (w1 : va_W) (r : Int64) (below : List Frame) (args : Array Value) (s : State) (mc ms : Nat) : State → Prop := MQ below (qL D tys A w1 r) args s mc ms A
def QV (D : va_G) (tys : List (ClassId × FieldType)) (A : Nat → Prop) (w1 : va_W) (below : List Frame) (args : Array Value) (s : State) (mc ms : Nat) : State → Prop := MQ below (qV D tys A w1) args s mc ms A
/-- the start of a walk -/
theorem y_entry {p : Program} {l : Launch} {e : Env} {R : Room} {s : State} {m : MethodId} {args : Array Value} {below : List Frame} {meth : Method} {c : Code} {Q : State → Prop} {D : va_G} {A : Nat → Prop} {maxL : Nat} {w0 : va_W} {lv0 : List (Nat × Value)} {av : List Value} (hlv : lv_args 0 av = lv0) (hle : (lg_sl av).length ≤ maxL)
    (hP : va_P D vwCl w0 s.heap) (hD : va_D A w0) (k : Yy p l e R s m args below meth c Q D A maxL 0 0 w0 lv0 [] 0) : W p l e R s m args below meth c s.heap [] 0 0 Q (entryFrame m av.toArray maxL) := by
  have hl := lv_entry av (n := maxL) hle
  rw [lg_entry_eq]
  rw [hlv] at hl
  exact k s.heap [] _ hP hD va_S.rf hl
theorem y_zz {p : Program} {m : MethodId} {c : Code} {cc : ByteArray} {nL : Nat} {s : State} {args : Array Value} {Ts : List Cond} {own : String} {D : va_G} {tys : List (ClassId × FieldType)} {w0 : va_W} (h1 : p.tables.exec = Jvm.exec) (h2 : c.code = cc) (h3 : c.maxLocals = nL) (h4 : s.vm.findClass own = some m.cls) (h5 : ∀ w ∈ Ts, w.before args s = true) (hK : va_K D vwCl tys s) (hN : yNst s) : Zz p m c cc nL s args Ts own D tys (va_A w0 s.heap.size) :=
  ⟨⟨h1, h2, h3, h4, h5⟩, hK, fun _ h => Or.inr h, hN⟩
abbrev yBody (l : Launch) (y : MethodName) (rm : Room) (cc : ByteArray) (maxL : Nat) (ret : Option FieldType) (own : String) (D : va_G) (tys : List (ClassId × FieldType)) (w0 : va_W) (lv0 : List (Nat × Value)) (QQ : (A : Nat → Prop) → List Frame → Array Value → State → State → Prop) : Prop :=
  ∀ (p : Program) (e : Env) (s : State) (m : MethodId) (args : Array Value) (below : List Frame) (meth : Method) (c : Code) (A : Nat → Prop), Zz p m c cc maxL s args wsL_law own D tys A → meth.sig.returnType = ret → meth.locks = false → meth.name = y.name → Yy p l e rm s m args below meth c (QQ A below args s) D A maxL 0 0 w0 lv0 [] 0
theorem y_enterI {l : Launch} {y : MethodName} {rm : Room} {cc : ByteArray} {maxL : Nat} {ret : Option FieldType} {own : String} {D : va_G} {tys : List (ClassId × FieldType)} {av : List Value} {w0 w1 : va_W} {r : Int32} {mc ms sz : Nat} {lv0 : List (Nat × Value)} (hy : plainName y.cls = true) (ho : y.cls = own) (hlv : lv_args 0 av = lv0) (hle : (lg_sl av).length ≤ maxL)
    (body : yBody l y rm cc maxL ret own D tys w0 lv0 (fun A below args s => QI D tys A w1 r below args s mc ms)) : kI l y cc maxL ret rm D tys av w0 w1 r mc ms sz := by
  refine Met.ofW (cc := cc) (maxL := maxL) (ret := ret) hy rfl ?_
  intro p e s m args below meth c s₁ B hml hv
  obtain ⟨rfl, hsz, hP, hK, hD0, hN⟩ := hv
  subst hsz
  exact y_entry hlv hle hP hD0.self (body p e s m _ below meth c _ (y_zz B.exec B.bytes hml (ho ▸ findClass_of_methodNamed B.named) (fun w hw => atoms_spec (ws := Cond.code y cc maxL ret :: wsL_law) B.pre w (List.mem_cons_of_mem _ hw)) hK hN) B.returns B.notSynchronized (name_of_methodNamed B.named B.method).1)
theorem y_enterL {l : Launch} {y : MethodName} {rm : Room} {cc : ByteArray} {maxL : Nat} {ret : Option FieldType} {own : String} {D : va_G} {tys : List (ClassId × FieldType)} {av : List Value} {w0 w1 : va_W} {r : Int64} {mc ms sz : Nat} {lv0 : List (Nat × Value)} (hy : plainName y.cls = true) (ho : y.cls = own) (hlv : lv_args 0 av = lv0) (hle : (lg_sl av).length ≤ maxL)
    (body : yBody l y rm cc maxL ret own D tys w0 lv0 (fun A below args s => QL D tys A w1 r below args s mc ms)) : kL l y cc maxL ret rm D tys av w0 w1 r mc ms sz := by
  refine Met.ofW (cc := cc) (maxL := maxL) (ret := ret) hy rfl ?_
  intro p e s m args below meth c s₁ B hml hv
  obtain ⟨rfl, hsz, hP, hK, hD0, hN⟩ := hv
  subst hsz
  exact y_entry hlv hle hP hD0.self (body p e s m _ below meth c _ (y_zz B.exec B.bytes hml (ho ▸ findClass_of_methodNamed B.named) (fun w hw => atoms_spec (ws := Cond.code y cc maxL ret :: wsL_law) B.pre w (List.mem_cons_of_mem _ hw)) hK hN) B.returns B.notSynchronized (name_of_methodNamed B.named B.method).1)
theorem y_enterV {l : Launch} {y : MethodName} {rm : Room} {cc : ByteArray} {maxL : Nat} {ret : Option FieldType} {own : String} {D : va_G} {tys : List (ClassId × FieldType)} {av : List Value} {w0 w1 : va_W} {mc ms sz : Nat} {lv0 : List (Nat × Value)} (hy : plainName y.cls = true) (ho : y.cls = own) (hlv : lv_args 0 av = lv0) (hle : (lg_sl av).length ≤ maxL)
    (body : yBody l y rm cc maxL ret own D tys w0 lv0 (fun A below args s => QV D tys A w1 below args s mc ms)) : kV l y cc maxL ret rm D tys av w0 w1 mc ms sz := by
  refine Met.ofW (cc := cc) (maxL := maxL) (ret := ret) hy rfl ?_
  intro p e s m args below meth c s₁ B hml hv
  obtain ⟨rfl, hsz, hP, hK, hD0, hN⟩ := hv
  subst hsz
  exact y_entry hlv hle hP hD0.self (body p e s m _ below meth c _ (y_zz B.exec B.bytes hml (ho ▸ findClass_of_methodNamed B.named) (fun w hw => atoms_spec (ws := Cond.code y cc maxL ret :: wsL_law) B.pre w (List.mem_cons_of_mem _ hw)) hK hN) B.returns B.notSynchronized (name_of_methodNamed B.named B.method).1)
section YC
variable {p : Program} {l : Launch} {e : Env} {R : Room} {s : State} {m : MethodId} {args : Array Value} {below : List Frame} {meth : Method} {c : Code} {Q : State → Prop} {D : va_G} {A : Nat → Prop} {nL cells slots : Nat} {ws : va_W} {lv : List (Nat × Value)} {st : List Value} {pc : Nat}
variable {cc : ByteArray} {Ts : List Cond} {own : String} {tys : List (ClassId × FieldType)} {w1 : va_W}
theorem y_retI (Z : Zz p m c cc nL s args Ts own D tys A) (hr : meth.sig.returnType = some .int) (hlk : meth.locks = false) {v r : Int32} (hdg : decode cc pc = .ok (.ireturn, 1)) (hv : v = r) (hw : ws = w1) : Yy p l e R s m args below meth c (QI D tys A w1 r below args s cells slots) D A nL cells slots ws lv [.int v] pc := by
  intro H locs ls hP hD hS hl
  subst hv; subst hw
  exact W.iret (v := v) Z.1.1 Z.1.2.1 hr (fun t ht hW => ⟨⟨v, (), rfl, rfl, by rw [ht]; exact hP, va_K.moved hW.alike Z.2.1, hD⟩, hS.F ht⟩) hS.2.2 hdg hlk
theorem y_retZ (Z : Zz p m c cc nL s args Ts own D tys A) (hr : meth.sig.returnType = some .boolean) (hlk : meth.locks = false) {v r : Int32} (hn : narrow .boolean (.int v) = .int v) (hdg : decode cc pc = .ok (.ireturn, 1)) (hv : v = r) (hw : ws = w1) : Yy p l e R s m args below meth c (QI D tys A w1 r below args s cells slots) D A nL cells slots ws lv [.int v] pc := by
  intro H locs ls hP hD hS hl
  subst hv; subst hw
  exact W.zret (v := v) Z.1.1 Z.1.2.1 hr hn (fun t ht hW => ⟨⟨v, (), rfl, rfl, by rw [ht]; exact hP, va_K.moved hW.alike Z.2.1, hD⟩, hS.F ht⟩) hS.2.2 hdg hlk
theorem y_retL (Z : Zz p m c cc nL s args Ts own D tys A) (hr : meth.sig.returnType = some .long) (hlk : meth.locks = false) {v r : Int64} (hdg : decode cc pc = .ok (.lreturn, 1)) (hv : v = r) (hw : ws = w1) : Yy p l e R s m args below meth c (QL D tys A w1 r below args s cells slots) D A nL cells slots ws lv [.long v] pc := by
  intro H locs ls hP hD hS hl
  subst hv; subst hw
  exact W.lret (v := v) Z.1.1 Z.1.2.1 hr (fun t ht hW => ⟨⟨v, (), rfl, rfl, by rw [ht]; exact hP, va_K.moved hW.alike Z.2.1, hD⟩, hS.F ht⟩) hS.2.2 hdg hlk
theorem y_retV (Z : Zz p m c cc nL s args Ts own D tys A) (hr : meth.sig.returnType = none) (hlk : meth.locks = false) (hdg : decode cc pc = .ok (.return_, 1)) (hw : ws = w1) : Yy p l e R s m args below meth c (QV D tys A w1 below args s cells slots) D A nL cells slots ws lv [] pc := by
  intro H locs ls hP hD hS hl
  subst hw
  exact W.vret Z.1.1 Z.1.2.1 hr (fun t ht hW => ⟨⟨(), rfl, trivial, by rw [ht]; exact hP, va_K.moved hW.alike Z.2.1, hD⟩, hS.F ht⟩) hS.2.2 hdg hlk
/-- a call that is about to be made: whatever heap -/
def yRun (p : Program) (l : Launch) (e : Env) (R : Room) (s : State) (m : MethodId) (args : Array Value) (below : List Frame) (meth : Method) (c : Code) (D : va_G) (A : Nat → Prop) (nL cells slots mc ms : Nat) (ws wc : va_W) (lv : List (Nat × Value)) (st rest : List Value) (pc : Nat) (Qa : (Nat → Prop) → State → Outcome → State → Prop) : Prop :=
  ∀ (H : Heap) (locs : List Loc) (ls : Array Slot), va_P D vwCl ws H → va_D A ws → lv_has ls nL lv → va_Run p l e R s m args below meth c H locs cells slots mc ms (F0 m pc ls st) rest (Qa (va_A wc H.size)) (va_A wc H.size)
theorem y_blind {D : va_G} {tys : List (ClassId × FieldType)} {w0 : va_W} {sz : Nat} {av : List Value} : FrameBlind (va_Pc av (yPre D tys w0 sz)) := fun a U g mk q => by
  obtain ⟨q0, q1, qP, qK, qD, qN⟩ := q
  exact ⟨q0, q1, qP, va_K.moved (u := U) (U := U.calling g mk a) (Vm.Alike.refl U.vm) qK, qD, yNst.same (u := U) (U := U.calling g mk a) rfl qN⟩
theorem y_part {D : va_G} {H : Heap} {wc : va_W} {is : List Nat} (hP : va_P D vwCl ws H) (hC : is.map (fun i => ws[i]?) = wc.map some) : va_P D vwCl wc H := by
  intro j q hq
  have h1 : (is.map (fun i => ws[i]?))[j]? = some (some q) := by rw [hC, List.getElem?_map, hq]; rfl
  rw [List.getElem?_map] at h1
  cases hi : is[j]? with
  | none => rw [hi] at h1; cases h1
  | some i => rw [hi] at h1; exact hP i q (Option.some.inj h1)
theorem y_runV {y : MethodName} {bytes : ByteArray} {maxL n index mc ms : Nat} {ret : Option FieldType} {ws' : List Cond} {rm : Room} {C : String} {b : Addr} {As rest : List Value} {wc : va_W} {Qc : (Nat → Prop) → Array Value → State → Outcome → State → Prop}
    (Z : Zz p m c cc nL s args Ts own D tys A) (hM : ∀ sz, Met l y ws' rm (va_Pc (.ref b :: As) (yPre D tys wc sz)) (Qc (va_A wc sz)) mc ms (va_A wc sz)) (cw : CallW R s args own C index y bytes maxL ret ws' rm mc ms n)
    (is : List Nat) (hC : is.map (fun i => ws[i]?) = wc.map some) (hnd : va_nd is = true) (ci q0 : Nat) {fs : List Value} {T : u_T} {N : Nat} (hc : vwCl[ci]? = some (C, T, N)) (he : ws[q0]? = some (b, .inr (ci, fs)))
    (hst : st = As.reverse ++ .ref b :: rest) (hn : As.length = n) (hW : (rest.map fun v => v.category).sum ≤ 8) (hdg : decode cc pc = .ok (.invokevirtual index, 3)) (hf : cells + mc ≤ R.cells ∧ slots + ms ≤ R.slots) :
    yRun p l e R s m args below meth c D A nL cells slots mc ms ws wc lv st rest pc (fun B => Qc B (Value.ref b :: As).toArray) := fun H locs ls hP hD hl =>
  va_runV Z.1 (hM H.size) cw ⟨y_blind, va_recv Z.2.1 hP hc he, fun U hU hW9 => ⟨rfl, by rw [hU], by rw [hU]; exact y_part hP hC, va_K.moved hW9.alike Z.2.1, (hD.sub is hnd hC).weaken (fun _ _ _ _ => trivial), Z.2.2.2.warm hW9⟩⟩ rfl hn hl.1 hst (lv_room hW) hdg hf
theorem y_runS {y : MethodName} {bytes : ByteArray} {maxL n index mc ms : Nat} {ret : Option FieldType} {ws' : List Cond} {rm : Room} {As rest : List Value} {wc : va_W} {Qc : (Nat → Prop) → Array Value → State → Outcome → State → Prop}
    (Z : Zz p m c cc nL s args Ts own D tys A) (hM : ∀ sz, Met l y ws' rm (va_Pc As (yPre D tys wc sz)) (Qc (va_A wc sz)) mc ms (va_A wc sz)) (cw : CallB R s args own index y bytes maxL ret ws' rm mc ms n ∧ (Cond.static y).before args s = true)
    (is : List Nat) (hC : is.map (fun i => ws[i]?) = wc.map some) (hnd : va_nd is = true)
    (hst : st = As.reverse ++ rest) (hn : As.length = n) (hW : (rest.map fun v => v.category).sum ≤ 8) (hdg : decode cc pc = .ok (.invokestatic index, 3)) (hf : cells + mc ≤ R.cells ∧ slots + ms ≤ R.slots) :
    yRun p l e R s m args below meth c D A nL cells slots mc ms ws wc lv st rest pc (fun B => Qc B As.toArray) := fun H locs ls hP hD hl =>
  va_runS Z.1 (hM H.size) cw ⟨y_blind, fun U hU hW9 => ⟨rfl, by rw [hU], by rw [hU]; exact y_part hP hC, va_K.moved hW9.alike Z.2.1, (hD.sub is hnd hC).weaken (fun _ _ _ _ => trivial), Z.2.2.2.warm hW9⟩⟩ rfl hn hl.1 hst (lv_room hW) hdg hf
theorem y_runSN {y : MethodName} {bytes : ByteArray} {maxL n index mc ms : Nat} {ret : Option FieldType} {ws' : List Cond} {rm : Room} {host : String} {As rest : List Value} {wc : va_W} {Qc : (Nat → Prop) → Array Value → State → Outcome → State → Prop}
    (Z : Zz p m c cc nL s args Ts own D tys A) (hM : ∀ sz, Met l y ws' rm (va_Pc As (yPre D tys wc sz)) (Qc (va_A wc sz)) mc ms (va_A wc sz)) (cw : va_CN R s args own index y host bytes maxL ret ws' rm mc ms n ∧ (Cond.static y).before args s = true ∧ True)
    (is : List Nat) (hC : is.map (fun i => ws[i]?) = wc.map some) (hnd : va_nd is = true)
    (hst : st = As.reverse ++ rest) (hn : As.length = n) (hW : (rest.map fun v => v.category).sum ≤ 8) (hdg : decode cc pc = .ok (.invokestatic index, 3)) (hf : cells + mc ≤ R.cells ∧ slots + ms ≤ R.slots) :
    yRun p l e R s m args below meth c D A nL cells slots mc ms ws wc lv st rest pc (fun B => Qc B As.toArray) := fun H locs ls hP hD hl =>
  va_runSN Z.1 (hM H.size) cw ⟨y_blind, fun U hU hW9 => ⟨rfl, by rw [hU], by rw [hU]; exact y_part hP hC, va_K.moved hW9.alike Z.2.1, (hD.sub is hnd hC).weaken (fun _ _ _ _ => trivial), Z.2.2.2.warm hW9⟩⟩ rfl hn hl.1 hst (lv_room hW) hdg hf
theorem y_ci {st0 rest : List Value} {wc : va_W} {r : Int32} {a : Array Value} {mc ms : Nat} (Z : Zz p m c cc nL s args Ts own D tys A) (is : List Nat) (hr : yRun p l e R s m args below meth c D A nL cells slots mc ms ws wc lv st0 rest pc (fun B => qI D tys B w1 r a))
    (hC : is.map (fun i => ws[i]?) = wc.map some) (had : wc.map (fun x => x.1) = w1.map (fun x => x.1)) (ws2 : va_W) (hn : y_set ws is w1 = ws2) (k : Yy p l e R s m args below meth c Q D A nL (cells + mc) (slots + ms) ws2 lv (.int r :: rest) (pc + 3)) :
    Yy p l e R s m args below meth c Q D A nL cells slots ws lv st0 pc := fun H locs ls hP hD hS hl =>
  have hF := va_free (wc := wc) hD hS Z.2.2.1 is hC
  va_calli (hr H locs ls hP hD hl) hS (fun q _ h => hF q h) hF (fun x _ t H1 locs1 ht _ hx hB _ hk hS1 => by
    subst hx
    have hj := y_join hP hD is hC had hn hk (ht ▸ hB.1)
    exact k H1 locs1 ls hj.1 hj.2 hS1 hl)
theorem y_cl {st0 rest : List Value} {wc : va_W} {r : Int64} {a : Array Value} {mc ms : Nat} (Z : Zz p m c cc nL s args Ts own D tys A) (is : List Nat) (hr : yRun p l e R s m args below meth c D A nL cells slots mc ms ws wc lv st0 rest pc (fun B => qL D tys B w1 r a))
    (hC : is.map (fun i => ws[i]?) = wc.map some) (had : wc.map (fun x => x.1) = w1.map (fun x => x.1)) (ws2 : va_W) (hn : y_set ws is w1 = ws2) (k : Yy p l e R s m args below meth c Q D A nL (cells + mc) (slots + ms) ws2 lv (.long r :: rest) (pc + 3)) :
    Yy p l e R s m args below meth c Q D A nL cells slots ws lv st0 pc := fun H locs ls hP hD hS hl =>
  have hF := va_free (wc := wc) hD hS Z.2.2.1 is hC
  va_calll (hr H locs ls hP hD hl) hS (fun q _ h => hF q h) hF (fun x _ t H1 locs1 ht _ hx hB _ hk hS1 => by
    subst hx
    have hj := y_join hP hD is hC had hn hk (ht ▸ hB.1)
    exact k H1 locs1 ls hj.1 hj.2 hS1 hl)
theorem y_cv {st0 rest : List Value} {wc : va_W} {a : Array Value} {mc ms : Nat} (Z : Zz p m c cc nL s args Ts own D tys A) (is : List Nat) (hr : yRun p l e R s m args below meth c D A nL cells slots mc ms ws wc lv st0 rest pc (fun B => qV D tys B w1 a))
    (hC : is.map (fun i => ws[i]?) = wc.map some) (had : wc.map (fun x => x.1) = w1.map (fun x => x.1)) (ws2 : va_W) (hn : y_set ws is w1 = ws2) (k : Yy p l e R s m args below meth c Q D A nL (cells + mc) (slots + ms) ws2 lv rest (pc + 3)) :
    Yy p l e R s m args below meth c Q D A nL cells slots ws lv st0 pc := fun H locs ls hP hD hS hl =>
  have hF := va_free (wc := wc) hD hS Z.2.2.1 is hC
  va_callv (hr H locs ls hP hD hl) hS (fun q _ h => hF q h) hF (fun _ t H1 locs1 ht _ _ hB _ hk hS1 => by
    have hj := y_join hP hD is hC had hn hk (ht ▸ hB.1)
    exact k H1 locs1 ls hj.1 hj.2 hS1 hl)
theorem y_VI {y : MethodName} {bytes : ByteArray} {maxL n index mc ms : Nat} {ret : Option FieldType} {rm : Room} {C : String} {b : Addr} {As rest : List Value} {wc : va_W} {r : Int32} (Z : Zz p m c cc nL s args Ts own D tys A) (hM : ∀ sz, kI l y bytes maxL ret rm D tys (.ref b :: As) wc w1 r mc ms sz) (cw : CallW R s args own C index y bytes maxL ret (Cond.code y bytes maxL ret :: wsL_law) rm mc ms n) (is : List Nat) (hC : is.map (fun i => ws[i]?) = wc.map some) (hnd : va_nd is = true) (ci q0 : Nat) {fs : List Value} {T : u_T} {N : Nat} (hc : vwCl[ci]? = some (C, T, N)) (he : ws[q0]? = some (b, .inr (ci, fs)))
    (hst : st = As.reverse ++ .ref b :: rest) (hn : As.length = n) (hW : (rest.map fun v => v.category).sum ≤ 8) (hdg : decode cc pc = .ok (.invokevirtual index, 3)) (hf : cells + mc ≤ R.cells ∧ slots + ms ≤ R.slots) (ads : List Nat) (ha : wc.map (fun x => x.1) = ads) (hb : w1.map (fun x => x.1) = ads) (ws2 : va_W) (hn2 : y_set ws is w1 = ws2)
    (k : Yy p l e R s m args below meth c Q D A nL (cells + mc) (slots + ms) ws2 lv (.int r :: rest) (pc + 3)) : Yy p l e R s m args below meth c Q D A nL cells slots ws lv st pc :=
  y_ci Z is (y_runV Z (Qc := fun B => qI D tys B w1 r) (fun sz => hM sz) cw is hC hnd ci q0 hc he hst hn hW hdg hf) hC (ha.trans hb.symm) ws2 hn2 k
theorem y_VL {y : MethodName} {bytes : ByteArray} {maxL n index mc ms : Nat} {ret : Option FieldType} {rm : Room} {C : String} {b : Addr} {As rest : List Value} {wc : va_W} {r : Int64} (Z : Zz p m c cc nL s args Ts own D tys A) (hM : ∀ sz, kL l y bytes maxL ret rm D tys (.ref b :: As) wc w1 r mc ms sz) (cw : CallW R s args own C index y bytes maxL ret (Cond.code y bytes maxL ret :: wsL_law) rm mc ms n) (is : List Nat) (hC : is.map (fun i => ws[i]?) = wc.map some) (hnd : va_nd is = true) (ci q0 : Nat) {fs : List Value} {T : u_T} {N : Nat} (hc : vwCl[ci]? = some (C, T, N)) (he : ws[q0]? = some (b, .inr (ci, fs)))
    (hst : st = As.reverse ++ .ref b :: rest) (hn : As.length = n) (hW : (rest.map fun v => v.category).sum ≤ 8) (hdg : decode cc pc = .ok (.invokevirtual index, 3)) (hf : cells + mc ≤ R.cells ∧ slots + ms ≤ R.slots) (ads : List Nat) (ha : wc.map (fun x => x.1) = ads) (hb : w1.map (fun x => x.1) = ads) (ws2 : va_W) (hn2 : y_set ws is w1 = ws2)
    (k : Yy p l e R s m args below meth c Q D A nL (cells + mc) (slots + ms) ws2 lv (.long r :: rest) (pc + 3)) : Yy p l e R s m args below meth c Q D A nL cells slots ws lv st pc :=
  y_cl Z is (y_runV Z (Qc := fun B => qL D tys B w1 r) (fun sz => hM sz) cw is hC hnd ci q0 hc he hst hn hW hdg hf) hC (ha.trans hb.symm) ws2 hn2 k
theorem y_VV {y : MethodName} {bytes : ByteArray} {maxL n index mc ms : Nat} {ret : Option FieldType} {rm : Room} {C : String} {b : Addr} {As rest : List Value} {wc : va_W}  (Z : Zz p m c cc nL s args Ts own D tys A) (hM : ∀ sz, kV l y bytes maxL ret rm D tys (.ref b :: As) wc w1 mc ms sz) (cw : CallW R s args own C index y bytes maxL ret (Cond.code y bytes maxL ret :: wsL_law) rm mc ms n) (is : List Nat) (hC : is.map (fun i => ws[i]?) = wc.map some) (hnd : va_nd is = true) (ci q0 : Nat) {fs : List Value} {T : u_T} {N : Nat} (hc : vwCl[ci]? = some (C, T, N)) (he : ws[q0]? = some (b, .inr (ci, fs)))
    (hst : st = As.reverse ++ .ref b :: rest) (hn : As.length = n) (hW : (rest.map fun v => v.category).sum ≤ 8) (hdg : decode cc pc = .ok (.invokevirtual index, 3)) (hf : cells + mc ≤ R.cells ∧ slots + ms ≤ R.slots) (ads : List Nat) (ha : wc.map (fun x => x.1) = ads) (hb : w1.map (fun x => x.1) = ads) (ws2 : va_W) (hn2 : y_set ws is w1 = ws2)
    (k : Yy p l e R s m args below meth c Q D A nL (cells + mc) (slots + ms) ws2 lv rest (pc + 3)) : Yy p l e R s m args below meth c Q D A nL cells slots ws lv st pc :=
  y_cv Z is (y_runV Z (Qc := fun B => qV D tys B w1) (fun sz => hM sz) cw is hC hnd ci q0 hc he hst hn hW hdg hf) hC (ha.trans hb.symm) ws2 hn2 k
theorem y_SI {y : MethodName} {bytes : ByteArray} {maxL n index mc ms : Nat} {ret : Option FieldType} {rm : Room} {As rest : List Value} {wc : va_W} {r : Int32} (Z : Zz p m c cc nL s args Ts own D tys A) (hM : ∀ sz, kI l y bytes maxL ret rm D tys (As) wc w1 r mc ms sz) (cw : CallB R s args own index y bytes maxL ret (Cond.code y bytes maxL ret :: wsL_law) rm mc ms n ∧ (Cond.static y).before args s = true) (is : List Nat) (hC : is.map (fun i => ws[i]?) = wc.map some) (hnd : va_nd is = true) 
    (hst : st = As.reverse ++ rest) (hn : As.length = n) (hW : (rest.map fun v => v.category).sum ≤ 8) (hdg : decode cc pc = .ok (.invokestatic index, 3)) (hf : cells + mc ≤ R.cells ∧ slots + ms ≤ R.slots) (ads : List Nat) (ha : wc.map (fun x => x.1) = ads) (hb : w1.map (fun x => x.1) = ads) (ws2 : va_W) (hn2 : y_set ws is w1 = ws2)
    (k : Yy p l e R s m args below meth c Q D A nL (cells + mc) (slots + ms) ws2 lv (.int r :: rest) (pc + 3)) : Yy p l e R s m args below meth c Q D A nL cells slots ws lv st pc :=
  y_ci Z is (y_runS Z (Qc := fun B => qI D tys B w1 r) (fun sz => hM sz) cw is hC hnd  hst hn hW hdg hf) hC (ha.trans hb.symm) ws2 hn2 k
theorem y_SL {y : MethodName} {bytes : ByteArray} {maxL n index mc ms : Nat} {ret : Option FieldType} {rm : Room} {As rest : List Value} {wc : va_W} {r : Int64} (Z : Zz p m c cc nL s args Ts own D tys A) (hM : ∀ sz, kL l y bytes maxL ret rm D tys (As) wc w1 r mc ms sz) (cw : CallB R s args own index y bytes maxL ret (Cond.code y bytes maxL ret :: wsL_law) rm mc ms n ∧ (Cond.static y).before args s = true) (is : List Nat) (hC : is.map (fun i => ws[i]?) = wc.map some) (hnd : va_nd is = true) 
    (hst : st = As.reverse ++ rest) (hn : As.length = n) (hW : (rest.map fun v => v.category).sum ≤ 8) (hdg : decode cc pc = .ok (.invokestatic index, 3)) (hf : cells + mc ≤ R.cells ∧ slots + ms ≤ R.slots) (ads : List Nat) (ha : wc.map (fun x => x.1) = ads) (hb : w1.map (fun x => x.1) = ads) (ws2 : va_W) (hn2 : y_set ws is w1 = ws2)
    (k : Yy p l e R s m args below meth c Q D A nL (cells + mc) (slots + ms) ws2 lv (.long r :: rest) (pc + 3)) : Yy p l e R s m args below meth c Q D A nL cells slots ws lv st pc :=
  y_cl Z is (y_runS Z (Qc := fun B => qL D tys B w1 r) (fun sz => hM sz) cw is hC hnd  hst hn hW hdg hf) hC (ha.trans hb.symm) ws2 hn2 k
theorem y_SV {y : MethodName} {bytes : ByteArray} {maxL n index mc ms : Nat} {ret : Option FieldType} {rm : Room} {As rest : List Value} {wc : va_W}  (Z : Zz p m c cc nL s args Ts own D tys A) (hM : ∀ sz, kV l y bytes maxL ret rm D tys (As) wc w1 mc ms sz) (cw : CallB R s args own index y bytes maxL ret (Cond.code y bytes maxL ret :: wsL_law) rm mc ms n ∧ (Cond.static y).before args s = true) (is : List Nat) (hC : is.map (fun i => ws[i]?) = wc.map some) (hnd : va_nd is = true) 
    (hst : st = As.reverse ++ rest) (hn : As.length = n) (hW : (rest.map fun v => v.category).sum ≤ 8) (hdg : decode cc pc = .ok (.invokestatic index, 3)) (hf : cells + mc ≤ R.cells ∧ slots + ms ≤ R.slots) (ads : List Nat) (ha : wc.map (fun x => x.1) = ads) (hb : w1.map (fun x => x.1) = ads) (ws2 : va_W) (hn2 : y_set ws is w1 = ws2)
    (k : Yy p l e R s m args below meth c Q D A nL (cells + mc) (slots + ms) ws2 lv rest (pc + 3)) : Yy p l e R s m args below meth c Q D A nL cells slots ws lv st pc :=
  y_cv Z is (y_runS Z (Qc := fun B => qV D tys B w1) (fun sz => hM sz) cw is hC hnd  hst hn hW hdg hf) hC (ha.trans hb.symm) ws2 hn2 k
theorem y_NI {y : MethodName} {bytes : ByteArray} {maxL n index mc ms : Nat} {ret : Option FieldType} {rm : Room} {host : String} {As rest : List Value} {wc : va_W} {r : Int32} (Z : Zz p m c cc nL s args Ts own D tys A) (hM : ∀ sz, kI l y bytes maxL ret rm D tys (As) wc w1 r mc ms sz) (cw : va_CN R s args own index y host bytes maxL ret (Cond.code y bytes maxL ret :: wsL_law) rm mc ms n ∧ (Cond.static y).before args s = true ∧ True) (is : List Nat) (hC : is.map (fun i => ws[i]?) = wc.map some) (hnd : va_nd is = true) 
    (hst : st = As.reverse ++ rest) (hn : As.length = n) (hW : (rest.map fun v => v.category).sum ≤ 8) (hdg : decode cc pc = .ok (.invokestatic index, 3)) (hf : cells + mc ≤ R.cells ∧ slots + ms ≤ R.slots) (ads : List Nat) (ha : wc.map (fun x => x.1) = ads) (hb : w1.map (fun x => x.1) = ads) (ws2 : va_W) (hn2 : y_set ws is w1 = ws2)
    (k : Yy p l e R s m args below meth c Q D A nL (cells + mc) (slots + ms) ws2 lv (.int r :: rest) (pc + 3)) : Yy p l e R s m args below meth c Q D A nL cells slots ws lv st pc :=
  y_ci Z is (y_runSN Z (Qc := fun B => qI D tys B w1 r) (fun sz => hM sz) cw is hC hnd  hst hn hW hdg hf) hC (ha.trans hb.symm) ws2 hn2 k
theorem y_NL {y : MethodName} {bytes : ByteArray} {maxL n index mc ms : Nat} {ret : Option FieldType} {rm : Room} {host : String} {As rest : List Value} {wc : va_W} {r : Int64} (Z : Zz p m c cc nL s args Ts own D tys A) (hM : ∀ sz, kL l y bytes maxL ret rm D tys (As) wc w1 r mc ms sz) (cw : va_CN R s args own index y host bytes maxL ret (Cond.code y bytes maxL ret :: wsL_law) rm mc ms n ∧ (Cond.static y).before args s = true ∧ True) (is : List Nat) (hC : is.map (fun i => ws[i]?) = wc.map some) (hnd : va_nd is = true) 
    (hst : st = As.reverse ++ rest) (hn : As.length = n) (hW : (rest.map fun v => v.category).sum ≤ 8) (hdg : decode cc pc = .ok (.invokestatic index, 3)) (hf : cells + mc ≤ R.cells ∧ slots + ms ≤ R.slots) (ads : List Nat) (ha : wc.map (fun x => x.1) = ads) (hb : w1.map (fun x => x.1) = ads) (ws2 : va_W) (hn2 : y_set ws is w1 = ws2)
    (k : Yy p l e R s m args below meth c Q D A nL (cells + mc) (slots + ms) ws2 lv (.long r :: rest) (pc + 3)) : Yy p l e R s m args below meth c Q D A nL cells slots ws lv st pc :=
  y_cl Z is (y_runSN Z (Qc := fun B => qL D tys B w1 r) (fun sz => hM sz) cw is hC hnd  hst hn hW hdg hf) hC (ha.trans hb.symm) ws2 hn2 k
theorem y_NV {y : MethodName} {bytes : ByteArray} {maxL n index mc ms : Nat} {ret : Option FieldType} {rm : Room} {host : String} {As rest : List Value} {wc : va_W}  (Z : Zz p m c cc nL s args Ts own D tys A) (hM : ∀ sz, kV l y bytes maxL ret rm D tys (As) wc w1 mc ms sz) (cw : va_CN R s args own index y host bytes maxL ret (Cond.code y bytes maxL ret :: wsL_law) rm mc ms n ∧ (Cond.static y).before args s = true ∧ True) (is : List Nat) (hC : is.map (fun i => ws[i]?) = wc.map some) (hnd : va_nd is = true) 
    (hst : st = As.reverse ++ rest) (hn : As.length = n) (hW : (rest.map fun v => v.category).sum ≤ 8) (hdg : decode cc pc = .ok (.invokestatic index, 3)) (hf : cells + mc ≤ R.cells ∧ slots + ms ≤ R.slots) (ads : List Nat) (ha : wc.map (fun x => x.1) = ads) (hb : w1.map (fun x => x.1) = ads) (ws2 : va_W) (hn2 : y_set ws is w1 = ws2)
    (k : Yy p l e R s m args below meth c Q D A nL (cells + mc) (slots + ms) ws2 lv rest (pc + 3)) : Yy p l e R s m args below meth c Q D A nL cells slots ws lv st pc :=
  y_cv Z is (y_runSN Z (Qc := fun B => qV D tys B w1) (fun sz => hM sz) cw is hC hnd  hst hn hW hdg hf) hC (ha.trans hb.symm) ws2 hn2 k
theorem y_gW {w : Cond} (h : w ∈ wsL_law) : w ∈ wsL_law ∧ ((w.onTables && w.keeps) = true ∨ ∃ ty, w = .arrayClass ty) := ⟨h, good_of_word (List.all_eq_true.mp W0_good w h)⟩
theorem y_gC {y : MethodName} {bytes : ByteArray} {maxL : Nat} {ret : Option FieldType} (h : Cond.code y bytes maxL ret ∈ wsL_law) : GoodIn wsL_law (Cond.code y bytes maxL ret :: wsL_law) := fun w hw => by
  rcases List.mem_cons.mp hw with rfl | hw
  · exact y_gW h
  · exact y_gW hw
theorem y_cwV {y : MethodName} {bytes : ByteArray} {maxL index mc ms : Nat} {ret : Option FieldType} {rm : Room} {C : String} (n : Nat) (Z : Zz p m c cc nL s args wsL_law own D tys A) (h1 : Cond.methodLink own index y ∈ wsL_law) (h2 : Cond.instanceMethod y ∈ wsL_law) (h3 : Cond.selects C y y ∈ wsL_law) (h4 : Cond.initialized C ∈ wsL_law) (h5 : Cond.code y bytes maxL ret ∈ wsL_law) (hrc : rm.cells = mc) (hrs : rm.slots = ms)
    (hd : y.cls = C ∧ y.cls ≠ "java/lang/invoke/MethodHandle" ∧ y.cls ≠ "java/lang/invoke/VarHandle" ∧ (parseMethodDescriptor y.desc).map (fun d => d.parameters.length) = some n) (hR : rm.frames + 1 ≤ R.frames ∧ 8 + (maxL + 11) + rm.locals ≤ R.locals) : CallW R s args own C index y bytes maxL ret (Cond.code y bytes maxL ret :: wsL_law) rm mc ms n := by
  refine cwV n Z.1.2.2.2.2 (fun w hw => ?_) rfl hrc hrs hd hR
  rcases List.mem_append.mp (show w ∈ ([.methodLink own index y, .instanceMethod y, .selects C y y, .initialized C] : List Cond) ++ (Cond.code y bytes maxL ret :: wsL_law) from hw) with h | h
  · simp only [List.mem_cons, List.not_mem_nil, or_false] at h
    rcases h with rfl | rfl | rfl | rfl
    · exact y_gW h1
    · exact y_gW h2
    · exact y_gW h3
    · exact y_gW h4
  · exact y_gC h5 w h
theorem y_cwS {y : MethodName} {bytes : ByteArray} {maxL index mc ms : Nat} {ret : Option FieldType} {rm : Room} (n : Nat) (Z : Zz p m c cc nL s args wsL_law own D tys A) (h1 : Cond.methodLink own index y ∈ wsL_law) (h2 : Cond.static y ∈ wsL_law) (h4 : Cond.initialized y.cls ∈ wsL_law) (h5 : Cond.code y bytes maxL ret ∈ wsL_law) (hrc : rm.cells = mc) (hrs : rm.slots = ms)
    (hd : y.cls ≠ "java/lang/invoke/MethodHandle" ∧ y.cls ≠ "java/lang/invoke/VarHandle" ∧ (parseMethodDescriptor y.desc).map (fun d => d.parameters.length) = some n) (hR : rm.frames + 1 ≤ R.frames ∧ 8 + (maxL + 11) + rm.locals ≤ R.locals) : CallB R s args own index y bytes maxL ret (Cond.code y bytes maxL ret :: wsL_law) rm mc ms n ∧ (Cond.static y).before args s = true := by
  refine va_cwS n Z.1.2.2.2.2 (fun w hw => ?_) rfl hrc hrs hd hR
  rcases List.mem_append.mp (show w ∈ ([.methodLink own index y, .static y, .initialized y.cls] : List Cond) ++ (Cond.code y bytes maxL ret :: wsL_law) from hw) with h | h
  · simp only [List.mem_cons, List.not_mem_nil, or_false] at h
    rcases h with rfl | rfl | rfl
    · exact y_gW h1
    · exact y_gW h2
    · exact y_gW h4
  · exact y_gC h5 w h
/-- the nest call's words -/
theorem y_cn {y : MethodName} {bytes : ByteArray} {maxL n index mc ms : Nat} {ret : Option FieldType} {rm : Room} {host : String} (Z : Zz p m c cc nL s args wsL_law own D tys A) (h5 : Cond.code y bytes maxL ret ∈ wsL_law) (hrc : rm.cells = mc) (hrs : rm.slots = ms) (hm : Cond.methodLinkNest own index y host ∈ yNest) (hini : Cond.initialized y.cls ∈ wsL_law) (hst : Cond.static y ∈ wsL_law)
    (hd : y.cls ≠ "java/lang/invoke/MethodHandle" ∧ y.cls ≠ "java/lang/invoke/VarHandle" ∧ (parseMethodDescriptor y.desc).map (fun d => d.parameters.length) = some n) (hR : rm.frames + 1 ≤ R.frames ∧ 8 + (maxL + 11) + rm.locals ≤ R.locals) : va_CN R s args own index y host bytes maxL ret (Cond.code y bytes maxL ret :: wsL_law) rm mc ms n ∧ (Cond.static y).before args s = true ∧ True :=
  ⟨va_cnB n Z.1.2.2.2.2 (y_gC h5) rfl hrc hrs (Z.2.2.2.1 _ hm) (Z.1.2.2.2.2 _ hini) hd hR, Z.1.2.2.2.2 _ hst, trivial⟩
end YC
