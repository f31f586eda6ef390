/-! methods that throw: a call that is known to throw E, the world stays -/
abbrev yPreX (D : va_G) (tys : List (ClassId × FieldType)) (w0 : va_W) (sz : Nat) (U : State) : Prop := yPre D tys w0 sz U ∧ vx_Zq Bundle.tN "UNASSIGNED_STACK" Bundle.steD (va_A w0 sz) U U.heap ∧ vx_Zq Bundle.tN "SUPPRESSED_SENTINEL" Bundle.listD (va_A w0 sz) U U.heap
abbrev xB (D : va_G) (tys : List (ClassId × FieldType)) (A : Nat → Prop) (w0 : va_W) (E : String) : String → State → State → Prop := vx_X (fun (_ : Unit) => True) (fun E' _ t => E' = E ∧ yEnd D tys A w0 t) A
def kB (l : Launch) (y : MethodName) (cc : ByteArray) (maxL : Nat) (ret : Option FieldType) (rm : Room) (D : va_G) (tys : List (ClassId × FieldType)) (av : List Value) (w0 : va_W) (E : String) (sz : Nat) : Prop := vx_Met l y (Cond.code y cc maxL ret :: wsL_law) rm (va_Pc av (yPreX D tys w0 sz)) (fun _ _ _ _ => False) (xB D tys (va_A w0 sz) w0 E) 1 6 (va_A w0 sz)
def QB (D : va_G) (tys : List (ClassId × FieldType)) (A : Nat → Prop) (w0 : va_W) (E : String) (below : List Frame) (args : Array Value) (s : State) : State → Prop := vx_MQ below (fun _ _ _ _ => False) (xB D tys A w0 E) args s 1 6 A
def Xz (s : State) (A : Nat → Prop) : Prop := vx_Zq Bundle.tN "UNASSIGNED_STACK" Bundle.steD A s s.heap ∧ vx_Zq Bundle.tN "SUPPRESSED_SENTINEL" Bundle.listD A s s.heap
def Xx (l : Launch) (c : Code) (s : State) (A : Nat → Prop) : Prop := l.stackTraces = false ∧ (∀ x ∈ c.exceptionTable.toList, False) ∧ Xz s A
theorem y_enterB {l : Launch} {y : MethodName} {rm : Room} {cc : ByteArray} {maxL : Nat} {ret : Option FieldType} {own : String} {D : va_G} {tys : List (ClassId × FieldType)} {av : List Value} {w0 : va_W} {E : String} {sz : Nat} {lv0 : List (Nat × Value)} (htr : l.stackTraces = false) (hy : plainName y.cls = true) (ho : y.cls = own) (hlv : lv_args 0 av = lv0) (hle : (lg_sl av).length ≤ maxL)
    (body : ∀ (p : Program) (e : Env) (s : State) (m : MethodId) (args : Array Value) (below : List Frame) (meth : Method) (c : Code) (A : Nat → Prop), Zz p m c cc maxL s args wsL_law own D tys A → Xx l c s A → meth.sig.returnType = ret → meth.locks = false → Yy p l e rm s m args below meth c (QB D tys A w0 E below args s) D A maxL 0 0 w0 lv0 [] 0) : kB l y cc maxL ret rm D tys av w0 E sz := by
  refine vx_ofW (cc := cc) (maxL := maxL) (ret := ret) hy rfl ?_
  intro p e s m args below meth c s₁ B hml hex hv
  obtain ⟨rfl, ⟨hsz, hP, hK, hD0, hN⟩, hu, hn⟩ := hv
  subst hsz
  exact y_entry hlv hle hP hD0.self (body p e s m _ below meth c _ (y_zz B.exec B.bytes hml (ho ▸ findClass_of_methodNamed B.named) (fun w hw => atoms_spec (ws := Cond.code y cc maxL ret :: wsL_law) B.pre w (List.mem_cons_of_mem _ hw)) hK hN) ⟨htr, hex, hu, hn⟩ B.returns B.notSynchronized)
section YX
variable {p : Program} {l : Launch} {e : Env} {R : Room} {s : State} {m : MethodId} {args : Array Value} {below : List Frame} {meth : Method} {c : Code} {Q : State → Prop} {D : va_G} {A : Nat → Prop} {nL cells slots : Nat} {ws : va_W} {lv : List (Nat × Value)} {st : List Value} {pc : Nat}
variable {cc : ByteArray} {own : String} {tys : List (ClassId × FieldType)}
theorem y_throw (Z : Zz p m c cc nL s args wsL_law own D tys A) (X : Xx l c s A) (hlk : meth.locks = false) {E : String} (names : List String) {ik ic : Nat} (hcls : Bundle.fit E = true) (hnames : ∀ n ∈ names, Bundle.fit n = true) (hk : Cond.classLink own ik E ∈ wsL_law) (hini : Cond.initialized E ∈ wsL_law) (hat : ∀ w ∈ (vx_at0 own ic E names).filter goodWord, w ∈ wsL_law) (hbad : ∀ w ∈ (vx_at0 own ic E names).filter (fun w => !goodWord w), w ∈ yNest)
    (hgood : ∀ w ∈ Cond.classLink own ik E :: Cond.initialized E :: vx_at0 own ic E names, vx_ot w = true)
    (d0 : decode cc pc = .ok (.new ik, 3)) (d3 : decode cc (pc + 3) = .ok (.dup, 1)) (d4 : decode cc (pc + 4) = .ok (.invokespecial ic, 3)) (d7 : decode cc (pc + 7) = .ok (.athrow, 1))
    (hRf : names.length + 3 < R.frames) (hRl : (st.map fun v => v.category).sum + (13 * (names.length + 1) + 42) ≤ R.locals) (hRc : cells + 1 ≤ R.cells) (hRs : slots + 6 ≤ R.slots) (hc : cells + 1 ≤ 1) (hs : slots + 6 ≤ 6) :
    Yy p l e R s m args below meth c (QB D tys A ws E below args s) D A nL cells slots ws lv st pc := fun H locs ls hP hD hS hl =>
  vx_throw0 Z.1.1 Z.1.2.1 X.1 (names := names) Z.1.2.2.2.1 hcls hnames (Z.1.2.2.2.2 _ hk) (Z.1.2.2.2.2 _ hini) (vx_hat (B := (vx_at0 own ic E names).filter (fun w => !goodWord w)) (fun w hw => Z.1.2.2.2.2 w (hat w hw)) (fun w hw => hw) (fun w hw => (Z.2.2.2.1 w (hbad w hw)).use (List.all_eq_true.mp (show yNest.all (fun w => w.onTables) = true by decide +kernel) w (hbad w hw)))) hgood X.2.2.1 X.2.2.2 hS (hl.1.trans Z.1.2.2.1.symm) d0 d3 d4 d7 (fun x hx => (X.2.1 x hx).elim) hRf hRl hRc hRs hlk
    (fun t ht hz hq => ⟨(), trivial, ⟨rfl, hP.kept (fun k q hk => hq q.1 (hP k q hk).lt), va_K.moved ht Z.2.1, hD⟩, ⟨Nat.le_trans hS.1 hz, fun q h1 h2 => (hq q (Nat.lt_of_lt_of_le h1 hS.1)).trans (hS.2.1 q h1 h2)⟩⟩) hS.2.2 hc hs
/-- what an exception finds at a call that has thrown it -/
abbrev yCatch (p : Program) (l : Launch) (e : Env) (R : Room) (s : State) (m : MethodId) (args : Array Value) (below : List Frame) (meth : Method) (c : Code) (Q : State → Prop) (D : va_G) (A : Nat → Prop) (nL cells slots : Nat) (ws : va_W) (lv : List (Nat × Value)) (rest : List Value) (pc : Nat) (E : String) : Prop :=
  ∀ (H1 : Heap) (locs1 : List Loc) (ls : Array Slot) (q : Addr) (ce : Cell), va_P D vwCl ws H1 → va_D A ws → va_S A s.heap H1 locs1 → lv_has ls nL lv → H1[q]? = some ce → ce.vm = .none → s.vm.findClass E = some ce.cls → vx_W p l e R s m args below meth c H1 locs1 (cells + 1) (slots + 6) Q (F0 m pc ls rest) q
theorem y_outB (Z : Zz p m c cc nL s args wsL_law own D tys A) (X : Xx l c s A) (hlk : meth.locks = false) {E : String} {rest : List Value} (hc : cells + 1 ≤ 1) (hs : slots + 6 ≤ 6) : yCatch p l e R s m args below meth c (QB D tys A ws E below args s) D A nL cells slots ws lv rest pc E := fun H1 locs1 ls q ce hP hD hS hl hce hcv hcl =>
  vx_out (fun x hx => (X.2.1 x hx).elim) hlk hce hcv hcl (fun t ht hW => ⟨(), trivial, ⟨rfl, ht ▸ hP, va_K.moved hW Z.2.1, hD⟩, hS.F ht⟩) hS.2.2 hc hs
theorem y_blindX {w0 : va_W} {sz : Nat} {av : List Value} : FrameBlind (va_Pc av (yPreX D tys w0 sz)) := fun a U g mk q => by
  obtain ⟨q0, ⟨q1, qP, qK, qD, qN⟩, qu, qn⟩ := q
  exact ⟨q0, ⟨q1, qP, va_K.moved (u := U) (U := U.calling g mk a) (Vm.Alike.refl U.vm) qK, qD, yNst.same (u := U) (U := U.calling g mk a) rfl qN⟩, vx_Zq.moved (u := U) (U := U.calling g mk a) (Vm.Alike.refl U.vm) qu, vx_Zq.moved (u := U) (U := U.calling g mk a) (Vm.Alike.refl U.vm) qn⟩
theorem y_preX {Ts : List Cond} {w0 : va_W} {H : Heap} {locs : List Loc} {is : List Nat} {av : List Value} {U : State} (Z : Zz p m c cc nL s args Ts own D tys A) (X : Xz s A) (hP : va_P D vwCl ws H) (hD : va_D A ws) (hS : va_S A s.heap H locs) (hC : is.map (fun i => ws[i]?) = w0.map some) (hnd : va_nd is = true) (hU : U.heap = H) (hW9 : s.WarmedH U.vm) : va_Pc av (yPreX D tys w0 H.size) av.toArray U := by
  have hF := va_free (wc := w0) hD hS Z.2.2.1 is hC
  have z1 := ((X.1.kept (fun a h1 h2 => hS.2.1 a h1 h2)).narrow hF).moved hW9.alike
  have z2 := ((X.2.kept (fun a h1 h2 => hS.2.1 a h1 h2)).narrow hF).moved hW9.alike
  subst hU
  exact ⟨rfl, ⟨rfl, y_part hP hC, va_K.moved hW9.alike Z.2.1, (hD.sub is hnd hC).weaken (fun _ _ _ _ => trivial), Z.2.2.2.warm hW9⟩, z1, z2⟩
theorem y_VB {y : MethodName} {bytes : ByteArray} {maxL n index : Nat} {ret : Option FieldType} {rm : Room} {C : String} {b : Addr} {As rest : List Value} {wc : va_W} {E : String} (Z : Zz p m c cc nL s args wsL_law own D tys A) (X : Xz s A) (hM : ∀ sz, kB l y bytes maxL ret rm D tys (.ref b :: As) wc E sz) (cw : CallW R s args own C index y bytes maxL ret (Cond.code y bytes maxL ret :: wsL_law) rm 1 6 n) (is : List Nat) (hC : is.map (fun i => ws[i]?) = wc.map some) (hnd : va_nd is = true)
    (ci q0 : Nat) {fs : List Value} {T : u_T} {N : Nat} (hc : vwCl[ci]? = some (C, T, N)) (he : ws[q0]? = some (b, .inr (ci, fs))) (hst : st = As.reverse ++ .ref b :: rest) (hn : As.length = n) (hW : (rest.map fun v => v.category).sum ≤ 8) (hdg : decode cc pc = .ok (.invokevirtual index, 3)) (hf : cells + 1 ≤ R.cells ∧ slots + 6 ≤ R.slots) (hput : y_set ws is wc = ws)
    (k : yCatch p l e R s m args below meth c Q D A nL cells slots ws lv rest pc E) : Yy p l e R s m args below meth c Q D A nL cells slots ws lv st pc := by
  intro H locs ls hP hD hS hl T hT XS
  have hF := va_free (wc := wc) hD hS Z.2.2.1 is hC
  have hr := vx_runV (locs := locs) (cells := cells) (slots := slots) (meth := meth) (below := below) (e := e) Z.1 (hM H.size) cw ⟨y_blindX, va_recv Z.2.1 hP hc he, fun U hU hW9 => y_preX Z X hP hD hS hC hnd hU hW9⟩ (g := F0 m pc ls st) rfl hn hl.1 hst (lv_room hW) hdg hf
  rcases hr T hT XS with ⟨v, st₀, t, T', L, h0, X', hL, e1, e2, hq, st9⟩ | ⟨q, st₀, t, T', L, E', ce, h0, X', hL, e1, e2, hx, hce, hcv, hcl, st9⟩
  · exact hq.elim
  · obtain ⟨u, -, ⟨rfl, hP1, hK1, hD1⟩, hF1⟩ := hx
    obtain ⟨hz, hk, hS1⟩ := vx_keep h0 e1 hS (fun q _ h => hF q h) hF hL hF1
    have hj := y_join hP hD is hC rfl hput hk (e1 ▸ hP1)
    obtain ⟨t2, a1, b1⟩ := k T'.heap (locs ++ L) ls q ce hj.1 hj.2 hS1 hl (e1 ▸ hce) hcv hcl T' rfl X'
    exact ⟨t2, st9.trans a1, b1⟩
theorem y_SB {y : MethodName} {bytes : ByteArray} {maxL n index : Nat} {ret : Option FieldType} {rm : Room} {As rest : List Value} {wc : va_W} {E : String} (Z : Zz p m c cc nL s args wsL_law own D tys A) (X : Xz s A) (hM : ∀ sz, kB l y bytes maxL ret rm D tys As wc E sz) (cw : CallB R s args own index y bytes maxL ret (Cond.code y bytes maxL ret :: wsL_law) rm 1 6 n ∧ (Cond.static y).before args s = true) (is : List Nat) (hC : is.map (fun i => ws[i]?) = wc.map some) (hnd : va_nd is = true)
    (hst : st = As.reverse ++ rest) (hn : As.length = n) (hW : (rest.map fun v => v.category).sum ≤ 8) (hdg : decode cc pc = .ok (.invokestatic index, 3)) (hf : cells + 1 ≤ R.cells ∧ slots + 6 ≤ R.slots) (hput : y_set ws is wc = ws)
    (k : yCatch p l e R s m args below meth c Q D A nL cells slots ws lv rest pc E) : Yy p l e R s m args below meth c Q D A nL cells slots ws lv st pc := by
  intro H locs ls hP hD hS hl T hT XS
  have hF := va_free (wc := wc) hD hS Z.2.2.1 is hC
  have hr := vx_runS (locs := locs) (cells := cells) (slots := slots) (meth := meth) (below := below) (e := e) Z.1 (hM H.size) cw ⟨y_blindX, fun U hU hW9 => y_preX Z X hP hD hS hC hnd hU hW9⟩ (g := F0 m pc ls st) rfl hn hl.1 hst (lv_room hW) hdg hf
  rcases hr T hT XS with ⟨v, st₀, t, T', L, h0, X', hL, e1, e2, hq, st9⟩ | ⟨q, st₀, t, T', L, E', ce, h0, X', hL, e1, e2, hx, hce, hcv, hcl, st9⟩
  · exact hq.elim
  · obtain ⟨u, -, ⟨rfl, hP1, hK1, hD1⟩, hF1⟩ := hx
    obtain ⟨hz, hk, hS1⟩ := vx_keep h0 e1 hS (fun q _ h => hF q h) hF hL hF1
    have hj := y_join hP hD is hC rfl hput hk (e1 ▸ hP1)
    obtain ⟨t2, a1, b1⟩ := k T'.heap (locs ++ L) ls q ce hj.1 hj.2 hS1 hl (e1 ▸ hce) hcv hcl T' rfl X'
    exact ⟨t2, st9.trans a1, b1⟩
end YX
def yEx : List String := ["java/lang/RuntimeException", "java/lang/Exception"]
theorem yx_names : ∀ n ∈ yEx, Bundle.fit n = true := by decide +kernel
theorem yx_f68 : Bundle.fit "java/lang/IndexOutOfBoundsException" = true := by decide +kernel
theorem yx_f75 : Bundle.fit "java/lang/IllegalStateException" = true := by decide +kernel
theorem yx_f214 : Bundle.fit "java/lang/IllegalArgumentException" = true := by decide +kernel
theorem yx_g68 : ∀ w ∈ Cond.classLink RX5 68 "java/lang/IndexOutOfBoundsException" :: Cond.initialized "java/lang/IndexOutOfBoundsException" :: vx_at0 RX5 70 "java/lang/IndexOutOfBoundsException" yEx, vx_ot w = true := by decide +kernel
theorem yx_g75 : ∀ w ∈ Cond.classLink RX5 75 "java/lang/IllegalStateException" :: Cond.initialized "java/lang/IllegalStateException" :: vx_at0 RX5 77 "java/lang/IllegalStateException" yEx, vx_ot w = true := by decide +kernel
theorem yx_g214 : ∀ w ∈ Cond.classLink RX5 214 "java/lang/IllegalArgumentException" :: Cond.initialized "java/lang/IllegalArgumentException" :: vx_at0 RX5 216 "java/lang/IllegalArgumentException" yEx, vx_ot w = true := by decide +kernel
theorem yx_a68 : ∀ w ∈ (vx_at0 RX5 70 "java/lang/IndexOutOfBoundsException" yEx).filter goodWord, w ∈ wsL_law := fun w hw => List.mem_append_left _ (List.mem_append_left _ (List.mem_append_right _ hw))
theorem yx_b68 : ∀ w ∈ (vx_at0 RX5 70 "java/lang/IndexOutOfBoundsException" yEx).filter (fun w => !goodWord w), w ∈ yNest := by decide +kernel
theorem yx_a75 : ∀ w ∈ (vx_at0 RX5 77 "java/lang/IllegalStateException" yEx).filter goodWord, w ∈ wsL_law := fun w hw => List.mem_append_left _ (List.mem_append_right _ hw)
theorem yx_b75 : ∀ w ∈ (vx_at0 RX5 77 "java/lang/IllegalStateException" yEx).filter (fun w => !goodWord w), w ∈ yNest := by decide +kernel
theorem yx_a214 : ∀ w ∈ (vx_at0 RX5 216 "java/lang/IllegalArgumentException" yEx).filter goodWord, w ∈ wsL_law := fun w hw => List.mem_append_right _ hw
theorem yx_b214 : ∀ w ∈ (vx_at0 RX5 216 "java/lang/IllegalArgumentException" yEx).filter (fun w => !goodWord w), w ∈ yNest := by decide +kernel
