/-! constructors: the contract kN: the object at h0 becomes a world Wf a, whose first address is h0 -/
abbrev qN (D : va_G) (tys : List (ClassId × FieldType)) (A : Nat → Prop) (h0 : Nat) (Wf : (Nat → Nat) → va_W) : Array Value → State → Outcome → State → Prop := va_Qv (fun a : Nat → Nat => a 0 = h0) (fun a t => yEnd D tys A (Wf a) t) A
def kN (l : Launch) (y : MethodName) (cc : ByteArray) (maxL : Nat) (rm : Room) (D : va_G) (tys : List (ClassId × FieldType)) (h0 : Nat) (w0 : va_W) (Wf : (Nat → Nat) → va_W) (mc ms sz : Nat) : Prop := Met l y (Cond.code y cc maxL none :: wsL_law) rm (va_Pc [.ref h0] (yPre D tys w0 sz)) (qN D tys (va_A w0 sz) h0 Wf) mc ms (va_A w0 sz)
def QN (D : va_G) (tys : List (ClassId × FieldType)) (A : Nat → Prop) (h0 : Nat) (Wf : (Nat → Nat) → va_W) (below : List Frame) (args : Array Value) (s : State) (mc ms : Nat) : State → Prop := MQ below (qN D tys A h0 Wf) args s mc ms A
theorem y_enterN {l : Launch} {y : MethodName} {rm : Room} {cc : ByteArray} {maxL : Nat} {own : String} {D : va_G} {tys : List (ClassId × FieldType)} {h0 : Nat} {w0 : va_W} {Wf : (Nat → Nat) → va_W} {mc ms sz : Nat} {lv0 : List (Nat × Value)} (hy : plainName y.cls = true) (ho : y.cls = own) (hlv : lv_args 0 [Value.ref h0] = lv0) (hle : (lg_sl [Value.ref h0]).length ≤ maxL)
    (body : yBody l y rm cc maxL none own D tys w0 lv0 (fun A below args s => QN D tys A h0 Wf below args s mc ms)) : kN l y cc maxL rm D tys h0 w0 Wf mc ms sz := by
  refine Met.ofW (cc := cc) (maxL := maxL) (ret := none) hy rfl ?_
  intro p e s m args below meth c s₁ B hml hv
  obtain ⟨rfl, hsz, hP, hK, hD0, hN⟩ := hv
  subst hsz
  exact y_entry hlv hle hP hD0.self (body p e s m _ below meth c _ (y_zz B.exec B.bytes hml (ho ▸ findClass_of_methodNamed B.named) (fun w hw => atoms_spec (ws := Cond.code y cc maxL none :: wsL_law) B.pre w (List.mem_cons_of_mem _ hw)) hK hN) B.returns B.notSynchronized (name_of_methodNamed B.named B.method).1)
section YN
variable {p : Program} {l : Launch} {e : Env} {R : Room} {s : State} {m : MethodId} {args : Array Value} {below : List Frame} {meth : Method} {c : Code} {Q : State → Prop} {D : va_G} {A : Nat → Prop} {nL cells slots : Nat} {ws : va_W} {lv : List (Nat × Value)} {st : List Value} {pc : Nat}
variable {cc : ByteArray} {Ts : List Cond} {own : String} {tys : List (ClassId × FieldType)} {w1 : va_W}
theorem y_retN (Z : Zz p m c cc nL s args Ts own D tys A) {h0 : Nat} {Wf : (Nat → Nat) → va_W} (hr : meth.sig.returnType = none) (hlk : meth.locks = false) (a : Nat → Nat) (ha : a 0 = h0) (hdg : decode cc pc = .ok (.return_, 1)) (hw : ws = Wf a) : Yy p l e R s m args below meth c (QN D tys A h0 Wf below args s cells slots) D A nL cells slots ws lv [] pc := by
  intro H locs ls hP hD hS hl
  subst hw
  exact W.vret Z.1.1 Z.1.2.1 hr (fun t ht hW => ⟨⟨a, rfl, ha, by rw [ht]; exact hP, va_K.moved hW.alike Z.2.1, hD⟩, hS.F ht⟩) hS.2.2 hdg hlk
theorem y_objInit {ix : Nat} {a : Addr} (Z : Zz p m c cc nL s args wsL_law own D tys A) (h1 : Cond.methodLink own ix objectInit ∈ wsL_law) (hW : (st.map fun v => v.category).sum ≤ 8) (hfr : 1 ≤ R.frames) (hlo : 20 ≤ R.locals) (hdg : decode cc pc = .ok (.invokespecial ix, 3)) (k : Yy p l e R s m args below meth c Q D A nL cells slots ws lv st (pc + 3)) : Yy p l e R s m args below meth c Q D A nL cells slots ws lv (.ref a :: st) pc := fun H locs ls hP hD hS hl =>
  W.objInit Z.1.1 Z.1.2.1 Z.1.2.2.2.1 (Z.1.2.2.2.2 _ h1) (Z.1.2.2.2.2 _ im_oi) (Z.1.2.2.2.2 _ co_oi) rfl (hl.1.trans Z.1.2.2.1.symm) rfl hdg hfr (Nat.le_trans (Nat.add_le_add_right (lv_room (m := m) (pc := pc) (ls := ls) hW) 12) hlo) (k H locs ls hP hD hS hl)
theorem y_new {C : String} {T : u_T} {N : Nat} (ci : Nat) {index : Nat} (Z : Zz p m c cc nL s args wsL_law own D tys A) (hin : ∀ w ∈ u_ws C T N, w ∈ wsL_law) (ty : Nat → FieldType) (hty : ∀ k, k < N → parseFieldDescriptor (T k).2.2.1 = some (ty k)) (hcl : Cond.classLink own index C ∈ wsL_law) (hinst : Cond.instantiable C N ∈ wsL_law) (hini : Cond.initialized C ∈ wsL_law) (hc : vwCl[ci]? = some (C, T, N)) (fs : List Value) (hfs : ∀ j, j < N → defaultValue (ty j) = vp_V fs j) (hcells : cells + 1 ≤ R.cells) (hslots : slots + N ≤ R.slots) (hdg : decode cc pc = .ok (.new index, 3))
    (k : ∀ q : Nat, Yy p l e R s m args below meth c Q D A nL (cells + 1) (slots + N) (ws ++ [(q, .inr (ci, fs))]) lv (.ref q :: st) (pc + 3)) : Yy p l e R s m args below meth c Q D A nL cells slots ws lv st pc := fun H locs ls hP hD hS hl =>
  va_new (ci := ci) Z.1.1 Z.1.2.1 Z.1.2.2.2.2 hin ty hty Z.1.2.2.2.1 (Z.1.2.2.2.2 _ hcl) (Z.1.2.2.2.2 _ hinst) (Z.1.2.2.2.2 _ hini) Z.2.1 hP hD hS Z.2.2.1 hc hfs hcells hslots hdg (fun q H1 hP1 hD1 hS1 => k q H1 locs ls hP1 hD1 hS1 hl)
theorem y_newa {cI : ClassId} {n : Int32} {N' : Nat} (Z : Zz p m c cc nL s args wsL_law own D tys A) (ht0 : tys[0]? = some (cI, .int)) (hn : ¬ n < 0) (hN : n.toNatClampNeg = N') (hbytes : N' * componentBytes .int ≤ 536870912) (hcells : cells + 1 ≤ R.cells) (hslots : slots + N' ≤ R.slots) (hdg : decode cc pc = .ok (.newarray .int, 2))
    (k : ∀ q : Nat, Yy p l e R s m args below meth c Q D A nL (cells + 1) (slots + N') (ws ++ [(q, .inl (cI, N', .inl (fun _ => 0)))]) lv (.ref q :: st) (pc + 2)) : Yy p l e R s m args below meth c Q D A nL cells slots ws lv (.int n :: st) pc := fun H locs ls hP hD hS hl =>
  va_newa (atype := .int) (a0 := (N', .inl (fun _ => 0))) Z.1.1 Z.1.2.1 (Z.1.2.2.2.2 _ ac_int) rfl Z.2.1 hP hD hS Z.2.2.1 (fun _ => rfl) hn hN hbytes hcells hslots hdg (fun q cA H1 hK1 hP1 hD1 hS1 => by
    have e1 : s.vm.findClass ("[" ++ FieldType.int.toString) = some cA := (hK1.2 tys.length (cA, .int) (by rw [List.getElem?_append_right (Nat.le_refl _), Nat.sub_self]; rfl)).2
    have e2 : s.vm.findClass ("[" ++ FieldType.int.toString) = some cI := (Z.2.1.2 0 (cI, .int) ht0).2
    have e3 : cA = cI := Option.some.inj (e1.symm.trans e2)
    subst e3
    exact k q H1 locs ls hP1 hD1 hS1 hl)
theorem y_putG {C : String} {T : u_T} {N : Nat} (ci : Nat) {index : Nat} {a : Nat} (Z : Zz p m c cc nL s args wsL_law own D tys A) (hin : ∀ w ∈ u_ws C T N, w ∈ wsL_law) (hc : vwCl[ci]? = some (C, T, N)) (ty0 : Nat → FieldType) (hty : ∀ k, k < N → parseFieldDescriptor (T k).2.2.1 = some (ty0 k)) (hnm : ∀ a, a < N → ∀ b, b < N → a ≠ b → (T a).2.1 ≠ (T b).2.1) (q0 : Nat) {fs : List Value} (he : ws[q0]? = some (a, .inr (ci, fs))) (f : Nat) (hf : f < N) (hm : Cond.fieldLink own index (T f).1 (T f).2.1 (T f).2.2.1 ∈ wsL_law) (hfin : (T f).2.2.2 = true) (hin2 : meth.name = "<init>") (hdecl : (T f).1 = own) {v : Value} (hn : narrow (ty0 f) v = v) (hfit : fits (ty0 f) v = true) (hl0 : f < fs.length) (ws' : va_W) (hw : ws.set q0 (a, .inr (ci, fs.set f v)) = ws') (hdg : decode cc pc = .ok (.putfield index, 3))
    (k : Yy p l e R s m args below meth c Q D A nL cells slots ws' lv st (pc + 3)) : Yy p l e R s m args below meth c Q D A nL cells slots ws lv (v :: .ref a :: st) pc := fun H locs ls hP hD hS hl =>
  va_putF (D := D) (ci := ci) Z.1.1 Z.1.2.1 Z.1.2.2.2.2 hin ty0 hty hnm Z.1.2.2.2.1 Z.2.1 hP hD hS q0 he hc f hf (Z.1.2.2.2.2 _ hm) (fun _ h9 => h9) hfin hin2 hdecl (hty f hf) hn hfit hl0 hdg (fun H1 locs1 hP1 hD1 hS1 => k H1 locs1 ls (hw ▸ hP1) (hw ▸ hD1) hS1 hl)
theorem y_cwI {y : MethodName} {bytes : ByteArray} {maxL index mc ms : Nat} {rm : Room} (Z : Zz p m c cc nL s args wsL_law own D tys A) (h1 : Cond.methodLink own index y ∈ wsL_law) (h2 : Cond.instanceMethod y ∈ wsL_law) (h4 : Cond.initialized y.cls ∈ wsL_law) (h5 : Cond.code y bytes maxL none ∈ wsL_law) (hrc : rm.cells = mc) (hrs : rm.slots = ms) (hy1 : y.name = "<init>")
    (hd : y.cls ≠ "java/lang/invoke/MethodHandle" ∧ y.cls ≠ "java/lang/invoke/VarHandle" ∧ (parseMethodDescriptor y.desc).map (fun d => d.parameters.length) = some 0) (hR : rm.frames + 1 ≤ R.frames ∧ 8 + (maxL + 11) + rm.locals ≤ R.locals) : CallB R s args own index y bytes maxL none (Cond.code y bytes maxL none :: wsL_law) rm mc ms 0 ∧ y.name = "<init>" ∧ (Cond.instanceMethod y).before args s = true :=
  cwI 0 Z.1.2.2.2.2 (y_gC h5) rfl hrc hrs (Z.1.2.2.2.2 _ h4) (Z.1.2.2.2.2 _ h1) (Z.1.2.2.2.2 _ h2) hy1 hd hR
theorem y_INw {y : MethodName} {bytes : ByteArray} {maxL index mc ms : Nat} {rm : Room} {q : Addr} {rest : List Value} {wl wc : va_W} {Wf : (Nat → Nat) → va_W} (Z : Zz p m c cc nL s args Ts own D tys A) (hM : ∀ sz, kN l y bytes maxL rm D tys q wc Wf mc ms sz) (cw : CallB R s args own index y bytes maxL none (Cond.code y bytes maxL none :: wsL_law) rm mc ms 0 ∧ y.name = "<init>" ∧ (Cond.instanceMethod y).before args s = true) (hws : ws = wl ++ (wc ++ [])) (hst : st = .ref q :: rest) (hW : (rest.map fun v => v.category).sum ≤ 8) (hdg : decode cc pc = .ok (.invokespecial index, 3)) (hf : cells + mc ≤ R.cells ∧ slots + ms ≤ R.slots)
    (k : ∀ a : Nat → Nat, a 0 = q → Yy p l e R s m args below meth c Q D A nL (cells + mc) (slots + ms) (wl ++ Wf a) lv rest (pc + 3)) : Yy p l e R s m args below meth c Q D A nL cells slots ws lv st pc := by
  subst hws; subst hst
  exact fun H locs ls hP hD hS hl =>
    have hF := y_freeW hD hS Z.2.2.1
    va_callv (va_runI (As := []) Z.1 (hM H.size) cw ⟨y_blind, fun U hU hW9 => ⟨rfl, by rw [hU], by rw [hU]; exact (y_appP hP).2.1, va_K.moved hW9.alike Z.2.1, (y_appD hD).2.1.weaken (fun _ _ _ _ => trivial), Z.2.2.2.warm hW9⟩⟩ rfl rfl hl.1 rfl (lv_room hW) hdg hf) hS (fun q _ h => hF q h) hF (fun a t H1 locs1 ht _ ha hB _ hk hS1 => by
      have hj := y_joinW hP hD hk hF (ht ▸ hB.1) hB.2.2
      rw [List.append_nil] at hj
      exact k a ha H1 locs1 ls hj.1 hj.2 hS1 hl)
end YN
def zM : Nat → Nat → Int32 := fun _ _ => 0
def mx0 : Nat → Nat → Int32 := gt_reset zM
def rp0 : Nat → Nat → Int32 := gm mx0 zM
def vm0 : Nat → Nat → Nat → Int32 := gs (gs (gs (gs (fun _ => zM) 0 mx0) 1 mx0) 2 mx0) 4 rp0
def md0 : Nat → Nat → Int32 := sR zM 1 (mr_bg (fun _ => 0))
theorem hi_X0 : yX0_init.cls ≠ "java/lang/invoke/MethodHandle" ∧ yX0_init.cls ≠ "java/lang/invoke/VarHandle" ∧ (parseMethodDescriptor yX0_init.desc).map (fun d => d.parameters.length) = some 0 := by decide +kernel
theorem hi_X1 : yX1_init.cls ≠ "java/lang/invoke/MethodHandle" ∧ yX1_init.cls ≠ "java/lang/invoke/VarHandle" ∧ (parseMethodDescriptor yX1_init.desc).map (fun d => d.parameters.length) = some 0 := by decide +kernel
theorem hi_X2 : yX2_init.cls ≠ "java/lang/invoke/MethodHandle" ∧ yX2_init.cls ≠ "java/lang/invoke/VarHandle" ∧ (parseMethodDescriptor yX2_init.desc).map (fun d => d.parameters.length) = some 0 := by decide +kernel
theorem hi_X3 : yX3_init.cls ≠ "java/lang/invoke/MethodHandle" ∧ yX3_init.cls ≠ "java/lang/invoke/VarHandle" ∧ (parseMethodDescriptor yX3_init.desc).map (fun d => d.parameters.length) = some 0 := by decide +kernel
theorem hi_X4 : yX4_init.cls ≠ "java/lang/invoke/MethodHandle" ∧ yX4_init.cls ≠ "java/lang/invoke/VarHandle" ∧ (parseMethodDescriptor yX4_init.desc).map (fun d => d.parameters.length) = some 0 := by decide +kernel
theorem hi_X5 : yX5_init.cls ≠ "java/lang/invoke/MethodHandle" ∧ yX5_init.cls ≠ "java/lang/invoke/VarHandle" ∧ (parseMethodDescriptor yX5_init.desc).map (fun d => d.parameters.length) = some 0 := by decide +kernel
set_option maxHeartbeats 4000000 in
set_option maxRecDepth 100000 in
theorem k_X0_init (l : Launch) (D : va_G) {cI : ClassId} {tys : List (ClassId × FieldType)} (ht0 : tys[0]? = some (cI, .int)) (h0 sz : Nat) : kN l yX0_init cX0_init 1 { frames := 1, cells := 1, slots := 600, locals := 20 } D tys h0 [(h0, .inr (0, [.null, .int 0]))] (fun a => wLog cI a zM) 1 600 sz := by
  refine y_enterN (cc := cX0_init) (maxL := 1) (own := RX0) (by decide) rfl (lv0 := [(0, .ref h0)]) rfl (Nat.le_of_ble_eq_true rfl) ?_
  intro p e s m args below meth c A Z hr hlk hin2
  refine y_aload_n Z dX0_init_0 0 rfl rfl ?_
  refine y_objInit Z ml_RX0_1 (Nat.le_of_ble_eq_true rfl) (Nat.le_of_ble_eq_true rfl) (Nat.le_of_ble_eq_true rfl) dX0_init_1 ?_
  refine y_aload_n Z dX0_init_4 0 rfl rfl ?_
  refine y_sipush (v := 600) Z dX0_init_5 (by decide) ?_
  refine y_newa (N' := 600) Z ht0 (by decide) (by decide) (by decide) (Nat.le_of_ble_eq_true rfl) (Nat.le_of_ble_eq_true rfl) dX0_init_8 (fun q1 => ?_)
  refine y_putG (C := RX0) (T := TX0) (N := 2) 0 Z inlX0 rfl tyX0 tyX0_ok nmX0 0 rfl 0 (by decide) fl_RX0_9 rfl hin2 rfl rfl rfl (Nat.le_of_ble_eq_true rfl) ([(h0, .inr (0, [.ref q1, .int 0])), (q1, .inl (cI, 600, .inl (fun _ => 0)))] : va_W) rfl dX0_init_10 ?_
  exact y_retN Z hr hlk (fun k => ([h0, q1] : List Nat).getD k 0) rfl dX0_init_13 rfl
set_option maxHeartbeats 4000000 in
set_option maxRecDepth 100000 in
theorem k_X1_init (l : Launch) (D : va_G) {cI : ClassId} {tys : List (ClassId × FieldType)} (ht0 : tys[0]? = some (cI, .int)) (h0 sz : Nat) : kN l yX1_init cX1_init 1 { frames := 2, cells := 3, slots := 9, locals := 43 } D tys h0 [(h0, .inr (1, [.int 0, .int 0, .int 0, .int 0, .int 0, .int 0, .int 0, .int 0, .int 0, .int 0, .int 0, .null, .null, .null]))] (fun a => wMix cI a mx0) 3 9 sz := by
  refine y_enterN (cc := cX1_init) (maxL := 1) (own := RX1) (by decide) rfl (lv0 := [(0, .ref h0)]) rfl (Nat.le_of_ble_eq_true rfl) ?_
  intro p e s m args below meth c A Z hr hlk hin2
  refine y_aload_n Z dX1_init_0 0 rfl rfl ?_
  refine y_objInit Z ml_RX1_3 (Nat.le_of_ble_eq_true rfl) (Nat.le_of_ble_eq_true rfl) (Nat.le_of_ble_eq_true rfl) dX1_init_1 ?_
  refine y_aload_n Z dX1_init_4 0 rfl rfl ?_
  refine y_iconst (v := 3) Z dX1_init_5 (by decide) ?_
  refine y_newa (N' := 3) Z ht0 (by decide) (by decide) (by decide) (Nat.le_of_ble_eq_true rfl) (Nat.le_of_ble_eq_true rfl) dX1_init_6 (fun q1 => ?_)
  refine y_putG (C := RX1) (T := TX1) (N := 14) 1 Z inlX1 rfl tyX1 tyX1_ok nmX1 0 rfl 11 (by decide) fl_RX1_9 rfl hin2 rfl rfl rfl (Nat.le_of_ble_eq_true rfl) ([(h0, .inr (1, [.int 0, .int 0, .int 0, .int 0, .int 0, .int 0, .int 0, .int 0, .int 0, .int 0, .int 0, .ref q1, .null, .null])), (q1, .inl (cI, 3, .inl (fun _ => 0)))] : va_W) rfl dX1_init_8 ?_
  refine y_aload_n Z dX1_init_11 0 rfl rfl ?_
  refine y_iconst (v := 3) Z dX1_init_12 (by decide) ?_
  refine y_newa (N' := 3) Z ht0 (by decide) (by decide) (by decide) (Nat.le_of_ble_eq_true rfl) (Nat.le_of_ble_eq_true rfl) dX1_init_13 (fun q2 => ?_)
  refine y_putG (C := RX1) (T := TX1) (N := 14) 1 Z inlX1 rfl tyX1 tyX1_ok nmX1 0 rfl 12 (by decide) fl_RX1_15 rfl hin2 rfl rfl rfl (Nat.le_of_ble_eq_true rfl) ([(h0, .inr (1, [.int 0, .int 0, .int 0, .int 0, .int 0, .int 0, .int 0, .int 0, .int 0, .int 0, .int 0, .ref q1, .ref q2, .null])), (q1, .inl (cI, 3, .inl (fun _ => 0))), (q2, .inl (cI, 3, .inl (fun _ => 0)))] : va_W) rfl dX1_init_15 ?_
  refine y_aload_n Z dX1_init_18 0 rfl rfl ?_
  refine y_iconst (v := 3) Z dX1_init_19 (by decide) ?_
  refine y_newa (N' := 3) Z ht0 (by decide) (by decide) (by decide) (Nat.le_of_ble_eq_true rfl) (Nat.le_of_ble_eq_true rfl) dX1_init_20 (fun q3 => ?_)
  refine y_putG (C := RX1) (T := TX1) (N := 14) 1 Z inlX1 rfl tyX1 tyX1_ok nmX1 0 rfl 13 (by decide) fl_RX1_18 rfl hin2 rfl rfl rfl (Nat.le_of_ble_eq_true rfl) ([(h0, .inr (1, [.int 0, .int 0, .int 0, .int 0, .int 0, .int 0, .int 0, .int 0, .int 0, .int 0, .int 0, .ref q1, .ref q2, .ref q3])), (q1, .inl (cI, 3, .inl (fun _ => 0))), (q2, .inl (cI, 3, .inl (fun _ => 0))), (q3, .inl (cI, 3, .inl (fun _ => 0)))] : va_W) rfl dX1_init_22 ?_
  refine y_aload_n Z dX1_init_25 0 rfl rfl ?_
  refine y_eq (ws' := wMix cI (fun k => ([h0, q1, q2, q3] : List Nat).getD k 0) zM) (lv' := [(0, .ref ((fun k => ([h0, q1, q2, q3] : List Nat).getD k 0) 0))]) (st' := [.ref ((fun k => ([h0, q1, q2, q3] : List Nat).getD k 0) 0)]) rfl rfl rfl ?_
  refine y_VVw Z (k_X1_reset l D ht0 (fun k => ([h0, q1, q2, q3] : List Nat).getD k 0) zM) (y_cwV 0 Z ml_RX1_21 im_X1_reset se_X1_reset in_X1 co_X1_reset rfl rfl hd_X1_reset ⟨Nat.le_of_ble_eq_true rfl, Nat.le_of_ble_eq_true rfl⟩) List.nil List.nil (by simp only [List.nil_append, List.append_nil]) 1 0 rfl rfl rfl rfl (Nat.le_of_ble_eq_true rfl) dX1_init_26 ⟨Nat.le_of_ble_eq_true rfl, Nat.le_of_ble_eq_true rfl⟩ (wMix cI (fun k => ([h0, q1, q2, q3] : List Nat).getD k 0) mx0) (by simp only [List.nil_append, List.append_nil, md0, sR_eq, sR_ne, Nat.reduceBEq]; rfl) ?_
  exact y_retN Z hr hlk (fun k => ([h0, q1, q2, q3] : List Nat).getD k 0) rfl dX1_init_29 rfl
set_option maxHeartbeats 4000000 in
set_option maxRecDepth 100000 in
theorem k_X2_init (l : Launch) (D : va_G) {cI : ClassId} {tys : List (ClassId × FieldType)} (ht0 : tys[0]? = some (cI, .int)) (h0 sz : Nat) : kN l yX2_init cX2_init 1 { frames := 1, cells := 1, slots := 10, locals := 20 } D tys h0 [(h0, .inr (2, [.null]))] (fun a => wPic cI a zM) 1 10 sz := by
  refine y_enterN (cc := cX2_init) (maxL := 1) (own := RX2) (by decide) rfl (lv0 := [(0, .ref h0)]) rfl (Nat.le_of_ble_eq_true rfl) ?_
  intro p e s m args below meth c A Z hr hlk hin2
  refine y_aload_n Z dX2_init_0 0 rfl rfl ?_
  refine y_objInit Z ml_RX2_3 (Nat.le_of_ble_eq_true rfl) (Nat.le_of_ble_eq_true rfl) (Nat.le_of_ble_eq_true rfl) dX2_init_1 ?_
  refine y_aload_n Z dX2_init_4 0 rfl rfl ?_
  refine y_bipush (v := 10) Z dX2_init_5 (by decide) ?_
  refine y_newa (N' := 10) Z ht0 (by decide) (by decide) (by decide) (Nat.le_of_ble_eq_true rfl) (Nat.le_of_ble_eq_true rfl) dX2_init_7 (fun q1 => ?_)
  refine y_putG (C := RX2) (T := TX2) (N := 1) 2 Z inlX2 rfl tyX2 tyX2_ok nmX2 0 rfl 0 (by decide) fl_RX2_9 rfl hin2 rfl rfl rfl (Nat.le_of_ble_eq_true rfl) ([(h0, .inr (2, [.ref q1])), (q1, .inl (cI, 10, .inl (fun _ => 0)))] : va_W) rfl dX2_init_9 ?_
  exact y_retN Z hr hlk (fun k => ([h0, q1] : List Nat).getD k 0) rfl dX2_init_12 rfl
set_option maxHeartbeats 4000000 in
set_option maxRecDepth 100000 in
theorem k_X3_init (l : Launch) (D : va_G) {cI : ClassId} {tys : List (ClassId × FieldType)} (ht0 : tys[0]? = some (cI, .int)) (h0 sz : Nat) : kN l yX3_init cX3_init 1 { frames := 3, cells := 4, slots := 23, locals := 63 } D tys h0 [(h0, .inr (3, [.null, .int 0]))] (fun a => wRep cI a rp0) 4 23 sz := by
  refine y_enterN (cc := cX3_init) (maxL := 1) (own := RX3) (by decide) rfl (lv0 := [(0, .ref h0)]) rfl (Nat.le_of_ble_eq_true rfl) ?_
  intro p e s m args below meth c A Z hr hlk hin2
  refine y_aload_n Z dX3_init_0 0 rfl rfl ?_
  refine y_objInit Z ml_RX3_3 (Nat.le_of_ble_eq_true rfl) (Nat.le_of_ble_eq_true rfl) (Nat.le_of_ble_eq_true rfl) dX3_init_1 ?_
  refine y_aload_n Z dX3_init_4 0 rfl rfl ?_
  refine y_new 1 Z inlX1 tyX1 tyX1_ok cl_RX3_9 ia_X1 in_X1 rfl [.int 0, .int 0, .int 0, .int 0, .int 0, .int 0, .int 0, .int 0, .int 0, .int 0, .int 0, .null, .null, .null] (fun j hj => by rcases (show j = 0 ∨ j = 1 ∨ j = 2 ∨ j = 3 ∨ j = 4 ∨ j = 5 ∨ j = 6 ∨ j = 7 ∨ j = 8 ∨ j = 9 ∨ j = 10 ∨ j = 11 ∨ j = 12 ∨ j = 13 by omega) with rfl | rfl | rfl | rfl | rfl | rfl | rfl | rfl | rfl | rfl | rfl | rfl | rfl | rfl <;> rfl) (Nat.le_of_ble_eq_true rfl) (Nat.le_of_ble_eq_true rfl) dX3_init_5 (fun q1 => ?_)
  refine y_dup Z dX3_init_8 rfl ?_
  refine y_INw (wl := [(h0, .inr (3, [.null, .int 0]))]) (wc := [(q1, .inr (1, [.int 0, .int 0, .int 0, .int 0, .int 0, .int 0, .int 0, .int 0, .int 0, .int 0, .int 0, .null, .null, .null]))]) (rest := [.ref q1, .ref h0]) Z (k_X1_init l D ht0 q1) (y_cwI Z ml_RX3_11 im_X1_init in_X1 co_X1_init rfl rfl rfl hi_X1 ⟨Nat.le_of_ble_eq_true rfl, Nat.le_of_ble_eq_true rfl⟩) rfl rfl (Nat.le_of_ble_eq_true rfl) dX3_init_9 ⟨Nat.le_of_ble_eq_true rfl, Nat.le_of_ble_eq_true rfl⟩ (fun a1 ha1 => ?_)
  subst ha1
  refine y_putG (C := RX3) (T := TX3) (N := 2) 3 Z inlX3 rfl tyX3 tyX3_ok nmX3 0 rfl 0 (by decide) fl_RX3_12 rfl hin2 rfl rfl rfl (Nat.le_of_ble_eq_true rfl) (([(h0, .inr (3, [.ref (a1 0), .int 0]))] ++ wMix cI a1 mx0) : va_W) rfl dX3_init_12 ?_
  exact y_retN Z hr hlk (fun k => ([h0, a1 0, a1 1, a1 2, a1 3] : List Nat).getD k 0) rfl dX3_init_15 (by simp only [wRep, rp0, gm_4, gm_ne, Nat.reduceBEq]; rfl)
set_option maxHeartbeats 4000000 in
set_option maxRecDepth 100000 in
theorem k_X4_init (l : Launch) (D : va_G) {cI : ClassId} {tys : List (ClassId × FieldType)} (ht0 : tys[0]? = some (cI, .int)) (h0 sz : Nat) : kN l yX4_init cX4_init 1 { frames := 1, cells := 2, slots := 300, locals := 20 } D tys h0 [(h0, .inr (4, [.null, .null, .int 0, .int 0, .int 0, .int 0]))] (fun a => wScr cI a zM) 2 300 sz := by
  refine y_enterN (cc := cX4_init) (maxL := 1) (own := RX4) (by decide) rfl (lv0 := [(0, .ref h0)]) rfl (Nat.le_of_ble_eq_true rfl) ?_
  intro p e s m args below meth c A Z hr hlk hin2
  refine y_aload_n Z dX4_init_0 0 rfl rfl ?_
  refine y_objInit Z ml_RX4_3 (Nat.le_of_ble_eq_true rfl) (Nat.le_of_ble_eq_true rfl) (Nat.le_of_ble_eq_true rfl) dX4_init_1 ?_
  refine y_aload_n Z dX4_init_4 0 rfl rfl ?_
  refine y_bipush (v := 120) Z dX4_init_5 (by decide) ?_
  refine y_newa (N' := 120) Z ht0 (by decide) (by decide) (by decide) (Nat.le_of_ble_eq_true rfl) (Nat.le_of_ble_eq_true rfl) dX4_init_7 (fun q1 => ?_)
  refine y_putG (C := RX4) (T := TX4) (N := 6) 4 Z inlX4 rfl tyX4 tyX4_ok nmX4 0 rfl 0 (by decide) fl_RX4_11 rfl hin2 rfl rfl rfl (Nat.le_of_ble_eq_true rfl) ([(h0, .inr (4, [.ref q1, .null, .int 0, .int 0, .int 0, .int 0])), (q1, .inl (cI, 120, .inl (fun _ => 0)))] : va_W) rfl dX4_init_9 ?_
  refine y_aload_n Z dX4_init_12 0 rfl rfl ?_
  refine y_sipush (v := 180) Z dX4_init_13 (by decide) ?_
  refine y_newa (N' := 180) Z ht0 (by decide) (by decide) (by decide) (Nat.le_of_ble_eq_true rfl) (Nat.le_of_ble_eq_true rfl) dX4_init_16 (fun q2 => ?_)
  refine y_putG (C := RX4) (T := TX4) (N := 6) 4 Z inlX4 rfl tyX4 tyX4_ok nmX4 0 rfl 1 (by decide) fl_RX4_15 rfl hin2 rfl rfl rfl (Nat.le_of_ble_eq_true rfl) ([(h0, .inr (4, [.ref q1, .ref q2, .int 0, .int 0, .int 0, .int 0])), (q1, .inl (cI, 120, .inl (fun _ => 0))), (q2, .inl (cI, 180, .inl (fun _ => 0)))] : va_W) rfl dX4_init_18 ?_
  exact y_retN Z hr hlk (fun k => ([h0, q1, q2] : List Nat).getD k 0) rfl dX4_init_21 rfl
set_option maxHeartbeats 4000000 in
set_option maxRecDepth 100000 in
theorem k_X5_init (l : Launch) (D : va_G) {cI : ClassId} {tys : List (ClassId × FieldType)} (ht0 : tys[0]? = some (cI, .int)) (h0 sz : Nat) : kN l yX5_init cX5_init 1 { frames := 4, cells := 26, slots := 1024, locals := 83 } D tys h0 [(h0, .inr (5, [.null, .null, .null, .null, .null, .null, .null, .null]))] (fun a => wVM cI a vm0) 26 1024 sz := by
  refine y_enterN (cc := cX5_init) (maxL := 1) (own := RX5) (by decide) rfl (lv0 := [(0, .ref h0)]) rfl (Nat.le_of_ble_eq_true rfl) ?_
  intro p e s m args below meth c A Z hr hlk hin2
  refine y_aload_n Z dX5_init_0 0 rfl rfl ?_
  refine y_objInit Z ml_RX5_1 (Nat.le_of_ble_eq_true rfl) (Nat.le_of_ble_eq_true rfl) (Nat.le_of_ble_eq_true rfl) dX5_init_1 ?_
  refine y_aload_n Z dX5_init_4 0 rfl rfl ?_
  refine y_new 1 Z inlX1 tyX1 tyX1_ok cl_RX5_7 ia_X1 in_X1 rfl [.int 0, .int 0, .int 0, .int 0, .int 0, .int 0, .int 0, .int 0, .int 0, .int 0, .int 0, .null, .null, .null] (fun j hj => by rcases (show j = 0 ∨ j = 1 ∨ j = 2 ∨ j = 3 ∨ j = 4 ∨ j = 5 ∨ j = 6 ∨ j = 7 ∨ j = 8 ∨ j = 9 ∨ j = 10 ∨ j = 11 ∨ j = 12 ∨ j = 13 by omega) with rfl | rfl | rfl | rfl | rfl | rfl | rfl | rfl | rfl | rfl | rfl | rfl | rfl | rfl <;> rfl) (Nat.le_of_ble_eq_true rfl) (Nat.le_of_ble_eq_true rfl) dX5_init_5 (fun q1 => ?_)
  refine y_dup Z dX5_init_8 rfl ?_
  refine y_INw (wl := [(h0, .inr (5, [.null, .null, .null, .null, .null, .null, .null, .null]))]) (wc := [(q1, .inr (1, [.int 0, .int 0, .int 0, .int 0, .int 0, .int 0, .int 0, .int 0, .int 0, .int 0, .int 0, .null, .null, .null]))]) (rest := [.ref q1, .ref h0]) Z (k_X1_init l D ht0 q1) (y_cwI Z ml_RX5_9 im_X1_init in_X1 co_X1_init rfl rfl rfl hi_X1 ⟨Nat.le_of_ble_eq_true rfl, Nat.le_of_ble_eq_true rfl⟩) rfl rfl (Nat.le_of_ble_eq_true rfl) dX5_init_9 ⟨Nat.le_of_ble_eq_true rfl, Nat.le_of_ble_eq_true rfl⟩ (fun a1 ha1 => ?_)
  subst ha1
  refine y_putG (C := RX5) (T := TX5) (N := 8) 5 Z inlX5 rfl tyX5 tyX5_ok nmX5 0 rfl 0 (by decide) fl_RX5_10 rfl hin2 rfl rfl rfl (Nat.le_of_ble_eq_true rfl) (([(h0, .inr (5, [.ref (a1 0), .null, .null, .null, .null, .null, .null, .null]))] ++ wMix cI a1 mx0) : va_W) rfl dX5_init_12 ?_
  refine y_aload_n Z dX5_init_15 0 rfl rfl ?_
  refine y_new 1 Z inlX1 tyX1 tyX1_ok cl_RX5_7 ia_X1 in_X1 rfl [.int 0, .int 0, .int 0, .int 0, .int 0, .int 0, .int 0, .int 0, .int 0, .int 0, .int 0, .null, .null, .null] (fun j hj => by rcases (show j = 0 ∨ j = 1 ∨ j = 2 ∨ j = 3 ∨ j = 4 ∨ j = 5 ∨ j = 6 ∨ j = 7 ∨ j = 8 ∨ j = 9 ∨ j = 10 ∨ j = 11 ∨ j = 12 ∨ j = 13 by omega) with rfl | rfl | rfl | rfl | rfl | rfl | rfl | rfl | rfl | rfl | rfl | rfl | rfl | rfl <;> rfl) (Nat.le_of_ble_eq_true rfl) (Nat.le_of_ble_eq_true rfl) dX5_init_16 (fun q2 => ?_)
  refine y_dup Z dX5_init_19 rfl ?_
  refine y_INw (wl := ([(h0, .inr (5, [.ref (a1 0), .null, .null, .null, .null, .null, .null, .null]))] ++ wMix cI a1 mx0)) (wc := [(q2, .inr (1, [.int 0, .int 0, .int 0, .int 0, .int 0, .int 0, .int 0, .int 0, .int 0, .int 0, .int 0, .null, .null, .null]))]) (rest := [.ref q2, .ref h0]) Z (k_X1_init l D ht0 q2) (y_cwI Z ml_RX5_9 im_X1_init in_X1 co_X1_init rfl rfl rfl hi_X1 ⟨Nat.le_of_ble_eq_true rfl, Nat.le_of_ble_eq_true rfl⟩) rfl rfl (Nat.le_of_ble_eq_true rfl) dX5_init_20 ⟨Nat.le_of_ble_eq_true rfl, Nat.le_of_ble_eq_true rfl⟩ (fun a2 ha2 => ?_)
  subst ha2
  refine y_putG (C := RX5) (T := TX5) (N := 8) 5 Z inlX5 rfl tyX5 tyX5_ok nmX5 0 rfl 1 (by decide) fl_RX5_16 rfl hin2 rfl rfl rfl (Nat.le_of_ble_eq_true rfl) ((([(h0, .inr (5, [.ref (a1 0), .ref (a2 0), .null, .null, .null, .null, .null, .null]))] ++ wMix cI a1 mx0) ++ wMix cI a2 mx0) : va_W) rfl dX5_init_23 ?_
  refine y_aload_n Z dX5_init_26 0 rfl rfl ?_
  refine y_new 1 Z inlX1 tyX1 tyX1_ok cl_RX5_7 ia_X1 in_X1 rfl [.int 0, .int 0, .int 0, .int 0, .int 0, .int 0, .int 0, .int 0, .int 0, .int 0, .int 0, .null, .null, .null] (fun j hj => by rcases (show j = 0 ∨ j = 1 ∨ j = 2 ∨ j = 3 ∨ j = 4 ∨ j = 5 ∨ j = 6 ∨ j = 7 ∨ j = 8 ∨ j = 9 ∨ j = 10 ∨ j = 11 ∨ j = 12 ∨ j = 13 by omega) with rfl | rfl | rfl | rfl | rfl | rfl | rfl | rfl | rfl | rfl | rfl | rfl | rfl | rfl <;> rfl) (Nat.le_of_ble_eq_true rfl) (Nat.le_of_ble_eq_true rfl) dX5_init_27 (fun q3 => ?_)
  refine y_dup Z dX5_init_30 rfl ?_
  refine y_INw (wl := (([(h0, .inr (5, [.ref (a1 0), .ref (a2 0), .null, .null, .null, .null, .null, .null]))] ++ wMix cI a1 mx0) ++ wMix cI a2 mx0)) (wc := [(q3, .inr (1, [.int 0, .int 0, .int 0, .int 0, .int 0, .int 0, .int 0, .int 0, .int 0, .int 0, .int 0, .null, .null, .null]))]) (rest := [.ref q3, .ref h0]) Z (k_X1_init l D ht0 q3) (y_cwI Z ml_RX5_9 im_X1_init in_X1 co_X1_init rfl rfl rfl hi_X1 ⟨Nat.le_of_ble_eq_true rfl, Nat.le_of_ble_eq_true rfl⟩) rfl rfl (Nat.le_of_ble_eq_true rfl) dX5_init_31 ⟨Nat.le_of_ble_eq_true rfl, Nat.le_of_ble_eq_true rfl⟩ (fun a3 ha3 => ?_)
  subst ha3
  refine y_putG (C := RX5) (T := TX5) (N := 8) 5 Z inlX5 rfl tyX5 tyX5_ok nmX5 0 rfl 2 (by decide) fl_RX5_19 rfl hin2 rfl rfl rfl (Nat.le_of_ble_eq_true rfl) (((([(h0, .inr (5, [.ref (a1 0), .ref (a2 0), .ref (a3 0), .null, .null, .null, .null, .null]))] ++ wMix cI a1 mx0) ++ wMix cI a2 mx0) ++ wMix cI a3 mx0) : va_W) rfl dX5_init_34 ?_
  refine y_aload_n Z dX5_init_37 0 rfl rfl ?_
  refine y_new 0 Z inlX0 tyX0 tyX0_ok cl_RX5_22 ia_X0 in_X0 rfl [.null, .int 0] (fun j hj => by rcases (show j = 0 ∨ j = 1 by omega) with rfl | rfl <;> rfl) (Nat.le_of_ble_eq_true rfl) (Nat.le_of_ble_eq_true rfl) dX5_init_38 (fun q4 => ?_)
  refine y_dup Z dX5_init_41 rfl ?_
  refine y_INw (wl := ((([(h0, .inr (5, [.ref (a1 0), .ref (a2 0), .ref (a3 0), .null, .null, .null, .null, .null]))] ++ wMix cI a1 mx0) ++ wMix cI a2 mx0) ++ wMix cI a3 mx0)) (wc := [(q4, .inr (0, [.null, .int 0]))]) (rest := [.ref q4, .ref h0]) Z (k_X0_init l D ht0 q4) (y_cwI Z ml_RX5_24 im_X0_init in_X0 co_X0_init rfl rfl rfl hi_X0 ⟨Nat.le_of_ble_eq_true rfl, Nat.le_of_ble_eq_true rfl⟩) rfl rfl (Nat.le_of_ble_eq_true rfl) dX5_init_42 ⟨Nat.le_of_ble_eq_true rfl, Nat.le_of_ble_eq_true rfl⟩ (fun a4 ha4 => ?_)
  subst ha4
  refine y_putG (C := RX5) (T := TX5) (N := 8) 5 Z inlX5 rfl tyX5 tyX5_ok nmX5 0 rfl 3 (by decide) fl_RX5_25 rfl hin2 rfl rfl rfl (Nat.le_of_ble_eq_true rfl) ((((([(h0, .inr (5, [.ref (a1 0), .ref (a2 0), .ref (a3 0), .ref (a4 0), .null, .null, .null, .null]))] ++ wMix cI a1 mx0) ++ wMix cI a2 mx0) ++ wMix cI a3 mx0) ++ wLog cI a4 zM) : va_W) rfl dX5_init_45 ?_
  refine y_aload_n Z dX5_init_48 0 rfl rfl ?_
  refine y_new 3 Z inlX3 tyX3 tyX3_ok cl_RX5_29 ia_X3 in_X3 rfl [.null, .int 0] (fun j hj => by rcases (show j = 0 ∨ j = 1 by omega) with rfl | rfl <;> rfl) (Nat.le_of_ble_eq_true rfl) (Nat.le_of_ble_eq_true rfl) dX5_init_49 (fun q5 => ?_)
  refine y_dup Z dX5_init_52 rfl ?_
  refine y_INw (wl := (((([(h0, .inr (5, [.ref (a1 0), .ref (a2 0), .ref (a3 0), .ref (a4 0), .null, .null, .null, .null]))] ++ wMix cI a1 mx0) ++ wMix cI a2 mx0) ++ wMix cI a3 mx0) ++ wLog cI a4 zM)) (wc := [(q5, .inr (3, [.null, .int 0]))]) (rest := [.ref q5, .ref h0]) Z (k_X3_init l D ht0 q5) (y_cwI Z ml_RX5_31 im_X3_init in_X3 co_X3_init rfl rfl rfl hi_X3 ⟨Nat.le_of_ble_eq_true rfl, Nat.le_of_ble_eq_true rfl⟩) rfl rfl (Nat.le_of_ble_eq_true rfl) dX5_init_53 ⟨Nat.le_of_ble_eq_true rfl, Nat.le_of_ble_eq_true rfl⟩ (fun a5 ha5 => ?_)
  subst ha5
  refine y_putG (C := RX5) (T := TX5) (N := 8) 5 Z inlX5 rfl tyX5 tyX5_ok nmX5 0 rfl 4 (by decide) fl_RX5_32 rfl hin2 rfl rfl rfl (Nat.le_of_ble_eq_true rfl) (((((([(h0, .inr (5, [.ref (a1 0), .ref (a2 0), .ref (a3 0), .ref (a4 0), .ref (a5 0), .null, .null, .null]))] ++ wMix cI a1 mx0) ++ wMix cI a2 mx0) ++ wMix cI a3 mx0) ++ wLog cI a4 zM) ++ wRep cI a5 rp0) : va_W) rfl dX5_init_56 ?_
  refine y_aload_n Z dX5_init_59 0 rfl rfl ?_
  refine y_new 2 Z inlX2 tyX2 tyX2_ok cl_RX5_36 ia_X2 in_X2 rfl [.null] (fun j hj => by rcases (show j = 0 by omega) with rfl <;> rfl) (Nat.le_of_ble_eq_true rfl) (Nat.le_of_ble_eq_true rfl) dX5_init_60 (fun q6 => ?_)
  refine y_dup Z dX5_init_63 rfl ?_
  refine y_INw (wl := ((((([(h0, .inr (5, [.ref (a1 0), .ref (a2 0), .ref (a3 0), .ref (a4 0), .ref (a5 0), .null, .null, .null]))] ++ wMix cI a1 mx0) ++ wMix cI a2 mx0) ++ wMix cI a3 mx0) ++ wLog cI a4 zM) ++ wRep cI a5 rp0)) (wc := [(q6, .inr (2, [.null]))]) (rest := [.ref q6, .ref h0]) Z (k_X2_init l D ht0 q6) (y_cwI Z ml_RX5_38 im_X2_init in_X2 co_X2_init rfl rfl rfl hi_X2 ⟨Nat.le_of_ble_eq_true rfl, Nat.le_of_ble_eq_true rfl⟩) rfl rfl (Nat.le_of_ble_eq_true rfl) dX5_init_64 ⟨Nat.le_of_ble_eq_true rfl, Nat.le_of_ble_eq_true rfl⟩ (fun a6 ha6 => ?_)
  subst ha6
  refine y_putG (C := RX5) (T := TX5) (N := 8) 5 Z inlX5 rfl tyX5 tyX5_ok nmX5 0 rfl 5 (by decide) fl_RX5_39 rfl hin2 rfl rfl rfl (Nat.le_of_ble_eq_true rfl) ((((((([(h0, .inr (5, [.ref (a1 0), .ref (a2 0), .ref (a3 0), .ref (a4 0), .ref (a5 0), .ref (a6 0), .null, .null]))] ++ wMix cI a1 mx0) ++ wMix cI a2 mx0) ++ wMix cI a3 mx0) ++ wLog cI a4 zM) ++ wRep cI a5 rp0) ++ wPic cI a6 zM) : va_W) rfl dX5_init_67 ?_
  refine y_aload_n Z dX5_init_70 0 rfl rfl ?_
  refine y_new 2 Z inlX2 tyX2 tyX2_ok cl_RX5_36 ia_X2 in_X2 rfl [.null] (fun j hj => by rcases (show j = 0 by omega) with rfl <;> rfl) (Nat.le_of_ble_eq_true rfl) (Nat.le_of_ble_eq_true rfl) dX5_init_71 (fun q7 => ?_)
  refine y_dup Z dX5_init_74 rfl ?_
  refine y_INw (wl := (((((([(h0, .inr (5, [.ref (a1 0), .ref (a2 0), .ref (a3 0), .ref (a4 0), .ref (a5 0), .ref (a6 0), .null, .null]))] ++ wMix cI a1 mx0) ++ wMix cI a2 mx0) ++ wMix cI a3 mx0) ++ wLog cI a4 zM) ++ wRep cI a5 rp0) ++ wPic cI a6 zM)) (wc := [(q7, .inr (2, [.null]))]) (rest := [.ref q7, .ref h0]) Z (k_X2_init l D ht0 q7) (y_cwI Z ml_RX5_38 im_X2_init in_X2 co_X2_init rfl rfl rfl hi_X2 ⟨Nat.le_of_ble_eq_true rfl, Nat.le_of_ble_eq_true rfl⟩) rfl rfl (Nat.le_of_ble_eq_true rfl) dX5_init_75 ⟨Nat.le_of_ble_eq_true rfl, Nat.le_of_ble_eq_true rfl⟩ (fun a7 ha7 => ?_)
  subst ha7
  refine y_putG (C := RX5) (T := TX5) (N := 8) 5 Z inlX5 rfl tyX5 tyX5_ok nmX5 0 rfl 6 (by decide) fl_RX5_43 rfl hin2 rfl rfl rfl (Nat.le_of_ble_eq_true rfl) (((((((([(h0, .inr (5, [.ref (a1 0), .ref (a2 0), .ref (a3 0), .ref (a4 0), .ref (a5 0), .ref (a6 0), .ref (a7 0), .null]))] ++ wMix cI a1 mx0) ++ wMix cI a2 mx0) ++ wMix cI a3 mx0) ++ wLog cI a4 zM) ++ wRep cI a5 rp0) ++ wPic cI a6 zM) ++ wPic cI a7 zM) : va_W) rfl dX5_init_78 ?_
  refine y_aload_n Z dX5_init_81 0 rfl rfl ?_
  refine y_new 4 Z inlX4 tyX4 tyX4_ok cl_RX5_46 ia_X4 in_X4 rfl [.null, .null, .int 0, .int 0, .int 0, .int 0] (fun j hj => by rcases (show j = 0 ∨ j = 1 ∨ j = 2 ∨ j = 3 ∨ j = 4 ∨ j = 5 by omega) with rfl | rfl | rfl | rfl | rfl | rfl <;> rfl) (Nat.le_of_ble_eq_true rfl) (Nat.le_of_ble_eq_true rfl) dX5_init_82 (fun q8 => ?_)
  refine y_dup Z dX5_init_85 rfl ?_
  refine y_INw (wl := ((((((([(h0, .inr (5, [.ref (a1 0), .ref (a2 0), .ref (a3 0), .ref (a4 0), .ref (a5 0), .ref (a6 0), .ref (a7 0), .null]))] ++ wMix cI a1 mx0) ++ wMix cI a2 mx0) ++ wMix cI a3 mx0) ++ wLog cI a4 zM) ++ wRep cI a5 rp0) ++ wPic cI a6 zM) ++ wPic cI a7 zM)) (wc := [(q8, .inr (4, [.null, .null, .int 0, .int 0, .int 0, .int 0]))]) (rest := [.ref q8, .ref h0]) Z (k_X4_init l D ht0 q8) (y_cwI Z ml_RX5_48 im_X4_init in_X4 co_X4_init rfl rfl rfl hi_X4 ⟨Nat.le_of_ble_eq_true rfl, Nat.le_of_ble_eq_true rfl⟩) rfl rfl (Nat.le_of_ble_eq_true rfl) dX5_init_86 ⟨Nat.le_of_ble_eq_true rfl, Nat.le_of_ble_eq_true rfl⟩ (fun a8 ha8 => ?_)
  subst ha8
  refine y_putG (C := RX5) (T := TX5) (N := 8) 5 Z inlX5 rfl tyX5 tyX5_ok nmX5 0 rfl 7 (by decide) fl_RX5_49 rfl hin2 rfl rfl rfl (Nat.le_of_ble_eq_true rfl) ((((((((([(h0, .inr (5, [.ref (a1 0), .ref (a2 0), .ref (a3 0), .ref (a4 0), .ref (a5 0), .ref (a6 0), .ref (a7 0), .ref (a8 0)]))] ++ wMix cI a1 mx0) ++ wMix cI a2 mx0) ++ wMix cI a3 mx0) ++ wLog cI a4 zM) ++ wRep cI a5 rp0) ++ wPic cI a6 zM) ++ wPic cI a7 zM) ++ wScr cI a8 zM) : va_W) rfl dX5_init_89 ?_
  exact y_retN Z hr hlk (fun k => ([h0, a1 0, a1 1, a1 2, a1 3, a2 0, a2 1, a2 2, a2 3, a3 0, a3 1, a3 2, a3 3, a4 0, a4 1, a5 0, a5 1, a5 2, a5 3, a5 4, a6 0, a6 1, a7 0, a7 1, a8 0, a8 1, a8 2] : List Nat).getD k 0) rfl dX5_init_92 (by simp only [wVM, vm0, gs_eq, gs_ne, Nat.reduceBEq]; rfl)
