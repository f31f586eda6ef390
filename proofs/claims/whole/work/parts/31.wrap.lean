/-! the law's wrappers: methods with an exception table, out[0] -/
def wOut (cL : ClassId) (a : Nat) (f : Nat → Int64) : va_W := [(a, .inl (cL, 1, .inr (.inl f)))]
theorem wx_ofWH {l : Launch} {y : MethodName} {ws ws' : List Cond} {rm : Room} {Pc : Array Value → State → Prop} {Qc : Array Value → State → Outcome → State → Prop} {mc ms : Nat} {free : Addr → Prop} {cc : ByteArray} {maxL : Nat} {ret : Option FieldType} {hh : List (Nat × Nat × Nat × Nat)}
    (hy : plainName y.cls = true) (hw : ws = Cond.codeWith y cc maxL ret hh :: ws')
    (body : ∀ p e s m args below meth c s₁, BodyLoose p l y (headSpec ws rm) cc maxL ret e s m args below meth c s₁ → c.maxLocals = maxL → Pc args s →
      W p l e (headSpec ws rm).room s m args below meth c s.heap [] 0 0 (MQ below Qc args s mc ms free) (entryFrame m args maxL)) : Met l y ws rm Pc Qc mc ms free := by
  refine MetFree.of_bodyS (code := cc) (maxLocals := maxL) (ret := ret) hy ?_ ?_
  · intro args s m h hn
    obtain ⟨m9, meth, c, hn9, h1, h2, h3, h4, -, h5, h6, -⟩ := Cond.codeWith_spec (atoms_spec (ws := ws) h _ (by rw [hw]; exact List.mem_cons_self))
    cases hn.symm.trans hn9
    exact ⟨meth, c, h1, h2, h3, h4, h5, h6⟩
  · intro p e s m args below meth c s₁ B hml hP _
    have hh0 : s₁.heap = s.heap := by rw [B.state]; rfl
    obtain ⟨t, a1, o, b1, b2, b3⟩ := body p e s m args below meth c s₁ B hml hP s₁ hh0 (Stand.of_body B)
    exact ⟨t, o, a1, b1, b2, ⟨b3.1, b3.2⟩⟩
def kW (l : Launch) (y : MethodName) (cc : ByteArray) (maxL : Nat) (hh : List (Nat × Nat × Nat × Nat)) (rm : Room) (D : va_G) (tys : List (ClassId × FieldType)) (av : List Value) (w0 w1 : va_W) (r : Int32) (mc ms sz : Nat) : Prop := Met l y (Cond.codeWith y cc maxL (some .int) hh :: wsL_law) rm (va_Pc av (yPreX D tys w0 sz)) (qI D tys (va_A w0 sz) w1 r) mc ms (va_A w0 sz)
theorem y_enterW {l : Launch} {y : MethodName} {rm : Room} {cc : ByteArray} {maxL : Nat} {hh : List (Nat × Nat × Nat × Nat)} {own : String} {D : va_G} {tys : List (ClassId × FieldType)} {av : List Value} {w0 w1 : va_W} {r : Int32} {mc ms sz : Nat} {lv0 : List (Nat × Value)} (hy : plainName y.cls = true) (ho : y.cls = own) (hlv : lv_args 0 av = lv0) (hle : (lg_sl av).length ≤ maxL)
    (body : ∀ (p : Program) (e : Env) (s : State) (m : MethodId) (args : Array Value) (below : List Frame) (meth : Method) (c : Code) (A : Nat → Prop), Zz p m c cc maxL s args wsL_law own D tys A → Xz s A → c.exceptionTable.toList = tableOf hh → meth.sig.returnType = some .int → meth.locks = false → Yy p l e rm s m args below meth c (QI D tys A w1 r below args s mc ms) D A maxL 0 0 w0 lv0 [] 0) : kW l y cc maxL hh rm D tys av w0 w1 r mc ms sz := by
  refine wx_ofWH (cc := cc) (maxL := maxL) (ret := some .int) (hh := hh) hy rfl ?_
  intro p e s m args below meth c s₁ B hml hv
  obtain ⟨rfl, ⟨hsz, hP, hK, hD0, hN⟩, hu, hn⟩ := hv
  subst hsz
  have hts := atoms_spec (ws := Cond.codeWith y cc maxL (some .int) hh :: wsL_law) B.pre
  exact y_entry hlv hle hP hD0.self (body p e s m _ below meth c _ (y_zz B.exec B.bytes hml (ho ▸ findClass_of_methodNamed B.named) (fun w hw => hts w (List.mem_cons_of_mem _ hw)) hK hN) ⟨hu, hn⟩ (vx_table (x := y) B (hts _ List.mem_cons_self)) B.returns B.notSynchronized)
section YWr
variable {p : Program} {l : Launch} {e : Env} {R : Room} {s : State} {m : MethodId} {args : Array Value} {below : List Frame} {meth : Method} {c : Code} {Q : State → Prop} {D : va_G} {A : Nat → Prop} {nL cells slots : Nat} {ws : va_W} {lv : List (Nat × Value)} {st : List Value} {pc : Nat}
variable {cc : ByteArray} {own : String} {tys : List (ClassId × FieldType)} {w1 : va_W}
/-- thrown and caught here -/
theorem y_catch (Z : Zz p m c cc nL s args wsL_law own D tys A) {hh : List (Nat × Nat × Nat × Nat)} (hT : c.exceptionTable.toList = tableOf hh) {E : String} {rest : List Value} (pre : List ExceptionTableEntry) (x : ExceptionTableEntry) (suf : List ExceptionTableEntry) (hsplit : tableOf hh = pre ++ x :: suf)
    (hpass : ∀ z ∈ pre, covers z pc = false ∨ (z.catchType ≠ 0 ∧ ∃ nm : String, Cond.classLink own z.catchType nm ∈ wsL_law ∧ va_Nc E nm s)) (hx : covers x pc = true) (h0 : x.catchType ≠ 0) (hlink : Cond.classLink own x.catchType E ∈ wsL_law) (hcast : Cond.castable E E ∈ yNest)
    (k : ∀ q : Nat, Yy p l e R s m args below meth c Q D A nL (cells + 1) (slots + 6) ws lv [.ref q] x.handlerPc) : yCatch p l e R s m args below meth c Q D A nL cells slots ws lv rest pc E := fun H1 locs1 ls q ce hP hD hS hl hce hcv hcl =>
  vx_catch Z.1.2.2.2.1 pre x suf (hT.trans hsplit) (fun z hz => (hpass z hz).imp id (fun h => ⟨h.1, h.2.choose, Z.1.2.2.2.2 _ h.2.choose_spec.1, h.2.choose_spec.2⟩)) hx h0 (Z.1.2.2.2.2 _ hlink) ((Z.2.2.2.1 _ hcast).use rfl) hce hcv hcl (k q H1 locs1 ls hP hD hS hl)
theorem y_gCW {y : MethodName} {bytes : ByteArray} {maxL : Nat} {ret : Option FieldType} {hh : List (Nat × Nat × Nat × Nat)} (h : Cond.codeWith y bytes maxL ret hh ∈ wsL_law) : GoodIn wsL_law (Cond.codeWith y bytes maxL ret hh :: wsL_law) := fun w hw => by
  rcases List.mem_cons.mp hw with rfl | hw
  · exact y_gW h
  · exact y_gW hw
theorem y_cwSW {y : MethodName} {bytes : ByteArray} {maxL index mc ms : Nat} {ret : Option FieldType} {hh : List (Nat × Nat × Nat × Nat)} {rm : Room} (n : Nat) (Z : Zz p m c cc nL s args wsL_law own D tys A) (h1 : Cond.methodLink own index y ∈ wsL_law) (h2 : Cond.static y ∈ wsL_law) (h4 : Cond.initialized y.cls ∈ wsL_law) (h5 : Cond.codeWith y bytes maxL ret hh ∈ wsL_law) (hrc : rm.cells = mc) (hrs : rm.slots = ms)
    (hd : y.cls ≠ "java/lang/invoke/MethodHandle" ∧ y.cls ≠ "java/lang/invoke/VarHandle" ∧ (parseMethodDescriptor y.desc).map (fun d => d.parameters.length) = some n) (hR : rm.frames + 1 ≤ R.frames ∧ 8 + (maxL + 11) + rm.locals ≤ R.locals) : vx_CSW R s args own index y bytes maxL ret hh (Cond.codeWith y bytes maxL ret hh :: wsL_law) rm mc ms n := by
  refine vx_cwSW n Z.1.2.2.2.2 (fun w hw => ?_) rfl hrc hrs hd hR
  rcases List.mem_append.mp (show w ∈ ([.methodLink own index y, .static y, .initialized y.cls] : List Cond) ++ (Cond.codeWith y bytes maxL ret hh :: wsL_law) from hw) with h | h
  · simp only [List.mem_cons, List.not_mem_nil, or_false] at h
    rcases h with rfl | rfl | rfl
    · exact y_gW h1
    · exact y_gW h2
    · exact y_gW h4
  · exact y_gCW h5 w h
theorem y_SWw {y : MethodName} {bytes : ByteArray} {maxL n index mc ms : Nat} {hh : List (Nat × Nat × Nat × Nat)} {rm : Room} {As rest : List Value} {wc : va_W} {r : Int32} (Z : Zz p m c cc nL s args wsL_law own D tys A) (X : Xz s A) (hM : ∀ sz, kW l y bytes maxL hh rm D tys As wc w1 r mc ms sz) (cw : vx_CSW R s args own index y bytes maxL (some .int) hh (Cond.codeWith y bytes maxL (some .int) hh :: wsL_law) rm mc ms n) (wl wr : va_W) (hws : ws = wl ++ (wc ++ wr))
    (hst : st = As.reverse ++ rest) (hn : As.length = n) (hW : (rest.map fun v => v.category).sum ≤ 8) (hdg : decode cc pc = .ok (.invokestatic index, 3)) (hf : cells + mc ≤ R.cells ∧ slots + ms ≤ R.slots) (ws2 : va_W) (hn2 : wl ++ (w1 ++ wr) = ws2)
    (k : Yy p l e R s m args below meth c Q D A nL (cells + mc) (slots + ms) ws2 lv (.int r :: rest) (pc + 3)) : Yy p l e R s m args below meth c Q D A nL cells slots ws lv st pc := by
  subst hws; subst hn2
  exact fun H locs ls hP hD hS hl =>
    have hF := y_freeW hD hS Z.2.2.1
    va_calli (vx_runSW Z.1 (hM H.size) cw ⟨y_blindX, fun U hU hW9 => y_preXw Z X hP hD hS hU hW9⟩ rfl hn hl.1 hst (lv_room hW) hdg hf) hS (fun q _ h => hF q h) hF (fun x _ t H1 locs1 ht _ hx hB _ hk hS1 => by
      subst hx
      have hj := y_joinW hP hD hk hF (ht ▸ hB.1) hB.2.2
      exact k H1 locs1 ls hj.1 hj.2 hS1 hl)
end YWr
theorem hs_L_program : yL_program.cls ≠ "java/lang/invoke/MethodHandle" ∧ yL_program.cls ≠ "java/lang/invoke/VarHandle" ∧ (parseMethodDescriptor yL_program.desc).map (fun d => d.parameters.length) = some 3 := by decide +kernel
theorem hs_L_preview : yL_preview.cls ≠ "java/lang/invoke/MethodHandle" ∧ yL_preview.cls ≠ "java/lang/invoke/VarHandle" ∧ (parseMethodDescriptor yL_preview.desc).map (fun d => d.parameters.length) = some 3 := by decide +kernel
theorem hs_L_transition : yL_transition.cls ≠ "java/lang/invoke/MethodHandle" ∧ yL_transition.cls ≠ "java/lang/invoke/VarHandle" ∧ (parseMethodDescriptor yL_transition.desc).map (fun d => d.parameters.length) = some 4 := by decide +kernel
theorem hs_L_next : yL_next.cls ≠ "java/lang/invoke/MethodHandle" ∧ yL_next.cls ≠ "java/lang/invoke/VarHandle" ∧ (parseMethodDescriptor yL_next.desc).map (fun d => d.parameters.length) = some 3 := by decide +kernel
theorem hs_L_key : yL_key.cls ≠ "java/lang/invoke/MethodHandle" ∧ yL_key.cls ≠ "java/lang/invoke/VarHandle" ∧ (parseMethodDescriptor yL_key.desc).map (fun d => d.parameters.length) = some 6 := by decide +kernel
theorem hs_L_toggle : yL_toggle.cls ≠ "java/lang/invoke/MethodHandle" ∧ yL_toggle.cls ≠ "java/lang/invoke/VarHandle" ∧ (parseMethodDescriptor yL_toggle.desc).map (fun d => d.parameters.length) = some 3 := by decide +kernel
theorem hs_L_cut : yL_cut.cls ≠ "java/lang/invoke/MethodHandle" ∧ yL_cut.cls ≠ "java/lang/invoke/VarHandle" ∧ (parseMethodDescriptor yL_cut.desc).map (fun d => d.parameters.length) = some 2 := by decide +kernel
theorem hs_L_auto : yL_auto.cls ≠ "java/lang/invoke/MethodHandle" ∧ yL_auto.cls ≠ "java/lang/invoke/VarHandle" ∧ (parseMethodDescriptor yL_auto.desc).map (fun d => d.parameters.length) = some 2 := by decide +kernel
theorem hs_L_bar : yL_bar.cls ≠ "java/lang/invoke/MethodHandle" ∧ yL_bar.cls ≠ "java/lang/invoke/VarHandle" ∧ (parseMethodDescriptor yL_bar.desc).map (fun d => d.parameters.length) = some 3 := by decide +kernel
theorem hs_L_fault : yL_fault.cls ≠ "java/lang/invoke/MethodHandle" ∧ yL_fault.cls ≠ "java/lang/invoke/VarHandle" ∧ (parseMethodDescriptor yL_fault.desc).map (fun d => d.parameters.length) = some 4 := by decide +kernel
theorem hs_L_pass : yL_pass.cls ≠ "java/lang/invoke/MethodHandle" ∧ yL_pass.cls ≠ "java/lang/invoke/VarHandle" ∧ (parseMethodDescriptor yL_pass.desc).map (fun d => d.parameters.length) = some 3 := by decide +kernel
theorem hs_L_setting : yL_setting.cls ≠ "java/lang/invoke/MethodHandle" ∧ yL_setting.cls ≠ "java/lang/invoke/VarHandle" ∧ (parseMethodDescriptor yL_setting.desc).map (fun d => d.parameters.length) = some 3 := by decide +kernel
theorem hs_L_keyer : yL_keyer.cls ≠ "java/lang/invoke/MethodHandle" ∧ yL_keyer.cls ≠ "java/lang/invoke/VarHandle" ∧ (parseMethodDescriptor yL_keyer.desc).map (fun d => d.parameters.length) = some 4 := by decide +kernel
theorem hs_L_share : yL_share.cls ≠ "java/lang/invoke/MethodHandle" ∧ yL_share.cls ≠ "java/lang/invoke/VarHandle" ∧ (parseMethodDescriptor yL_share.desc).map (fun d => d.parameters.length) = some 4 := by decide +kernel
theorem hs_L_tally : yL_tally.cls ≠ "java/lang/invoke/MethodHandle" ∧ yL_tally.cls ≠ "java/lang/invoke/VarHandle" ∧ (parseMethodDescriptor yL_tally.desc).map (fun d => d.parameters.length) = some 3 := by decide +kernel
theorem hs_L_settingAt : yL_settingAt.cls ≠ "java/lang/invoke/MethodHandle" ∧ yL_settingAt.cls ≠ "java/lang/invoke/VarHandle" ∧ (parseMethodDescriptor yL_settingAt.desc).map (fun d => d.parameters.length) = some 4 := by decide +kernel
theorem hs_L_shareAt : yL_shareAt.cls ≠ "java/lang/invoke/MethodHandle" ∧ yL_shareAt.cls ≠ "java/lang/invoke/VarHandle" ∧ (parseMethodDescriptor yL_shareAt.desc).map (fun d => d.parameters.length) = some 4 := by decide +kernel
theorem hs_L_timesRed : yL_timesRed.cls ≠ "java/lang/invoke/MethodHandle" ∧ yL_timesRed.cls ≠ "java/lang/invoke/VarHandle" ∧ (parseMethodDescriptor yL_timesRed.desc).map (fun d => d.parameters.length) = some 3 := by decide +kernel
theorem hs_L_firstRed : yL_firstRed.cls ≠ "java/lang/invoke/MethodHandle" ∧ yL_firstRed.cls ≠ "java/lang/invoke/VarHandle" ∧ (parseMethodDescriptor yL_firstRed.desc).map (fun d => d.parameters.length) = some 3 := by decide +kernel
theorem hs_L_act : yL_act.cls ≠ "java/lang/invoke/MethodHandle" ∧ yL_act.cls ≠ "java/lang/invoke/VarHandle" ∧ (parseMethodDescriptor yL_act.desc).map (fun d => d.parameters.length) = some 4 := by decide +kernel
theorem hs_L_takeOut : yL_takeOut.cls ≠ "java/lang/invoke/MethodHandle" ∧ yL_takeOut.cls ≠ "java/lang/invoke/VarHandle" ∧ (parseMethodDescriptor yL_takeOut.desc).map (fun d => d.parameters.length) = some 3 := by decide +kernel
theorem hs_L_undo : yL_undo.cls ≠ "java/lang/invoke/MethodHandle" ∧ yL_undo.cls ≠ "java/lang/invoke/VarHandle" ∧ (parseMethodDescriptor yL_undo.desc).map (fun d => d.parameters.length) = some 2 := by decide +kernel
theorem hs_L_redWithout : yL_redWithout.cls ≠ "java/lang/invoke/MethodHandle" ∧ yL_redWithout.cls ≠ "java/lang/invoke/VarHandle" ∧ (parseMethodDescriptor yL_redWithout.desc).map (fun d => d.parameters.length) = some 3 := by decide +kernel
theorem hs_L_append : yL_append.cls ≠ "java/lang/invoke/MethodHandle" ∧ yL_append.cls ≠ "java/lang/invoke/VarHandle" ∧ (parseMethodDescriptor yL_append.desc).map (fun d => d.parameters.length) = some 3 := by decide +kernel
set_option maxHeartbeats 4000000 in
set_option maxRecDepth 100000 in
theorem k_L_program (l : Launch) (htr : l.stackTraces = false) (D : va_G) {cI cL : ClassId} {tys : List (ClassId × FieldType)} (ht0 : tys[0]? = some (cI, .int)) (ht1 : tys[1]? = some (cL, .long)) (aJ : Nat → Nat) (J : Nat → Nat → Nat → Int32) (aO : Nat) (O : Nat → Int64) (q : Int32)  (h_q : okS q) (h_m : okM J 0) (sz : Nat) : kW l yL_program cL_program 4 [(0, 9, 12, 13), (0, 9, 15, 15)] { frames := 8, cells := 0, slots := 0, locals := 150 } D tys [.ref (aJ 0), .int q, .ref aO] (wVM cI aJ J ++ wOut cL aO O) (wVM cI aJ (vm_enact J 0 q (-1) (-1) (-1)) ++ wOut cL aO (vp_updL O 0 (Int32.toInt64 (perfR (J 0) 0 q (-1) (-1) (-1))))) 0 0 0 sz := by
  refine y_enterW (cc := cL_program) (maxL := 4) (hh := [(0, 9, 12, 13), (0, 9, 15, 15)]) (own := RL) (by decide) rfl (lv0 := [(0, .ref (aJ 0)), (1, .int q), (2, .ref aO)]) rfl (Nat.le_of_ble_eq_true rfl) ?_
  intro p e s m args below meth c A Z X hT hr hlk
  refine y_aload_n Z dL_program_0 2 rfl rfl ?_
  refine y_iconst (v := 0) Z dL_program_1 (by decide) ?_
  refine y_aload_n Z dL_program_2 0 rfl rfl ?_
  refine y_iload_n Z dL_program_3 1 rfl rfl ?_
  refine y_VIw (rest := [.int 0, .ref aO]) Z (k_X5_program l D ht0 aJ J q h_q h_m) (y_cwV 1 Z ml_RL_7 im_X5_program se_X5_program in_X5 co_X5_program rfl rfl hd_X5_program ⟨Nat.le_of_ble_eq_true rfl, Nat.le_of_ble_eq_true rfl⟩) List.nil (wOut cL aO O) rfl 5 0 rfl rfl rfl rfl (Nat.le_of_ble_eq_true rfl) dL_program_4 ⟨Nat.le_of_ble_eq_true rfl, Nat.le_of_ble_eq_true rfl⟩ (wVM cI aJ (vm_enact J 0 q (-1) (-1) (-1)) ++ wOut cL aO O) rfl ?_
  refine y_i2l Z dL_program_7 ?_
  refine y_last Z 27 1 rfl ht1 (vpd (by decide) (by decide)) 0 (by decide) (wVM cI aJ (vm_enact J 0 q (-1) (-1) (-1)) ++ wOut cL aO (vp_updL O 0 (Int32.toInt64 (perfR (J 0) 0 q (-1) (-1) (-1))))) rfl dL_program_8 ?_
  refine y_goto (tgt := 18) Z dL_program_9 (by decide) ?_
  refine y_iconst (v := 0) Z dL_program_18 (by decide) ?_
  exact y_retI Z hr hlk dL_program_19 rfl rfl
set_option maxHeartbeats 4000000 in
set_option maxRecDepth 100000 in
theorem k_L_program_b0 (l : Launch) (htr : l.stackTraces = false) (D : va_G) {cI cL : ClassId} {tys : List (ClassId × FieldType)} (ht0 : tys[0]? = some (cI, .int)) (ht1 : tys[1]? = some (cL, .long)) (aJ : Nat → Nat) (J : Nat → Nat → Nat → Int32) (aO : Nat) (O : Nat → Int64) (q : Int32)  (h_bad : ¬ (okS q)) (sz : Nat) : kW l yL_program cL_program 4 [(0, 9, 12, 13), (0, 9, 15, 15)] { frames := 8, cells := 1, slots := 6, locals := 150 } D tys [.ref (aJ 0), .int q, .ref aO] (wVM cI aJ J ++ wOut cL aO O) (wVM cI aJ J ++ wOut cL aO O) 1 1 6 sz := by
  refine y_enterW (cc := cL_program) (maxL := 4) (hh := [(0, 9, 12, 13), (0, 9, 15, 15)]) (own := RL) (by decide) rfl (lv0 := [(0, .ref (aJ 0)), (1, .int q), (2, .ref aO)]) rfl (Nat.le_of_ble_eq_true rfl) ?_
  intro p e s m args below meth c A Z X hT hr hlk
  refine y_aload_n Z dL_program_0 2 rfl rfl ?_
  refine y_iconst (v := 0) Z dL_program_1 (by decide) ?_
  refine y_aload_n Z dL_program_2 0 rfl rfl ?_
  refine y_iload_n Z dL_program_3 1 rfl rfl ?_
  refine y_VBw (rest := [.int 0, .ref aO]) Z X (k_X5_program_b0 l htr D ht0 aJ J q h_bad) (y_cwV 1 Z ml_RL_7 im_X5_program se_X5_program in_X5 co_X5_program rfl rfl hd_X5_program ⟨Nat.le_of_ble_eq_true rfl, Nat.le_of_ble_eq_true rfl⟩) List.nil (wOut cL aO O) rfl 5 0 rfl rfl rfl rfl (Nat.le_of_ble_eq_true rfl) dL_program_4 ⟨Nat.le_of_ble_eq_true rfl, Nat.le_of_ble_eq_true rfl⟩ ?_
  refine y_catch Z hT [] ⟨0, 9, 12, 13⟩ [⟨0, 9, 15, 15⟩] rfl (fun z hz => nomatch hz) (by decide) (by decide) cl_RL_13 (List.mem_of_getElem? (i := 19) rfl) (fun qE => ?_)
  refine y_astore_n Z [(3, .ref qE), (0, .ref (aJ 0)), (1, .int q), (2, .ref aO)] dL_program_12 rfl (by decide) rfl ?_
  refine y_iconst (v := 1) Z dL_program_13 (by decide) ?_
  exact y_retI Z hr hlk dL_program_14 rfl rfl
set_option maxHeartbeats 4000000 in
set_option maxRecDepth 100000 in
theorem k_L_program_b1 (l : Launch) (htr : l.stackTraces = false) (D : va_G) {cI cL : ClassId} {tys : List (ClassId × FieldType)} (ht0 : tys[0]? = some (cI, .int)) (ht1 : tys[1]? = some (cL, .long)) (aJ : Nat → Nat) (J : Nat → Nat → Nat → Int32) (aO : Nat) (O : Nat → Int64) (q : Int32) (h_q : okS q) (h_bad : ¬ (okM J 0)) (sz : Nat) : kW l yL_program cL_program 4 [(0, 9, 12, 13), (0, 9, 15, 15)] { frames := 8, cells := 1, slots := 6, locals := 150 } D tys [.ref (aJ 0), .int q, .ref aO] (wVM cI aJ J ++ wOut cL aO O) (wVM cI aJ J ++ wOut cL aO O) 2 1 6 sz := by
  refine y_enterW (cc := cL_program) (maxL := 4) (hh := [(0, 9, 12, 13), (0, 9, 15, 15)]) (own := RL) (by decide) rfl (lv0 := [(0, .ref (aJ 0)), (1, .int q), (2, .ref aO)]) rfl (Nat.le_of_ble_eq_true rfl) ?_
  intro p e s m args below meth c A Z X hT hr hlk
  refine y_aload_n Z dL_program_0 2 rfl rfl ?_
  refine y_iconst (v := 0) Z dL_program_1 (by decide) ?_
  refine y_aload_n Z dL_program_2 0 rfl rfl ?_
  refine y_iload_n Z dL_program_3 1 rfl rfl ?_
  refine y_VBw (rest := [.int 0, .ref aO]) Z X (k_X5_program_b1 l htr D ht0 aJ J q h_q h_bad) (y_cwV 1 Z ml_RL_7 im_X5_program se_X5_program in_X5 co_X5_program rfl rfl hd_X5_program ⟨Nat.le_of_ble_eq_true rfl, Nat.le_of_ble_eq_true rfl⟩) List.nil (wOut cL aO O) rfl 5 0 rfl rfl rfl rfl (Nat.le_of_ble_eq_true rfl) dL_program_4 ⟨Nat.le_of_ble_eq_true rfl, Nat.le_of_ble_eq_true rfl⟩ ?_
  refine y_catch Z hT [⟨0, 9, 12, 13⟩] ⟨0, 9, 15, 15⟩ [] rfl (fun z hz => by
      simp only [List.mem_cons, List.not_mem_nil, or_false] at hz
      rcases hz with rfl
      · exact Or.inr ⟨by decide, "java/lang/IndexOutOfBoundsException", cl_RL_13, Z.2.2.2.2.1⟩) (by decide) (by decide) cl_RL_15 (List.mem_of_getElem? (i := 20) rfl) (fun qE => ?_)
  refine y_astore_n Z [(3, .ref qE), (0, .ref (aJ 0)), (1, .int q), (2, .ref aO)] dL_program_15 rfl (by decide) rfl ?_
  refine y_iconst (v := 2) Z dL_program_16 (by decide) ?_
  exact y_retI Z hr hlk dL_program_17 rfl rfl
set_option maxHeartbeats 4000000 in
set_option maxRecDepth 100000 in
theorem k_L_preview (l : Launch) (htr : l.stackTraces = false) (D : va_G) {cI cL : ClassId} {tys : List (ClassId × FieldType)} (ht0 : tys[0]? = some (cI, .int)) (ht1 : tys[1]? = some (cL, .long)) (aJ : Nat → Nat) (J : Nat → Nat → Nat → Int32) (aO : Nat) (O : Nat → Int64) (q : Int32)  (h_q : okS q) (h_m : okM J 1) (sz : Nat) : kW l yL_preview cL_preview 4 [(0, 9, 12, 13), (0, 9, 15, 15)] { frames := 8, cells := 0, slots := 0, locals := 150 } D tys [.ref (aJ 0), .int q, .ref aO] (wVM cI aJ J ++ wOut cL aO O) (wVM cI aJ (vm_enact J 1 q (-1) (-1) (-1)) ++ wOut cL aO (vp_updL O 0 (Int32.toInt64 (perfR (J 0) 1 q (-1) (-1) (-1))))) 0 0 0 sz := by
  refine y_enterW (cc := cL_preview) (maxL := 4) (hh := [(0, 9, 12, 13), (0, 9, 15, 15)]) (own := RL) (by decide) rfl (lv0 := [(0, .ref (aJ 0)), (1, .int q), (2, .ref aO)]) rfl (Nat.le_of_ble_eq_true rfl) ?_
  intro p e s m args below meth c A Z X hT hr hlk
  refine y_aload_n Z dL_preview_0 2 rfl rfl ?_
  refine y_iconst (v := 0) Z dL_preview_1 (by decide) ?_
  refine y_aload_n Z dL_preview_2 0 rfl rfl ?_
  refine y_iload_n Z dL_preview_3 1 rfl rfl ?_
  refine y_VIw (rest := [.int 0, .ref aO]) Z (k_X5_preview l D ht0 aJ J q h_q h_m) (y_cwV 1 Z ml_RL_17 im_X5_preview se_X5_preview in_X5 co_X5_preview rfl rfl hd_X5_preview ⟨Nat.le_of_ble_eq_true rfl, Nat.le_of_ble_eq_true rfl⟩) List.nil (wOut cL aO O) rfl 5 0 rfl rfl rfl rfl (Nat.le_of_ble_eq_true rfl) dL_preview_4 ⟨Nat.le_of_ble_eq_true rfl, Nat.le_of_ble_eq_true rfl⟩ (wVM cI aJ (vm_enact J 1 q (-1) (-1) (-1)) ++ wOut cL aO O) rfl ?_
  refine y_i2l Z dL_preview_7 ?_
  refine y_last Z 27 1 rfl ht1 (vpd (by decide) (by decide)) 0 (by decide) (wVM cI aJ (vm_enact J 1 q (-1) (-1) (-1)) ++ wOut cL aO (vp_updL O 0 (Int32.toInt64 (perfR (J 0) 1 q (-1) (-1) (-1))))) rfl dL_preview_8 ?_
  refine y_goto (tgt := 18) Z dL_preview_9 (by decide) ?_
  refine y_iconst (v := 0) Z dL_preview_18 (by decide) ?_
  exact y_retI Z hr hlk dL_preview_19 rfl rfl
set_option maxHeartbeats 4000000 in
set_option maxRecDepth 100000 in
theorem k_L_preview_b0 (l : Launch) (htr : l.stackTraces = false) (D : va_G) {cI cL : ClassId} {tys : List (ClassId × FieldType)} (ht0 : tys[0]? = some (cI, .int)) (ht1 : tys[1]? = some (cL, .long)) (aJ : Nat → Nat) (J : Nat → Nat → Nat → Int32) (aO : Nat) (O : Nat → Int64) (q : Int32)  (h_bad : ¬ (okS q)) (sz : Nat) : kW l yL_preview cL_preview 4 [(0, 9, 12, 13), (0, 9, 15, 15)] { frames := 8, cells := 1, slots := 6, locals := 150 } D tys [.ref (aJ 0), .int q, .ref aO] (wVM cI aJ J ++ wOut cL aO O) (wVM cI aJ J ++ wOut cL aO O) 1 1 6 sz := by
  refine y_enterW (cc := cL_preview) (maxL := 4) (hh := [(0, 9, 12, 13), (0, 9, 15, 15)]) (own := RL) (by decide) rfl (lv0 := [(0, .ref (aJ 0)), (1, .int q), (2, .ref aO)]) rfl (Nat.le_of_ble_eq_true rfl) ?_
  intro p e s m args below meth c A Z X hT hr hlk
  refine y_aload_n Z dL_preview_0 2 rfl rfl ?_
  refine y_iconst (v := 0) Z dL_preview_1 (by decide) ?_
  refine y_aload_n Z dL_preview_2 0 rfl rfl ?_
  refine y_iload_n Z dL_preview_3 1 rfl rfl ?_
  refine y_VBw (rest := [.int 0, .ref aO]) Z X (k_X5_preview_b0 l htr D ht0 aJ J q h_bad) (y_cwV 1 Z ml_RL_17 im_X5_preview se_X5_preview in_X5 co_X5_preview rfl rfl hd_X5_preview ⟨Nat.le_of_ble_eq_true rfl, Nat.le_of_ble_eq_true rfl⟩) List.nil (wOut cL aO O) rfl 5 0 rfl rfl rfl rfl (Nat.le_of_ble_eq_true rfl) dL_preview_4 ⟨Nat.le_of_ble_eq_true rfl, Nat.le_of_ble_eq_true rfl⟩ ?_
  refine y_catch Z hT [] ⟨0, 9, 12, 13⟩ [⟨0, 9, 15, 15⟩] rfl (fun z hz => nomatch hz) (by decide) (by decide) cl_RL_13 (List.mem_of_getElem? (i := 19) rfl) (fun qE => ?_)
  refine y_astore_n Z [(3, .ref qE), (0, .ref (aJ 0)), (1, .int q), (2, .ref aO)] dL_preview_12 rfl (by decide) rfl ?_
  refine y_iconst (v := 1) Z dL_preview_13 (by decide) ?_
  exact y_retI Z hr hlk dL_preview_14 rfl rfl
set_option maxHeartbeats 4000000 in
set_option maxRecDepth 100000 in
theorem k_L_preview_b1 (l : Launch) (htr : l.stackTraces = false) (D : va_G) {cI cL : ClassId} {tys : List (ClassId × FieldType)} (ht0 : tys[0]? = some (cI, .int)) (ht1 : tys[1]? = some (cL, .long)) (aJ : Nat → Nat) (J : Nat → Nat → Nat → Int32) (aO : Nat) (O : Nat → Int64) (q : Int32) (h_q : okS q) (h_bad : ¬ (okM J 1)) (sz : Nat) : kW l yL_preview cL_preview 4 [(0, 9, 12, 13), (0, 9, 15, 15)] { frames := 8, cells := 1, slots := 6, locals := 150 } D tys [.ref (aJ 0), .int q, .ref aO] (wVM cI aJ J ++ wOut cL aO O) (wVM cI aJ J ++ wOut cL aO O) 2 1 6 sz := by
  refine y_enterW (cc := cL_preview) (maxL := 4) (hh := [(0, 9, 12, 13), (0, 9, 15, 15)]) (own := RL) (by decide) rfl (lv0 := [(0, .ref (aJ 0)), (1, .int q), (2, .ref aO)]) rfl (Nat.le_of_ble_eq_true rfl) ?_
  intro p e s m args below meth c A Z X hT hr hlk
  refine y_aload_n Z dL_preview_0 2 rfl rfl ?_
  refine y_iconst (v := 0) Z dL_preview_1 (by decide) ?_
  refine y_aload_n Z dL_preview_2 0 rfl rfl ?_
  refine y_iload_n Z dL_preview_3 1 rfl rfl ?_
  refine y_VBw (rest := [.int 0, .ref aO]) Z X (k_X5_preview_b1 l htr D ht0 aJ J q h_q h_bad) (y_cwV 1 Z ml_RL_17 im_X5_preview se_X5_preview in_X5 co_X5_preview rfl rfl hd_X5_preview ⟨Nat.le_of_ble_eq_true rfl, Nat.le_of_ble_eq_true rfl⟩) List.nil (wOut cL aO O) rfl 5 0 rfl rfl rfl rfl (Nat.le_of_ble_eq_true rfl) dL_preview_4 ⟨Nat.le_of_ble_eq_true rfl, Nat.le_of_ble_eq_true rfl⟩ ?_
  refine y_catch Z hT [⟨0, 9, 12, 13⟩] ⟨0, 9, 15, 15⟩ [] rfl (fun z hz => by
      simp only [List.mem_cons, List.not_mem_nil, or_false] at hz
      rcases hz with rfl
      · exact Or.inr ⟨by decide, "java/lang/IndexOutOfBoundsException", cl_RL_13, Z.2.2.2.2.1⟩) (by decide) (by decide) cl_RL_15 (List.mem_of_getElem? (i := 20) rfl) (fun qE => ?_)
  refine y_astore_n Z [(3, .ref qE), (0, .ref (aJ 0)), (1, .int q), (2, .ref aO)] dL_preview_15 rfl (by decide) rfl ?_
  refine y_iconst (v := 2) Z dL_preview_16 (by decide) ?_
  exact y_retI Z hr hlk dL_preview_17 rfl rfl
set_option maxHeartbeats 4000000 in
set_option maxRecDepth 100000 in
theorem k_L_transition (l : Launch) (htr : l.stackTraces = false) (D : va_G) {cI cL : ClassId} {tys : List (ClassId × FieldType)} (ht0 : tys[0]? = some (cI, .int)) (ht1 : tys[1]? = some (cL, .long)) (aJ : Nat → Nat) (J : Nat → Nat → Nat → Int32) (aO : Nat) (O : Nat → Int64) (k : Int32) (ra : Int32)  (h_k : okR k 0 2) (h_ra : okR ra 1 100) (h_m : okM J 2) (sz : Nat) : kW l yL_transition cL_transition 5 [(0, 10, 13, 24), (0, 10, 17, 15)] { frames := 8, cells := 0, slots := 0, locals := 150 } D tys [.ref (aJ 0), .int k, .int ra, .ref aO] (wVM cI aJ J ++ wOut cL aO O) (wVM cI aJ (vm_enact J 2 k ra (-1) (-1)) ++ wOut cL aO (vp_updL O 0 (Int32.toInt64 (perfR (J 0) 2 k ra (-1) (-1))))) 0 0 0 sz := by
  refine y_enterW (cc := cL_transition) (maxL := 5) (hh := [(0, 10, 13, 24), (0, 10, 17, 15)]) (own := RL) (by decide) rfl (lv0 := [(0, .ref (aJ 0)), (1, .int k), (2, .int ra), (3, .ref aO)]) rfl (Nat.le_of_ble_eq_true rfl) ?_
  intro p e s m args below meth c A Z X hT hr hlk
  refine y_aload_n Z dL_transition_0 3 rfl rfl ?_
  refine y_iconst (v := 0) Z dL_transition_1 (by decide) ?_
  refine y_aload_n Z dL_transition_2 0 rfl rfl ?_
  refine y_iload_n Z dL_transition_3 1 rfl rfl ?_
  refine y_iload_n Z dL_transition_4 2 rfl rfl ?_
  refine y_VIw (rest := [.int 0, .ref aO]) Z (k_X5_transition l D ht0 aJ J k ra h_k h_ra h_m) (y_cwV 2 Z ml_RL_20 im_X5_transition se_X5_transition in_X5 co_X5_transition rfl rfl hd_X5_transition ⟨Nat.le_of_ble_eq_true rfl, Nat.le_of_ble_eq_true rfl⟩) List.nil (wOut cL aO O) rfl 5 0 rfl rfl rfl rfl (Nat.le_of_ble_eq_true rfl) dL_transition_5 ⟨Nat.le_of_ble_eq_true rfl, Nat.le_of_ble_eq_true rfl⟩ (wVM cI aJ (vm_enact J 2 k ra (-1) (-1)) ++ wOut cL aO O) rfl ?_
  refine y_i2l Z dL_transition_8 ?_
  refine y_last Z 27 1 rfl ht1 (vpd (by decide) (by decide)) 0 (by decide) (wVM cI aJ (vm_enact J 2 k ra (-1) (-1)) ++ wOut cL aO (vp_updL O 0 (Int32.toInt64 (perfR (J 0) 2 k ra (-1) (-1))))) rfl dL_transition_9 ?_
  refine y_goto (tgt := 21) Z dL_transition_10 (by decide) ?_
  refine y_iconst (v := 0) Z dL_transition_21 (by decide) ?_
  exact y_retI Z hr hlk dL_transition_22 rfl rfl
set_option maxHeartbeats 4000000 in
set_option maxRecDepth 100000 in
theorem k_L_transition_b0 (l : Launch) (htr : l.stackTraces = false) (D : va_G) {cI cL : ClassId} {tys : List (ClassId × FieldType)} (ht0 : tys[0]? = some (cI, .int)) (ht1 : tys[1]? = some (cL, .long)) (aJ : Nat → Nat) (J : Nat → Nat → Nat → Int32) (aO : Nat) (O : Nat → Int64) (k : Int32) (ra : Int32)  (h_bad : ¬ (okR k 0 2)) (sz : Nat) : kW l yL_transition cL_transition 5 [(0, 10, 13, 24), (0, 10, 17, 15)] { frames := 8, cells := 1, slots := 6, locals := 150 } D tys [.ref (aJ 0), .int k, .int ra, .ref aO] (wVM cI aJ J ++ wOut cL aO O) (wVM cI aJ J ++ wOut cL aO O) 1 1 6 sz := by
  refine y_enterW (cc := cL_transition) (maxL := 5) (hh := [(0, 10, 13, 24), (0, 10, 17, 15)]) (own := RL) (by decide) rfl (lv0 := [(0, .ref (aJ 0)), (1, .int k), (2, .int ra), (3, .ref aO)]) rfl (Nat.le_of_ble_eq_true rfl) ?_
  intro p e s m args below meth c A Z X hT hr hlk
  refine y_aload_n Z dL_transition_0 3 rfl rfl ?_
  refine y_iconst (v := 0) Z dL_transition_1 (by decide) ?_
  refine y_aload_n Z dL_transition_2 0 rfl rfl ?_
  refine y_iload_n Z dL_transition_3 1 rfl rfl ?_
  refine y_iload_n Z dL_transition_4 2 rfl rfl ?_
  refine y_VBw (rest := [.int 0, .ref aO]) Z X (k_X5_transition_b0 l htr D ht0 aJ J k ra h_bad) (y_cwV 2 Z ml_RL_20 im_X5_transition se_X5_transition in_X5 co_X5_transition rfl rfl hd_X5_transition ⟨Nat.le_of_ble_eq_true rfl, Nat.le_of_ble_eq_true rfl⟩) List.nil (wOut cL aO O) rfl 5 0 rfl rfl rfl rfl (Nat.le_of_ble_eq_true rfl) dL_transition_5 ⟨Nat.le_of_ble_eq_true rfl, Nat.le_of_ble_eq_true rfl⟩ ?_
  refine y_catch Z hT [] ⟨0, 10, 13, 24⟩ [⟨0, 10, 17, 15⟩] rfl (fun z hz => nomatch hz) (by decide) (by decide) cl_RL_24 (List.mem_of_getElem? (i := 21) rfl) (fun qE => ?_)
  refine y_astore Z [(4, .ref qE), (0, .ref (aJ 0)), (1, .int k), (2, .int ra), (3, .ref aO)] dL_transition_13 (by decide) rfl ?_
  refine y_iconst (v := 1) Z dL_transition_15 (by decide) ?_
  exact y_retI Z hr hlk dL_transition_16 rfl rfl
set_option maxHeartbeats 4000000 in
set_option maxRecDepth 100000 in
theorem k_L_transition_b1 (l : Launch) (htr : l.stackTraces = false) (D : va_G) {cI cL : ClassId} {tys : List (ClassId × FieldType)} (ht0 : tys[0]? = some (cI, .int)) (ht1 : tys[1]? = some (cL, .long)) (aJ : Nat → Nat) (J : Nat → Nat → Nat → Int32) (aO : Nat) (O : Nat → Int64) (k : Int32) (ra : Int32) (h_k : okR k 0 2) (h_bad : ¬ (okR ra 1 100)) (sz : Nat) : kW l yL_transition cL_transition 5 [(0, 10, 13, 24), (0, 10, 17, 15)] { frames := 8, cells := 1, slots := 6, locals := 150 } D tys [.ref (aJ 0), .int k, .int ra, .ref aO] (wVM cI aJ J ++ wOut cL aO O) (wVM cI aJ J ++ wOut cL aO O) 1 1 6 sz := by
  refine y_enterW (cc := cL_transition) (maxL := 5) (hh := [(0, 10, 13, 24), (0, 10, 17, 15)]) (own := RL) (by decide) rfl (lv0 := [(0, .ref (aJ 0)), (1, .int k), (2, .int ra), (3, .ref aO)]) rfl (Nat.le_of_ble_eq_true rfl) ?_
  intro p e s m args below meth c A Z X hT hr hlk
  refine y_aload_n Z dL_transition_0 3 rfl rfl ?_
  refine y_iconst (v := 0) Z dL_transition_1 (by decide) ?_
  refine y_aload_n Z dL_transition_2 0 rfl rfl ?_
  refine y_iload_n Z dL_transition_3 1 rfl rfl ?_
  refine y_iload_n Z dL_transition_4 2 rfl rfl ?_
  refine y_VBw (rest := [.int 0, .ref aO]) Z X (k_X5_transition_b1 l htr D ht0 aJ J k ra h_k h_bad) (y_cwV 2 Z ml_RL_20 im_X5_transition se_X5_transition in_X5 co_X5_transition rfl rfl hd_X5_transition ⟨Nat.le_of_ble_eq_true rfl, Nat.le_of_ble_eq_true rfl⟩) List.nil (wOut cL aO O) rfl 5 0 rfl rfl rfl rfl (Nat.le_of_ble_eq_true rfl) dL_transition_5 ⟨Nat.le_of_ble_eq_true rfl, Nat.le_of_ble_eq_true rfl⟩ ?_
  refine y_catch Z hT [] ⟨0, 10, 13, 24⟩ [⟨0, 10, 17, 15⟩] rfl (fun z hz => nomatch hz) (by decide) (by decide) cl_RL_24 (List.mem_of_getElem? (i := 21) rfl) (fun qE => ?_)
  refine y_astore Z [(4, .ref qE), (0, .ref (aJ 0)), (1, .int k), (2, .int ra), (3, .ref aO)] dL_transition_13 (by decide) rfl ?_
  refine y_iconst (v := 1) Z dL_transition_15 (by decide) ?_
  exact y_retI Z hr hlk dL_transition_16 rfl rfl
set_option maxHeartbeats 4000000 in
set_option maxRecDepth 100000 in
theorem k_L_transition_b2 (l : Launch) (htr : l.stackTraces = false) (D : va_G) {cI cL : ClassId} {tys : List (ClassId × FieldType)} (ht0 : tys[0]? = some (cI, .int)) (ht1 : tys[1]? = some (cL, .long)) (aJ : Nat → Nat) (J : Nat → Nat → Nat → Int32) (aO : Nat) (O : Nat → Int64) (k : Int32) (ra : Int32) (h_k : okR k 0 2) (h_ra : okR ra 1 100) (h_bad : ¬ (okM J 2)) (sz : Nat) : kW l yL_transition cL_transition 5 [(0, 10, 13, 24), (0, 10, 17, 15)] { frames := 8, cells := 1, slots := 6, locals := 150 } D tys [.ref (aJ 0), .int k, .int ra, .ref aO] (wVM cI aJ J ++ wOut cL aO O) (wVM cI aJ J ++ wOut cL aO O) 2 1 6 sz := by
  refine y_enterW (cc := cL_transition) (maxL := 5) (hh := [(0, 10, 13, 24), (0, 10, 17, 15)]) (own := RL) (by decide) rfl (lv0 := [(0, .ref (aJ 0)), (1, .int k), (2, .int ra), (3, .ref aO)]) rfl (Nat.le_of_ble_eq_true rfl) ?_
  intro p e s m args below meth c A Z X hT hr hlk
  refine y_aload_n Z dL_transition_0 3 rfl rfl ?_
  refine y_iconst (v := 0) Z dL_transition_1 (by decide) ?_
  refine y_aload_n Z dL_transition_2 0 rfl rfl ?_
  refine y_iload_n Z dL_transition_3 1 rfl rfl ?_
  refine y_iload_n Z dL_transition_4 2 rfl rfl ?_
  refine y_VBw (rest := [.int 0, .ref aO]) Z X (k_X5_transition_b2 l htr D ht0 aJ J k ra h_k h_ra h_bad) (y_cwV 2 Z ml_RL_20 im_X5_transition se_X5_transition in_X5 co_X5_transition rfl rfl hd_X5_transition ⟨Nat.le_of_ble_eq_true rfl, Nat.le_of_ble_eq_true rfl⟩) List.nil (wOut cL aO O) rfl 5 0 rfl rfl rfl rfl (Nat.le_of_ble_eq_true rfl) dL_transition_5 ⟨Nat.le_of_ble_eq_true rfl, Nat.le_of_ble_eq_true rfl⟩ ?_
  refine y_catch Z hT [⟨0, 10, 13, 24⟩] ⟨0, 10, 17, 15⟩ [] rfl (fun z hz => by
      simp only [List.mem_cons, List.not_mem_nil, or_false] at hz
      rcases hz with rfl
      · exact Or.inr ⟨by decide, "java/lang/IllegalArgumentException", cl_RL_24, Z.2.2.2.2.2.1⟩) (by decide) (by decide) cl_RL_15 (List.mem_of_getElem? (i := 20) rfl) (fun qE => ?_)
  refine y_astore Z [(4, .ref qE), (0, .ref (aJ 0)), (1, .int k), (2, .int ra), (3, .ref aO)] dL_transition_17 (by decide) rfl ?_
  refine y_iconst (v := 2) Z dL_transition_19 (by decide) ?_
  exact y_retI Z hr hlk dL_transition_20 rfl rfl
set_option maxHeartbeats 4000000 in
set_option maxRecDepth 100000 in
theorem k_L_next (l : Launch) (htr : l.stackTraces = false) (D : va_G) {cI cL : ClassId} {tys : List (ClassId × FieldType)} (ht0 : tys[0]? = some (cI, .int)) (ht1 : tys[1]? = some (cL, .long)) (aJ : Nat → Nat) (J : Nat → Nat → Nat → Int32) (aO : Nat) (O : Nat → Int64) (el : Int32)  (h_el : okR el 0 15) (h_m : okM J 3) (sz : Nat) : kW l yL_next cL_next 4 [(0, 9, 12, 24), (0, 9, 15, 15)] { frames := 8, cells := 0, slots := 0, locals := 150 } D tys [.ref (aJ 0), .int el, .ref aO] (wVM cI aJ J ++ wOut cL aO O) (wVM cI aJ (vm_enact J 3 el (-1) (-1) (-1)) ++ wOut cL aO (vp_updL O 0 (Int32.toInt64 (perfR (J 0) 3 el (-1) (-1) (-1))))) 0 0 0 sz := by
  refine y_enterW (cc := cL_next) (maxL := 4) (hh := [(0, 9, 12, 24), (0, 9, 15, 15)]) (own := RL) (by decide) rfl (lv0 := [(0, .ref (aJ 0)), (1, .int el), (2, .ref aO)]) rfl (Nat.le_of_ble_eq_true rfl) ?_
  intro p e s m args below meth c A Z X hT hr hlk
  refine y_aload_n Z dL_next_0 2 rfl rfl ?_
  refine y_iconst (v := 0) Z dL_next_1 (by decide) ?_
  refine y_aload_n Z dL_next_2 0 rfl rfl ?_
  refine y_iload_n Z dL_next_3 1 rfl rfl ?_
  refine y_VIw (rest := [.int 0, .ref aO]) Z (k_X5_next l D ht0 aJ J el h_el h_m) (y_cwV 1 Z ml_RL_26 im_X5_next se_X5_next in_X5 co_X5_next rfl rfl hd_X5_next ⟨Nat.le_of_ble_eq_true rfl, Nat.le_of_ble_eq_true rfl⟩) List.nil (wOut cL aO O) rfl 5 0 rfl rfl rfl rfl (Nat.le_of_ble_eq_true rfl) dL_next_4 ⟨Nat.le_of_ble_eq_true rfl, Nat.le_of_ble_eq_true rfl⟩ (wVM cI aJ (vm_enact J 3 el (-1) (-1) (-1)) ++ wOut cL aO O) rfl ?_
  refine y_i2l Z dL_next_7 ?_
  refine y_last Z 27 1 rfl ht1 (vpd (by decide) (by decide)) 0 (by decide) (wVM cI aJ (vm_enact J 3 el (-1) (-1) (-1)) ++ wOut cL aO (vp_updL O 0 (Int32.toInt64 (perfR (J 0) 3 el (-1) (-1) (-1))))) rfl dL_next_8 ?_
  refine y_goto (tgt := 18) Z dL_next_9 (by decide) ?_
  refine y_iconst (v := 0) Z dL_next_18 (by decide) ?_
  exact y_retI Z hr hlk dL_next_19 rfl rfl
set_option maxHeartbeats 4000000 in
set_option maxRecDepth 100000 in
theorem k_L_next_b0 (l : Launch) (htr : l.stackTraces = false) (D : va_G) {cI cL : ClassId} {tys : List (ClassId × FieldType)} (ht0 : tys[0]? = some (cI, .int)) (ht1 : tys[1]? = some (cL, .long)) (aJ : Nat → Nat) (J : Nat → Nat → Nat → Int32) (aO : Nat) (O : Nat → Int64) (el : Int32)  (h_bad : ¬ (okR el 0 15)) (sz : Nat) : kW l yL_next cL_next 4 [(0, 9, 12, 24), (0, 9, 15, 15)] { frames := 8, cells := 1, slots := 6, locals := 150 } D tys [.ref (aJ 0), .int el, .ref aO] (wVM cI aJ J ++ wOut cL aO O) (wVM cI aJ J ++ wOut cL aO O) 1 1 6 sz := by
  refine y_enterW (cc := cL_next) (maxL := 4) (hh := [(0, 9, 12, 24), (0, 9, 15, 15)]) (own := RL) (by decide) rfl (lv0 := [(0, .ref (aJ 0)), (1, .int el), (2, .ref aO)]) rfl (Nat.le_of_ble_eq_true rfl) ?_
  intro p e s m args below meth c A Z X hT hr hlk
  refine y_aload_n Z dL_next_0 2 rfl rfl ?_
  refine y_iconst (v := 0) Z dL_next_1 (by decide) ?_
  refine y_aload_n Z dL_next_2 0 rfl rfl ?_
  refine y_iload_n Z dL_next_3 1 rfl rfl ?_
  refine y_VBw (rest := [.int 0, .ref aO]) Z X (k_X5_next_b0 l htr D ht0 aJ J el h_bad) (y_cwV 1 Z ml_RL_26 im_X5_next se_X5_next in_X5 co_X5_next rfl rfl hd_X5_next ⟨Nat.le_of_ble_eq_true rfl, Nat.le_of_ble_eq_true rfl⟩) List.nil (wOut cL aO O) rfl 5 0 rfl rfl rfl rfl (Nat.le_of_ble_eq_true rfl) dL_next_4 ⟨Nat.le_of_ble_eq_true rfl, Nat.le_of_ble_eq_true rfl⟩ ?_
  refine y_catch Z hT [] ⟨0, 9, 12, 24⟩ [⟨0, 9, 15, 15⟩] rfl (fun z hz => nomatch hz) (by decide) (by decide) cl_RL_24 (List.mem_of_getElem? (i := 21) rfl) (fun qE => ?_)
  refine y_astore_n Z [(3, .ref qE), (0, .ref (aJ 0)), (1, .int el), (2, .ref aO)] dL_next_12 rfl (by decide) rfl ?_
  refine y_iconst (v := 1) Z dL_next_13 (by decide) ?_
  exact y_retI Z hr hlk dL_next_14 rfl rfl
set_option maxHeartbeats 4000000 in
set_option maxRecDepth 100000 in
theorem k_L_next_b1 (l : Launch) (htr : l.stackTraces = false) (D : va_G) {cI cL : ClassId} {tys : List (ClassId × FieldType)} (ht0 : tys[0]? = some (cI, .int)) (ht1 : tys[1]? = some (cL, .long)) (aJ : Nat → Nat) (J : Nat → Nat → Nat → Int32) (aO : Nat) (O : Nat → Int64) (el : Int32) (h_el : okR el 0 15) (h_bad : ¬ (okM J 3)) (sz : Nat) : kW l yL_next cL_next 4 [(0, 9, 12, 24), (0, 9, 15, 15)] { frames := 8, cells := 1, slots := 6, locals := 150 } D tys [.ref (aJ 0), .int el, .ref aO] (wVM cI aJ J ++ wOut cL aO O) (wVM cI aJ J ++ wOut cL aO O) 2 1 6 sz := by
  refine y_enterW (cc := cL_next) (maxL := 4) (hh := [(0, 9, 12, 24), (0, 9, 15, 15)]) (own := RL) (by decide) rfl (lv0 := [(0, .ref (aJ 0)), (1, .int el), (2, .ref aO)]) rfl (Nat.le_of_ble_eq_true rfl) ?_
  intro p e s m args below meth c A Z X hT hr hlk
  refine y_aload_n Z dL_next_0 2 rfl rfl ?_
  refine y_iconst (v := 0) Z dL_next_1 (by decide) ?_
  refine y_aload_n Z dL_next_2 0 rfl rfl ?_
  refine y_iload_n Z dL_next_3 1 rfl rfl ?_
  refine y_VBw (rest := [.int 0, .ref aO]) Z X (k_X5_next_b1 l htr D ht0 aJ J el h_el h_bad) (y_cwV 1 Z ml_RL_26 im_X5_next se_X5_next in_X5 co_X5_next rfl rfl hd_X5_next ⟨Nat.le_of_ble_eq_true rfl, Nat.le_of_ble_eq_true rfl⟩) List.nil (wOut cL aO O) rfl 5 0 rfl rfl rfl rfl (Nat.le_of_ble_eq_true rfl) dL_next_4 ⟨Nat.le_of_ble_eq_true rfl, Nat.le_of_ble_eq_true rfl⟩ ?_
  refine y_catch Z hT [⟨0, 9, 12, 24⟩] ⟨0, 9, 15, 15⟩ [] rfl (fun z hz => by
      simp only [List.mem_cons, List.not_mem_nil, or_false] at hz
      rcases hz with rfl
      · exact Or.inr ⟨by decide, "java/lang/IllegalArgumentException", cl_RL_24, Z.2.2.2.2.2.1⟩) (by decide) (by decide) cl_RL_15 (List.mem_of_getElem? (i := 20) rfl) (fun qE => ?_)
  refine y_astore_n Z [(3, .ref qE), (0, .ref (aJ 0)), (1, .int el), (2, .ref aO)] dL_next_15 rfl (by decide) rfl ?_
  refine y_iconst (v := 2) Z dL_next_16 (by decide) ?_
  exact y_retI Z hr hlk dL_next_17 rfl rfl
set_option maxHeartbeats 4000000 in
set_option maxRecDepth 100000 in
theorem k_L_key (l : Launch) (htr : l.stackTraces = false) (D : va_G) {cI cL : ClassId} {tys : List (ClassId × FieldType)} (ht0 : tys[0]? = some (cI, .int)) (ht1 : tys[1]? = some (cL, .long)) (aJ : Nat → Nat) (J : Nat → Nat → Nat → Int32) (aO : Nat) (O : Nat → Int64) (k : Int32) (f : Int32) (o : Int32) (ar : Int32)  (h_k : okK k) (h_f : okS f) (h_o : okR o 0 100) (h_ar : okR ar 1 100) (h_m : okM J 4) (sz : Nat) : kW l yL_key cL_key 7 [(0, 14, 17, 13), (0, 14, 21, 24), (0, 14, 25, 15)] { frames := 8, cells := 0, slots := 0, locals := 150 } D tys [.ref (aJ 0), .int k, .int f, .int o, .int ar, .ref aO] (wVM cI aJ J ++ wOut cL aO O) (wVM cI aJ (vm_enact J 4 k f o ar) ++ wOut cL aO (vp_updL O 0 (Int32.toInt64 (perfR (J 0) 4 k f o ar)))) 0 0 0 sz := by
  refine y_enterW (cc := cL_key) (maxL := 7) (hh := [(0, 14, 17, 13), (0, 14, 21, 24), (0, 14, 25, 15)]) (own := RL) (by decide) rfl (lv0 := [(0, .ref (aJ 0)), (1, .int k), (2, .int f), (3, .int o), (4, .int ar), (5, .ref aO)]) rfl (Nat.le_of_ble_eq_true rfl) ?_
  intro p e s m args below meth c A Z X hT hr hlk
  refine y_aload Z dL_key_0 5 rfl ?_
  refine y_iconst (v := 0) Z dL_key_2 (by decide) ?_
  refine y_aload_n Z dL_key_3 0 rfl rfl ?_
  refine y_iload_n Z dL_key_4 1 rfl rfl ?_
  refine y_iload_n Z dL_key_5 2 rfl rfl ?_
  refine y_iload_n Z dL_key_6 3 rfl rfl ?_
  refine y_iload Z dL_key_7 4 rfl ?_
  refine y_VIw (rest := [.int 0, .ref aO]) Z (k_X5_key l D ht0 aJ J k f o ar h_k h_f h_o h_ar h_m) (y_cwV 4 Z ml_RL_29 im_X5_key se_X5_key in_X5 co_X5_key rfl rfl hd_X5_key ⟨Nat.le_of_ble_eq_true rfl, Nat.le_of_ble_eq_true rfl⟩) List.nil (wOut cL aO O) rfl 5 0 rfl rfl rfl rfl (Nat.le_of_ble_eq_true rfl) dL_key_9 ⟨Nat.le_of_ble_eq_true rfl, Nat.le_of_ble_eq_true rfl⟩ (wVM cI aJ (vm_enact J 4 k f o ar) ++ wOut cL aO O) rfl ?_
  refine y_i2l Z dL_key_12 ?_
  refine y_last Z 27 1 rfl ht1 (vpd (by decide) (by decide)) 0 (by decide) (wVM cI aJ (vm_enact J 4 k f o ar) ++ wOut cL aO (vp_updL O 0 (Int32.toInt64 (perfR (J 0) 4 k f o ar)))) rfl dL_key_13 ?_
  refine y_goto (tgt := 29) Z dL_key_14 (by decide) ?_
  refine y_iconst (v := 0) Z dL_key_29 (by decide) ?_
  exact y_retI Z hr hlk dL_key_30 rfl rfl
set_option maxHeartbeats 4000000 in
set_option maxRecDepth 100000 in
theorem k_L_key_b0 (l : Launch) (htr : l.stackTraces = false) (D : va_G) {cI cL : ClassId} {tys : List (ClassId × FieldType)} (ht0 : tys[0]? = some (cI, .int)) (ht1 : tys[1]? = some (cL, .long)) (aJ : Nat → Nat) (J : Nat → Nat → Nat → Int32) (aO : Nat) (O : Nat → Int64) (k : Int32) (f : Int32) (o : Int32) (ar : Int32)  (h_bad : ¬ (okK k)) (sz : Nat) : kW l yL_key cL_key 7 [(0, 14, 17, 13), (0, 14, 21, 24), (0, 14, 25, 15)] { frames := 8, cells := 1, slots := 6, locals := 150 } D tys [.ref (aJ 0), .int k, .int f, .int o, .int ar, .ref aO] (wVM cI aJ J ++ wOut cL aO O) (wVM cI aJ J ++ wOut cL aO O) 1 1 6 sz := by
  refine y_enterW (cc := cL_key) (maxL := 7) (hh := [(0, 14, 17, 13), (0, 14, 21, 24), (0, 14, 25, 15)]) (own := RL) (by decide) rfl (lv0 := [(0, .ref (aJ 0)), (1, .int k), (2, .int f), (3, .int o), (4, .int ar), (5, .ref aO)]) rfl (Nat.le_of_ble_eq_true rfl) ?_
  intro p e s m args below meth c A Z X hT hr hlk
  refine y_aload Z dL_key_0 5 rfl ?_
  refine y_iconst (v := 0) Z dL_key_2 (by decide) ?_
  refine y_aload_n Z dL_key_3 0 rfl rfl ?_
  refine y_iload_n Z dL_key_4 1 rfl rfl ?_
  refine y_iload_n Z dL_key_5 2 rfl rfl ?_
  refine y_iload_n Z dL_key_6 3 rfl rfl ?_
  refine y_iload Z dL_key_7 4 rfl ?_
  refine y_VBw (rest := [.int 0, .ref aO]) Z X (k_X5_key_b0 l htr D ht0 aJ J k f o ar h_bad) (y_cwV 4 Z ml_RL_29 im_X5_key se_X5_key in_X5 co_X5_key rfl rfl hd_X5_key ⟨Nat.le_of_ble_eq_true rfl, Nat.le_of_ble_eq_true rfl⟩) List.nil (wOut cL aO O) rfl 5 0 rfl rfl rfl rfl (Nat.le_of_ble_eq_true rfl) dL_key_9 ⟨Nat.le_of_ble_eq_true rfl, Nat.le_of_ble_eq_true rfl⟩ ?_
  refine y_catch Z hT [] ⟨0, 14, 17, 13⟩ [⟨0, 14, 21, 24⟩, ⟨0, 14, 25, 15⟩] rfl (fun z hz => nomatch hz) (by decide) (by decide) cl_RL_13 (List.mem_of_getElem? (i := 19) rfl) (fun qE => ?_)
  refine y_astore Z [(6, .ref qE), (0, .ref (aJ 0)), (1, .int k), (2, .int f), (3, .int o), (4, .int ar), (5, .ref aO)] dL_key_17 (by decide) rfl ?_
  refine y_iconst (v := 1) Z dL_key_19 (by decide) ?_
  exact y_retI Z hr hlk dL_key_20 rfl rfl
set_option maxHeartbeats 4000000 in
set_option maxRecDepth 100000 in
theorem k_L_key_b1 (l : Launch) (htr : l.stackTraces = false) (D : va_G) {cI cL : ClassId} {tys : List (ClassId × FieldType)} (ht0 : tys[0]? = some (cI, .int)) (ht1 : tys[1]? = some (cL, .long)) (aJ : Nat → Nat) (J : Nat → Nat → Nat → Int32) (aO : Nat) (O : Nat → Int64) (k : Int32) (f : Int32) (o : Int32) (ar : Int32) (h_k : okK k) (h_bad : ¬ (okS f)) (sz : Nat) : kW l yL_key cL_key 7 [(0, 14, 17, 13), (0, 14, 21, 24), (0, 14, 25, 15)] { frames := 8, cells := 1, slots := 6, locals := 150 } D tys [.ref (aJ 0), .int k, .int f, .int o, .int ar, .ref aO] (wVM cI aJ J ++ wOut cL aO O) (wVM cI aJ J ++ wOut cL aO O) 1 1 6 sz := by
  refine y_enterW (cc := cL_key) (maxL := 7) (hh := [(0, 14, 17, 13), (0, 14, 21, 24), (0, 14, 25, 15)]) (own := RL) (by decide) rfl (lv0 := [(0, .ref (aJ 0)), (1, .int k), (2, .int f), (3, .int o), (4, .int ar), (5, .ref aO)]) rfl (Nat.le_of_ble_eq_true rfl) ?_
  intro p e s m args below meth c A Z X hT hr hlk
  refine y_aload Z dL_key_0 5 rfl ?_
  refine y_iconst (v := 0) Z dL_key_2 (by decide) ?_
  refine y_aload_n Z dL_key_3 0 rfl rfl ?_
  refine y_iload_n Z dL_key_4 1 rfl rfl ?_
  refine y_iload_n Z dL_key_5 2 rfl rfl ?_
  refine y_iload_n Z dL_key_6 3 rfl rfl ?_
  refine y_iload Z dL_key_7 4 rfl ?_
  refine y_VBw (rest := [.int 0, .ref aO]) Z X (k_X5_key_b1 l htr D ht0 aJ J k f o ar h_k h_bad) (y_cwV 4 Z ml_RL_29 im_X5_key se_X5_key in_X5 co_X5_key rfl rfl hd_X5_key ⟨Nat.le_of_ble_eq_true rfl, Nat.le_of_ble_eq_true rfl⟩) List.nil (wOut cL aO O) rfl 5 0 rfl rfl rfl rfl (Nat.le_of_ble_eq_true rfl) dL_key_9 ⟨Nat.le_of_ble_eq_true rfl, Nat.le_of_ble_eq_true rfl⟩ ?_
  refine y_catch Z hT [] ⟨0, 14, 17, 13⟩ [⟨0, 14, 21, 24⟩, ⟨0, 14, 25, 15⟩] rfl (fun z hz => nomatch hz) (by decide) (by decide) cl_RL_13 (List.mem_of_getElem? (i := 19) rfl) (fun qE => ?_)
  refine y_astore Z [(6, .ref qE), (0, .ref (aJ 0)), (1, .int k), (2, .int f), (3, .int o), (4, .int ar), (5, .ref aO)] dL_key_17 (by decide) rfl ?_
  refine y_iconst (v := 1) Z dL_key_19 (by decide) ?_
  exact y_retI Z hr hlk dL_key_20 rfl rfl
set_option maxHeartbeats 4000000 in
set_option maxRecDepth 100000 in
theorem k_L_key_b2 (l : Launch) (htr : l.stackTraces = false) (D : va_G) {cI cL : ClassId} {tys : List (ClassId × FieldType)} (ht0 : tys[0]? = some (cI, .int)) (ht1 : tys[1]? = some (cL, .long)) (aJ : Nat → Nat) (J : Nat → Nat → Nat → Int32) (aO : Nat) (O : Nat → Int64) (k : Int32) (f : Int32) (o : Int32) (ar : Int32) (h_k : okK k) (h_f : okS f) (h_bad : ¬ (okR o 0 100)) (sz : Nat) : kW l yL_key cL_key 7 [(0, 14, 17, 13), (0, 14, 21, 24), (0, 14, 25, 15)] { frames := 8, cells := 1, slots := 6, locals := 150 } D tys [.ref (aJ 0), .int k, .int f, .int o, .int ar, .ref aO] (wVM cI aJ J ++ wOut cL aO O) (wVM cI aJ J ++ wOut cL aO O) 2 1 6 sz := by
  refine y_enterW (cc := cL_key) (maxL := 7) (hh := [(0, 14, 17, 13), (0, 14, 21, 24), (0, 14, 25, 15)]) (own := RL) (by decide) rfl (lv0 := [(0, .ref (aJ 0)), (1, .int k), (2, .int f), (3, .int o), (4, .int ar), (5, .ref aO)]) rfl (Nat.le_of_ble_eq_true rfl) ?_
  intro p e s m args below meth c A Z X hT hr hlk
  refine y_aload Z dL_key_0 5 rfl ?_
  refine y_iconst (v := 0) Z dL_key_2 (by decide) ?_
  refine y_aload_n Z dL_key_3 0 rfl rfl ?_
  refine y_iload_n Z dL_key_4 1 rfl rfl ?_
  refine y_iload_n Z dL_key_5 2 rfl rfl ?_
  refine y_iload_n Z dL_key_6 3 rfl rfl ?_
  refine y_iload Z dL_key_7 4 rfl ?_
  refine y_VBw (rest := [.int 0, .ref aO]) Z X (k_X5_key_b2 l htr D ht0 aJ J k f o ar h_k h_f h_bad) (y_cwV 4 Z ml_RL_29 im_X5_key se_X5_key in_X5 co_X5_key rfl rfl hd_X5_key ⟨Nat.le_of_ble_eq_true rfl, Nat.le_of_ble_eq_true rfl⟩) List.nil (wOut cL aO O) rfl 5 0 rfl rfl rfl rfl (Nat.le_of_ble_eq_true rfl) dL_key_9 ⟨Nat.le_of_ble_eq_true rfl, Nat.le_of_ble_eq_true rfl⟩ ?_
  refine y_catch Z hT [⟨0, 14, 17, 13⟩] ⟨0, 14, 21, 24⟩ [⟨0, 14, 25, 15⟩] rfl (fun z hz => by
      simp only [List.mem_cons, List.not_mem_nil, or_false] at hz
      rcases hz with rfl
      · exact Or.inr ⟨by decide, "java/lang/IndexOutOfBoundsException", cl_RL_13, Z.2.2.2.2.2.2⟩) (by decide) (by decide) cl_RL_24 (List.mem_of_getElem? (i := 21) rfl) (fun qE => ?_)
  refine y_astore Z [(6, .ref qE), (0, .ref (aJ 0)), (1, .int k), (2, .int f), (3, .int o), (4, .int ar), (5, .ref aO)] dL_key_21 (by decide) rfl ?_
  refine y_iconst (v := 2) Z dL_key_23 (by decide) ?_
  exact y_retI Z hr hlk dL_key_24 rfl rfl
set_option maxHeartbeats 4000000 in
set_option maxRecDepth 100000 in
theorem k_L_key_b3 (l : Launch) (htr : l.stackTraces = false) (D : va_G) {cI cL : ClassId} {tys : List (ClassId × FieldType)} (ht0 : tys[0]? = some (cI, .int)) (ht1 : tys[1]? = some (cL, .long)) (aJ : Nat → Nat) (J : Nat → Nat → Nat → Int32) (aO : Nat) (O : Nat → Int64) (k : Int32) (f : Int32) (o : Int32) (ar : Int32) (h_k : okK k) (h_f : okS f) (h_o : okR o 0 100) (h_bad : ¬ (okR ar 1 100)) (sz : Nat) : kW l yL_key cL_key 7 [(0, 14, 17, 13), (0, 14, 21, 24), (0, 14, 25, 15)] { frames := 8, cells := 1, slots := 6, locals := 150 } D tys [.ref (aJ 0), .int k, .int f, .int o, .int ar, .ref aO] (wVM cI aJ J ++ wOut cL aO O) (wVM cI aJ J ++ wOut cL aO O) 2 1 6 sz := by
  refine y_enterW (cc := cL_key) (maxL := 7) (hh := [(0, 14, 17, 13), (0, 14, 21, 24), (0, 14, 25, 15)]) (own := RL) (by decide) rfl (lv0 := [(0, .ref (aJ 0)), (1, .int k), (2, .int f), (3, .int o), (4, .int ar), (5, .ref aO)]) rfl (Nat.le_of_ble_eq_true rfl) ?_
  intro p e s m args below meth c A Z X hT hr hlk
  refine y_aload Z dL_key_0 5 rfl ?_
  refine y_iconst (v := 0) Z dL_key_2 (by decide) ?_
  refine y_aload_n Z dL_key_3 0 rfl rfl ?_
  refine y_iload_n Z dL_key_4 1 rfl rfl ?_
  refine y_iload_n Z dL_key_5 2 rfl rfl ?_
  refine y_iload_n Z dL_key_6 3 rfl rfl ?_
  refine y_iload Z dL_key_7 4 rfl ?_
  refine y_VBw (rest := [.int 0, .ref aO]) Z X (k_X5_key_b3 l htr D ht0 aJ J k f o ar h_k h_f h_o h_bad) (y_cwV 4 Z ml_RL_29 im_X5_key se_X5_key in_X5 co_X5_key rfl rfl hd_X5_key ⟨Nat.le_of_ble_eq_true rfl, Nat.le_of_ble_eq_true rfl⟩) List.nil (wOut cL aO O) rfl 5 0 rfl rfl rfl rfl (Nat.le_of_ble_eq_true rfl) dL_key_9 ⟨Nat.le_of_ble_eq_true rfl, Nat.le_of_ble_eq_true rfl⟩ ?_
  refine y_catch Z hT [⟨0, 14, 17, 13⟩] ⟨0, 14, 21, 24⟩ [⟨0, 14, 25, 15⟩] rfl (fun z hz => by
      simp only [List.mem_cons, List.not_mem_nil, or_false] at hz
      rcases hz with rfl
      · exact Or.inr ⟨by decide, "java/lang/IndexOutOfBoundsException", cl_RL_13, Z.2.2.2.2.2.2⟩) (by decide) (by decide) cl_RL_24 (List.mem_of_getElem? (i := 21) rfl) (fun qE => ?_)
  refine y_astore Z [(6, .ref qE), (0, .ref (aJ 0)), (1, .int k), (2, .int f), (3, .int o), (4, .int ar), (5, .ref aO)] dL_key_21 (by decide) rfl ?_
  refine y_iconst (v := 2) Z dL_key_23 (by decide) ?_
  exact y_retI Z hr hlk dL_key_24 rfl rfl
set_option maxHeartbeats 4000000 in
set_option maxRecDepth 100000 in
theorem k_L_key_b4 (l : Launch) (htr : l.stackTraces = false) (D : va_G) {cI cL : ClassId} {tys : List (ClassId × FieldType)} (ht0 : tys[0]? = some (cI, .int)) (ht1 : tys[1]? = some (cL, .long)) (aJ : Nat → Nat) (J : Nat → Nat → Nat → Int32) (aO : Nat) (O : Nat → Int64) (k : Int32) (f : Int32) (o : Int32) (ar : Int32) (h_k : okK k) (h_f : okS f) (h_o : okR o 0 100) (h_ar : okR ar 1 100) (h_bad : ¬ (okM J 4)) (sz : Nat) : kW l yL_key cL_key 7 [(0, 14, 17, 13), (0, 14, 21, 24), (0, 14, 25, 15)] { frames := 8, cells := 1, slots := 6, locals := 150 } D tys [.ref (aJ 0), .int k, .int f, .int o, .int ar, .ref aO] (wVM cI aJ J ++ wOut cL aO O) (wVM cI aJ J ++ wOut cL aO O) 3 1 6 sz := by
  refine y_enterW (cc := cL_key) (maxL := 7) (hh := [(0, 14, 17, 13), (0, 14, 21, 24), (0, 14, 25, 15)]) (own := RL) (by decide) rfl (lv0 := [(0, .ref (aJ 0)), (1, .int k), (2, .int f), (3, .int o), (4, .int ar), (5, .ref aO)]) rfl (Nat.le_of_ble_eq_true rfl) ?_
  intro p e s m args below meth c A Z X hT hr hlk
  refine y_aload Z dL_key_0 5 rfl ?_
  refine y_iconst (v := 0) Z dL_key_2 (by decide) ?_
  refine y_aload_n Z dL_key_3 0 rfl rfl ?_
  refine y_iload_n Z dL_key_4 1 rfl rfl ?_
  refine y_iload_n Z dL_key_5 2 rfl rfl ?_
  refine y_iload_n Z dL_key_6 3 rfl rfl ?_
  refine y_iload Z dL_key_7 4 rfl ?_
  refine y_VBw (rest := [.int 0, .ref aO]) Z X (k_X5_key_b4 l htr D ht0 aJ J k f o ar h_k h_f h_o h_ar h_bad) (y_cwV 4 Z ml_RL_29 im_X5_key se_X5_key in_X5 co_X5_key rfl rfl hd_X5_key ⟨Nat.le_of_ble_eq_true rfl, Nat.le_of_ble_eq_true rfl⟩) List.nil (wOut cL aO O) rfl 5 0 rfl rfl rfl rfl (Nat.le_of_ble_eq_true rfl) dL_key_9 ⟨Nat.le_of_ble_eq_true rfl, Nat.le_of_ble_eq_true rfl⟩ ?_
  refine y_catch Z hT [⟨0, 14, 17, 13⟩, ⟨0, 14, 21, 24⟩] ⟨0, 14, 25, 15⟩ [] rfl (fun z hz => by
      simp only [List.mem_cons, List.not_mem_nil, or_false] at hz
      rcases hz with rfl | rfl
      · exact Or.inr ⟨by decide, "java/lang/IndexOutOfBoundsException", cl_RL_13, Z.2.2.2.2.1⟩
      · exact Or.inr ⟨by decide, "java/lang/IllegalArgumentException", cl_RL_24, Z.2.2.2.2.2.1⟩) (by decide) (by decide) cl_RL_15 (List.mem_of_getElem? (i := 20) rfl) (fun qE => ?_)
  refine y_astore Z [(6, .ref qE), (0, .ref (aJ 0)), (1, .int k), (2, .int f), (3, .int o), (4, .int ar), (5, .ref aO)] dL_key_25 (by decide) rfl ?_
  refine y_iconst (v := 3) Z dL_key_27 (by decide) ?_
  exact y_retI Z hr hlk dL_key_28 rfl rfl
set_option maxHeartbeats 4000000 in
set_option maxRecDepth 100000 in
theorem k_L_toggle (l : Launch) (htr : l.stackTraces = false) (D : va_G) {cI cL : ClassId} {tys : List (ClassId × FieldType)} (ht0 : tys[0]? = some (cI, .int)) (ht1 : tys[1]? = some (cL, .long)) (aJ : Nat → Nat) (J : Nat → Nat → Nat → Int32) (aO : Nat) (O : Nat → Int64) (k : Int32)  (h_k : okK k) (h_m : okM J 5) (sz : Nat) : kW l yL_toggle cL_toggle 4 [(0, 9, 12, 13), (0, 9, 15, 15)] { frames := 8, cells := 0, slots := 0, locals := 150 } D tys [.ref (aJ 0), .int k, .ref aO] (wVM cI aJ J ++ wOut cL aO O) (wVM cI aJ (vm_enact J 5 k (-1) (-1) (-1)) ++ wOut cL aO (vp_updL O 0 (Int32.toInt64 (perfR (J 0) 5 k (-1) (-1) (-1))))) 0 0 0 sz := by
  refine y_enterW (cc := cL_toggle) (maxL := 4) (hh := [(0, 9, 12, 13), (0, 9, 15, 15)]) (own := RL) (by decide) rfl (lv0 := [(0, .ref (aJ 0)), (1, .int k), (2, .ref aO)]) rfl (Nat.le_of_ble_eq_true rfl) ?_
  intro p e s m args below meth c A Z X hT hr hlk
  refine y_aload_n Z dL_toggle_0 2 rfl rfl ?_
  refine y_iconst (v := 0) Z dL_toggle_1 (by decide) ?_
  refine y_aload_n Z dL_toggle_2 0 rfl rfl ?_
  refine y_iload_n Z dL_toggle_3 1 rfl rfl ?_
  refine y_VIw (rest := [.int 0, .ref aO]) Z (k_X5_toggle l D ht0 aJ J k h_k h_m) (y_cwV 1 Z ml_RL_33 im_X5_toggle se_X5_toggle in_X5 co_X5_toggle rfl rfl hd_X5_toggle ⟨Nat.le_of_ble_eq_true rfl, Nat.le_of_ble_eq_true rfl⟩) List.nil (wOut cL aO O) rfl 5 0 rfl rfl rfl rfl (Nat.le_of_ble_eq_true rfl) dL_toggle_4 ⟨Nat.le_of_ble_eq_true rfl, Nat.le_of_ble_eq_true rfl⟩ (wVM cI aJ (vm_enact J 5 k (-1) (-1) (-1)) ++ wOut cL aO O) rfl ?_
  refine y_i2l Z dL_toggle_7 ?_
  refine y_last Z 27 1 rfl ht1 (vpd (by decide) (by decide)) 0 (by decide) (wVM cI aJ (vm_enact J 5 k (-1) (-1) (-1)) ++ wOut cL aO (vp_updL O 0 (Int32.toInt64 (perfR (J 0) 5 k (-1) (-1) (-1))))) rfl dL_toggle_8 ?_
  refine y_goto (tgt := 18) Z dL_toggle_9 (by decide) ?_
  refine y_iconst (v := 0) Z dL_toggle_18 (by decide) ?_
  exact y_retI Z hr hlk dL_toggle_19 rfl rfl
set_option maxHeartbeats 4000000 in
set_option maxRecDepth 100000 in
theorem k_L_toggle_b0 (l : Launch) (htr : l.stackTraces = false) (D : va_G) {cI cL : ClassId} {tys : List (ClassId × FieldType)} (ht0 : tys[0]? = some (cI, .int)) (ht1 : tys[1]? = some (cL, .long)) (aJ : Nat → Nat) (J : Nat → Nat → Nat → Int32) (aO : Nat) (O : Nat → Int64) (k : Int32)  (h_bad : ¬ (okK k)) (sz : Nat) : kW l yL_toggle cL_toggle 4 [(0, 9, 12, 13), (0, 9, 15, 15)] { frames := 8, cells := 1, slots := 6, locals := 150 } D tys [.ref (aJ 0), .int k, .ref aO] (wVM cI aJ J ++ wOut cL aO O) (wVM cI aJ J ++ wOut cL aO O) 1 1 6 sz := by
  refine y_enterW (cc := cL_toggle) (maxL := 4) (hh := [(0, 9, 12, 13), (0, 9, 15, 15)]) (own := RL) (by decide) rfl (lv0 := [(0, .ref (aJ 0)), (1, .int k), (2, .ref aO)]) rfl (Nat.le_of_ble_eq_true rfl) ?_
  intro p e s m args below meth c A Z X hT hr hlk
  refine y_aload_n Z dL_toggle_0 2 rfl rfl ?_
  refine y_iconst (v := 0) Z dL_toggle_1 (by decide) ?_
  refine y_aload_n Z dL_toggle_2 0 rfl rfl ?_
  refine y_iload_n Z dL_toggle_3 1 rfl rfl ?_
  refine y_VBw (rest := [.int 0, .ref aO]) Z X (k_X5_toggle_b0 l htr D ht0 aJ J k h_bad) (y_cwV 1 Z ml_RL_33 im_X5_toggle se_X5_toggle in_X5 co_X5_toggle rfl rfl hd_X5_toggle ⟨Nat.le_of_ble_eq_true rfl, Nat.le_of_ble_eq_true rfl⟩) List.nil (wOut cL aO O) rfl 5 0 rfl rfl rfl rfl (Nat.le_of_ble_eq_true rfl) dL_toggle_4 ⟨Nat.le_of_ble_eq_true rfl, Nat.le_of_ble_eq_true rfl⟩ ?_
  refine y_catch Z hT [] ⟨0, 9, 12, 13⟩ [⟨0, 9, 15, 15⟩] rfl (fun z hz => nomatch hz) (by decide) (by decide) cl_RL_13 (List.mem_of_getElem? (i := 19) rfl) (fun qE => ?_)
  refine y_astore_n Z [(3, .ref qE), (0, .ref (aJ 0)), (1, .int k), (2, .ref aO)] dL_toggle_12 rfl (by decide) rfl ?_
  refine y_iconst (v := 1) Z dL_toggle_13 (by decide) ?_
  exact y_retI Z hr hlk dL_toggle_14 rfl rfl
set_option maxHeartbeats 4000000 in
set_option maxRecDepth 100000 in
theorem k_L_toggle_b1 (l : Launch) (htr : l.stackTraces = false) (D : va_G) {cI cL : ClassId} {tys : List (ClassId × FieldType)} (ht0 : tys[0]? = some (cI, .int)) (ht1 : tys[1]? = some (cL, .long)) (aJ : Nat → Nat) (J : Nat → Nat → Nat → Int32) (aO : Nat) (O : Nat → Int64) (k : Int32) (h_k : okK k) (h_bad : ¬ (okM J 5)) (sz : Nat) : kW l yL_toggle cL_toggle 4 [(0, 9, 12, 13), (0, 9, 15, 15)] { frames := 8, cells := 1, slots := 6, locals := 150 } D tys [.ref (aJ 0), .int k, .ref aO] (wVM cI aJ J ++ wOut cL aO O) (wVM cI aJ J ++ wOut cL aO O) 2 1 6 sz := by
  refine y_enterW (cc := cL_toggle) (maxL := 4) (hh := [(0, 9, 12, 13), (0, 9, 15, 15)]) (own := RL) (by decide) rfl (lv0 := [(0, .ref (aJ 0)), (1, .int k), (2, .ref aO)]) rfl (Nat.le_of_ble_eq_true rfl) ?_
  intro p e s m args below meth c A Z X hT hr hlk
  refine y_aload_n Z dL_toggle_0 2 rfl rfl ?_
  refine y_iconst (v := 0) Z dL_toggle_1 (by decide) ?_
  refine y_aload_n Z dL_toggle_2 0 rfl rfl ?_
  refine y_iload_n Z dL_toggle_3 1 rfl rfl ?_
  refine y_VBw (rest := [.int 0, .ref aO]) Z X (k_X5_toggle_b1 l htr D ht0 aJ J k h_k h_bad) (y_cwV 1 Z ml_RL_33 im_X5_toggle se_X5_toggle in_X5 co_X5_toggle rfl rfl hd_X5_toggle ⟨Nat.le_of_ble_eq_true rfl, Nat.le_of_ble_eq_true rfl⟩) List.nil (wOut cL aO O) rfl 5 0 rfl rfl rfl rfl (Nat.le_of_ble_eq_true rfl) dL_toggle_4 ⟨Nat.le_of_ble_eq_true rfl, Nat.le_of_ble_eq_true rfl⟩ ?_
  refine y_catch Z hT [⟨0, 9, 12, 13⟩] ⟨0, 9, 15, 15⟩ [] rfl (fun z hz => by
      simp only [List.mem_cons, List.not_mem_nil, or_false] at hz
      rcases hz with rfl
      · exact Or.inr ⟨by decide, "java/lang/IndexOutOfBoundsException", cl_RL_13, Z.2.2.2.2.1⟩) (by decide) (by decide) cl_RL_15 (List.mem_of_getElem? (i := 20) rfl) (fun qE => ?_)
  refine y_astore_n Z [(3, .ref qE), (0, .ref (aJ 0)), (1, .int k), (2, .ref aO)] dL_toggle_15 rfl (by decide) rfl ?_
  refine y_iconst (v := 2) Z dL_toggle_16 (by decide) ?_
  exact y_retI Z hr hlk dL_toggle_17 rfl rfl
set_option maxHeartbeats 4000000 in
set_option maxRecDepth 100000 in
theorem k_L_cut (l : Launch) (htr : l.stackTraces = false) (D : va_G) {cI cL : ClassId} {tys : List (ClassId × FieldType)} (ht0 : tys[0]? = some (cI, .int)) (ht1 : tys[1]? = some (cL, .long)) (aJ : Nat → Nat) (J : Nat → Nat → Nat → Int32) (aO : Nat) (O : Nat → Int64)  (h_m : okM J 6) (sz : Nat) : kW l yL_cut cL_cut 3 [(0, 8, 11, 15)] { frames := 8, cells := 0, slots := 0, locals := 150 } D tys [.ref (aJ 0), .ref aO] (wVM cI aJ J ++ wOut cL aO O) (wVM cI aJ (vm_enact J 6 (-1) (-1) (-1) (-1)) ++ wOut cL aO (vp_updL O 0 (Int32.toInt64 (perfR (J 0) 6 (-1) (-1) (-1) (-1))))) 0 0 0 sz := by
  refine y_enterW (cc := cL_cut) (maxL := 3) (hh := [(0, 8, 11, 15)]) (own := RL) (by decide) rfl (lv0 := [(0, .ref (aJ 0)), (1, .ref aO)]) rfl (Nat.le_of_ble_eq_true rfl) ?_
  intro p e s m args below meth c A Z X hT hr hlk
  refine y_aload_n Z dL_cut_0 1 rfl rfl ?_
  refine y_iconst (v := 0) Z dL_cut_1 (by decide) ?_
  refine y_aload_n Z dL_cut_2 0 rfl rfl ?_
  refine y_VIw (rest := [.int 0, .ref aO]) Z (k_X5_cut l D ht0 aJ J h_m) (y_cwV 0 Z ml_RL_36 im_X5_cut se_X5_cut in_X5 co_X5_cut rfl rfl hd_X5_cut ⟨Nat.le_of_ble_eq_true rfl, Nat.le_of_ble_eq_true rfl⟩) List.nil (wOut cL aO O) rfl 5 0 rfl rfl rfl rfl (Nat.le_of_ble_eq_true rfl) dL_cut_3 ⟨Nat.le_of_ble_eq_true rfl, Nat.le_of_ble_eq_true rfl⟩ (wVM cI aJ (vm_enact J 6 (-1) (-1) (-1) (-1)) ++ wOut cL aO O) rfl ?_
  refine y_i2l Z dL_cut_6 ?_
  refine y_last Z 27 1 rfl ht1 (vpd (by decide) (by decide)) 0 (by decide) (wVM cI aJ (vm_enact J 6 (-1) (-1) (-1) (-1)) ++ wOut cL aO (vp_updL O 0 (Int32.toInt64 (perfR (J 0) 6 (-1) (-1) (-1) (-1))))) rfl dL_cut_7 ?_
  refine y_goto (tgt := 14) Z dL_cut_8 (by decide) ?_
  refine y_iconst (v := 0) Z dL_cut_14 (by decide) ?_
  exact y_retI Z hr hlk dL_cut_15 rfl rfl
set_option maxHeartbeats 4000000 in
set_option maxRecDepth 100000 in
theorem k_L_cut_b0 (l : Launch) (htr : l.stackTraces = false) (D : va_G) {cI cL : ClassId} {tys : List (ClassId × FieldType)} (ht0 : tys[0]? = some (cI, .int)) (ht1 : tys[1]? = some (cL, .long)) (aJ : Nat → Nat) (J : Nat → Nat → Nat → Int32) (aO : Nat) (O : Nat → Int64)  (h_bad : ¬ (okM J 6)) (sz : Nat) : kW l yL_cut cL_cut 3 [(0, 8, 11, 15)] { frames := 8, cells := 1, slots := 6, locals := 150 } D tys [.ref (aJ 0), .ref aO] (wVM cI aJ J ++ wOut cL aO O) (wVM cI aJ J ++ wOut cL aO O) 1 1 6 sz := by
  refine y_enterW (cc := cL_cut) (maxL := 3) (hh := [(0, 8, 11, 15)]) (own := RL) (by decide) rfl (lv0 := [(0, .ref (aJ 0)), (1, .ref aO)]) rfl (Nat.le_of_ble_eq_true rfl) ?_
  intro p e s m args below meth c A Z X hT hr hlk
  refine y_aload_n Z dL_cut_0 1 rfl rfl ?_
  refine y_iconst (v := 0) Z dL_cut_1 (by decide) ?_
  refine y_aload_n Z dL_cut_2 0 rfl rfl ?_
  refine y_VBw (rest := [.int 0, .ref aO]) Z X (k_X5_cut_b0 l htr D ht0 aJ J h_bad) (y_cwV 0 Z ml_RL_36 im_X5_cut se_X5_cut in_X5 co_X5_cut rfl rfl hd_X5_cut ⟨Nat.le_of_ble_eq_true rfl, Nat.le_of_ble_eq_true rfl⟩) List.nil (wOut cL aO O) rfl 5 0 rfl rfl rfl rfl (Nat.le_of_ble_eq_true rfl) dL_cut_3 ⟨Nat.le_of_ble_eq_true rfl, Nat.le_of_ble_eq_true rfl⟩ ?_
  refine y_catch Z hT [] ⟨0, 8, 11, 15⟩ [] rfl (fun z hz => nomatch hz) (by decide) (by decide) cl_RL_15 (List.mem_of_getElem? (i := 20) rfl) (fun qE => ?_)
  refine y_astore_n Z [(2, .ref qE), (0, .ref (aJ 0)), (1, .ref aO)] dL_cut_11 rfl (by decide) rfl ?_
  refine y_iconst (v := 1) Z dL_cut_12 (by decide) ?_
  exact y_retI Z hr hlk dL_cut_13 rfl rfl
set_option maxHeartbeats 4000000 in
set_option maxRecDepth 100000 in
theorem k_L_auto (l : Launch) (htr : l.stackTraces = false) (D : va_G) {cI cL : ClassId} {tys : List (ClassId × FieldType)} (ht0 : tys[0]? = some (cI, .int)) (ht1 : tys[1]? = some (cL, .long)) (aJ : Nat → Nat) (J : Nat → Nat → Nat → Int32) (aO : Nat) (O : Nat → Int64)  (h_m : okM J 7) (sz : Nat) : kW l yL_auto cL_auto 3 [(0, 8, 11, 15)] { frames := 8, cells := 0, slots := 0, locals := 150 } D tys [.ref (aJ 0), .ref aO] (wVM cI aJ J ++ wOut cL aO O) (wVM cI aJ (vm_enact J 7 (-1) (-1) (-1) (-1)) ++ wOut cL aO (vp_updL O 0 (Int32.toInt64 (perfR (J 0) 7 (-1) (-1) (-1) (-1))))) 0 0 0 sz := by
  refine y_enterW (cc := cL_auto) (maxL := 3) (hh := [(0, 8, 11, 15)]) (own := RL) (by decide) rfl (lv0 := [(0, .ref (aJ 0)), (1, .ref aO)]) rfl (Nat.le_of_ble_eq_true rfl) ?_
  intro p e s m args below meth c A Z X hT hr hlk
  refine y_aload_n Z dL_auto_0 1 rfl rfl ?_
  refine y_iconst (v := 0) Z dL_auto_1 (by decide) ?_
  refine y_aload_n Z dL_auto_2 0 rfl rfl ?_
  refine y_VIw (rest := [.int 0, .ref aO]) Z (k_X5_auto l D ht0 aJ J h_m) (y_cwV 0 Z ml_RL_40 im_X5_auto se_X5_auto in_X5 co_X5_auto rfl rfl hd_X5_auto ⟨Nat.le_of_ble_eq_true rfl, Nat.le_of_ble_eq_true rfl⟩) List.nil (wOut cL aO O) rfl 5 0 rfl rfl rfl rfl (Nat.le_of_ble_eq_true rfl) dL_auto_3 ⟨Nat.le_of_ble_eq_true rfl, Nat.le_of_ble_eq_true rfl⟩ (wVM cI aJ (vm_enact J 7 (-1) (-1) (-1) (-1)) ++ wOut cL aO O) rfl ?_
  refine y_i2l Z dL_auto_6 ?_
  refine y_last Z 27 1 rfl ht1 (vpd (by decide) (by decide)) 0 (by decide) (wVM cI aJ (vm_enact J 7 (-1) (-1) (-1) (-1)) ++ wOut cL aO (vp_updL O 0 (Int32.toInt64 (perfR (J 0) 7 (-1) (-1) (-1) (-1))))) rfl dL_auto_7 ?_
  refine y_goto (tgt := 14) Z dL_auto_8 (by decide) ?_
  refine y_iconst (v := 0) Z dL_auto_14 (by decide) ?_
  exact y_retI Z hr hlk dL_auto_15 rfl rfl
set_option maxHeartbeats 4000000 in
set_option maxRecDepth 100000 in
theorem k_L_auto_b0 (l : Launch) (htr : l.stackTraces = false) (D : va_G) {cI cL : ClassId} {tys : List (ClassId × FieldType)} (ht0 : tys[0]? = some (cI, .int)) (ht1 : tys[1]? = some (cL, .long)) (aJ : Nat → Nat) (J : Nat → Nat → Nat → Int32) (aO : Nat) (O : Nat → Int64)  (h_bad : ¬ (okM J 7)) (sz : Nat) : kW l yL_auto cL_auto 3 [(0, 8, 11, 15)] { frames := 8, cells := 1, slots := 6, locals := 150 } D tys [.ref (aJ 0), .ref aO] (wVM cI aJ J ++ wOut cL aO O) (wVM cI aJ J ++ wOut cL aO O) 1 1 6 sz := by
  refine y_enterW (cc := cL_auto) (maxL := 3) (hh := [(0, 8, 11, 15)]) (own := RL) (by decide) rfl (lv0 := [(0, .ref (aJ 0)), (1, .ref aO)]) rfl (Nat.le_of_ble_eq_true rfl) ?_
  intro p e s m args below meth c A Z X hT hr hlk
  refine y_aload_n Z dL_auto_0 1 rfl rfl ?_
  refine y_iconst (v := 0) Z dL_auto_1 (by decide) ?_
  refine y_aload_n Z dL_auto_2 0 rfl rfl ?_
  refine y_VBw (rest := [.int 0, .ref aO]) Z X (k_X5_auto_b0 l htr D ht0 aJ J h_bad) (y_cwV 0 Z ml_RL_40 im_X5_auto se_X5_auto in_X5 co_X5_auto rfl rfl hd_X5_auto ⟨Nat.le_of_ble_eq_true rfl, Nat.le_of_ble_eq_true rfl⟩) List.nil (wOut cL aO O) rfl 5 0 rfl rfl rfl rfl (Nat.le_of_ble_eq_true rfl) dL_auto_3 ⟨Nat.le_of_ble_eq_true rfl, Nat.le_of_ble_eq_true rfl⟩ ?_
  refine y_catch Z hT [] ⟨0, 8, 11, 15⟩ [] rfl (fun z hz => nomatch hz) (by decide) (by decide) cl_RL_15 (List.mem_of_getElem? (i := 20) rfl) (fun qE => ?_)
  refine y_astore_n Z [(2, .ref qE), (0, .ref (aJ 0)), (1, .ref aO)] dL_auto_11 rfl (by decide) rfl ?_
  refine y_iconst (v := 1) Z dL_auto_12 (by decide) ?_
  exact y_retI Z hr hlk dL_auto_13 rfl rfl
set_option maxHeartbeats 4000000 in
set_option maxRecDepth 100000 in
theorem k_L_bar (l : Launch) (htr : l.stackTraces = false) (D : va_G) {cI cL : ClassId} {tys : List (ClassId × FieldType)} (ht0 : tys[0]? = some (cI, .int)) (ht1 : tys[1]? = some (cL, .long)) (aJ : Nat → Nat) (J : Nat → Nat → Nat → Int32) (aO : Nat) (O : Nat → Int64) (b : Int32)  (h_b : okR b 0 1000) (h_m : okM J 8) (sz : Nat) : kW l yL_bar cL_bar 4 [(0, 9, 12, 24), (0, 9, 15, 15)] { frames := 8, cells := 0, slots := 0, locals := 150 } D tys [.ref (aJ 0), .int b, .ref aO] (wVM cI aJ J ++ wOut cL aO O) (wVM cI aJ (vm_enact J 8 b (-1) (-1) (-1)) ++ wOut cL aO (vp_updL O 0 (Int32.toInt64 (perfR (J 0) 8 b (-1) (-1) (-1))))) 0 0 0 sz := by
  refine y_enterW (cc := cL_bar) (maxL := 4) (hh := [(0, 9, 12, 24), (0, 9, 15, 15)]) (own := RL) (by decide) rfl (lv0 := [(0, .ref (aJ 0)), (1, .int b), (2, .ref aO)]) rfl (Nat.le_of_ble_eq_true rfl) ?_
  intro p e s m args below meth c A Z X hT hr hlk
  refine y_aload_n Z dL_bar_0 2 rfl rfl ?_
  refine y_iconst (v := 0) Z dL_bar_1 (by decide) ?_
  refine y_aload_n Z dL_bar_2 0 rfl rfl ?_
  refine y_iload_n Z dL_bar_3 1 rfl rfl ?_
  refine y_VIw (rest := [.int 0, .ref aO]) Z (k_X5_bar l D ht0 aJ J b h_b h_m) (y_cwV 1 Z ml_RL_43 im_X5_bar se_X5_bar in_X5 co_X5_bar rfl rfl hd_X5_bar ⟨Nat.le_of_ble_eq_true rfl, Nat.le_of_ble_eq_true rfl⟩) List.nil (wOut cL aO O) rfl 5 0 rfl rfl rfl rfl (Nat.le_of_ble_eq_true rfl) dL_bar_4 ⟨Nat.le_of_ble_eq_true rfl, Nat.le_of_ble_eq_true rfl⟩ (wVM cI aJ (vm_enact J 8 b (-1) (-1) (-1)) ++ wOut cL aO O) rfl ?_
  refine y_i2l Z dL_bar_7 ?_
  refine y_last Z 27 1 rfl ht1 (vpd (by decide) (by decide)) 0 (by decide) (wVM cI aJ (vm_enact J 8 b (-1) (-1) (-1)) ++ wOut cL aO (vp_updL O 0 (Int32.toInt64 (perfR (J 0) 8 b (-1) (-1) (-1))))) rfl dL_bar_8 ?_
  refine y_goto (tgt := 18) Z dL_bar_9 (by decide) ?_
  refine y_iconst (v := 0) Z dL_bar_18 (by decide) ?_
  exact y_retI Z hr hlk dL_bar_19 rfl rfl
set_option maxHeartbeats 4000000 in
set_option maxRecDepth 100000 in
theorem k_L_bar_b0 (l : Launch) (htr : l.stackTraces = false) (D : va_G) {cI cL : ClassId} {tys : List (ClassId × FieldType)} (ht0 : tys[0]? = some (cI, .int)) (ht1 : tys[1]? = some (cL, .long)) (aJ : Nat → Nat) (J : Nat → Nat → Nat → Int32) (aO : Nat) (O : Nat → Int64) (b : Int32)  (h_bad : ¬ (okR b 0 1000)) (sz : Nat) : kW l yL_bar cL_bar 4 [(0, 9, 12, 24), (0, 9, 15, 15)] { frames := 8, cells := 1, slots := 6, locals := 150 } D tys [.ref (aJ 0), .int b, .ref aO] (wVM cI aJ J ++ wOut cL aO O) (wVM cI aJ J ++ wOut cL aO O) 1 1 6 sz := by
  refine y_enterW (cc := cL_bar) (maxL := 4) (hh := [(0, 9, 12, 24), (0, 9, 15, 15)]) (own := RL) (by decide) rfl (lv0 := [(0, .ref (aJ 0)), (1, .int b), (2, .ref aO)]) rfl (Nat.le_of_ble_eq_true rfl) ?_
  intro p e s m args below meth c A Z X hT hr hlk
  refine y_aload_n Z dL_bar_0 2 rfl rfl ?_
  refine y_iconst (v := 0) Z dL_bar_1 (by decide) ?_
  refine y_aload_n Z dL_bar_2 0 rfl rfl ?_
  refine y_iload_n Z dL_bar_3 1 rfl rfl ?_
  refine y_VBw (rest := [.int 0, .ref aO]) Z X (k_X5_bar_b0 l htr D ht0 aJ J b h_bad) (y_cwV 1 Z ml_RL_43 im_X5_bar se_X5_bar in_X5 co_X5_bar rfl rfl hd_X5_bar ⟨Nat.le_of_ble_eq_true rfl, Nat.le_of_ble_eq_true rfl⟩) List.nil (wOut cL aO O) rfl 5 0 rfl rfl rfl rfl (Nat.le_of_ble_eq_true rfl) dL_bar_4 ⟨Nat.le_of_ble_eq_true rfl, Nat.le_of_ble_eq_true rfl⟩ ?_
  refine y_catch Z hT [] ⟨0, 9, 12, 24⟩ [⟨0, 9, 15, 15⟩] rfl (fun z hz => nomatch hz) (by decide) (by decide) cl_RL_24 (List.mem_of_getElem? (i := 21) rfl) (fun qE => ?_)
  refine y_astore_n Z [(3, .ref qE), (0, .ref (aJ 0)), (1, .int b), (2, .ref aO)] dL_bar_12 rfl (by decide) rfl ?_
  refine y_iconst (v := 1) Z dL_bar_13 (by decide) ?_
  exact y_retI Z hr hlk dL_bar_14 rfl rfl
set_option maxHeartbeats 4000000 in
set_option maxRecDepth 100000 in
theorem k_L_bar_b1 (l : Launch) (htr : l.stackTraces = false) (D : va_G) {cI cL : ClassId} {tys : List (ClassId × FieldType)} (ht0 : tys[0]? = some (cI, .int)) (ht1 : tys[1]? = some (cL, .long)) (aJ : Nat → Nat) (J : Nat → Nat → Nat → Int32) (aO : Nat) (O : Nat → Int64) (b : Int32) (h_b : okR b 0 1000) (h_bad : ¬ (okM J 8)) (sz : Nat) : kW l yL_bar cL_bar 4 [(0, 9, 12, 24), (0, 9, 15, 15)] { frames := 8, cells := 1, slots := 6, locals := 150 } D tys [.ref (aJ 0), .int b, .ref aO] (wVM cI aJ J ++ wOut cL aO O) (wVM cI aJ J ++ wOut cL aO O) 2 1 6 sz := by
  refine y_enterW (cc := cL_bar) (maxL := 4) (hh := [(0, 9, 12, 24), (0, 9, 15, 15)]) (own := RL) (by decide) rfl (lv0 := [(0, .ref (aJ 0)), (1, .int b), (2, .ref aO)]) rfl (Nat.le_of_ble_eq_true rfl) ?_
  intro p e s m args below meth c A Z X hT hr hlk
  refine y_aload_n Z dL_bar_0 2 rfl rfl ?_
  refine y_iconst (v := 0) Z dL_bar_1 (by decide) ?_
  refine y_aload_n Z dL_bar_2 0 rfl rfl ?_
  refine y_iload_n Z dL_bar_3 1 rfl rfl ?_
  refine y_VBw (rest := [.int 0, .ref aO]) Z X (k_X5_bar_b1 l htr D ht0 aJ J b h_b h_bad) (y_cwV 1 Z ml_RL_43 im_X5_bar se_X5_bar in_X5 co_X5_bar rfl rfl hd_X5_bar ⟨Nat.le_of_ble_eq_true rfl, Nat.le_of_ble_eq_true rfl⟩) List.nil (wOut cL aO O) rfl 5 0 rfl rfl rfl rfl (Nat.le_of_ble_eq_true rfl) dL_bar_4 ⟨Nat.le_of_ble_eq_true rfl, Nat.le_of_ble_eq_true rfl⟩ ?_
  refine y_catch Z hT [⟨0, 9, 12, 24⟩] ⟨0, 9, 15, 15⟩ [] rfl (fun z hz => by
      simp only [List.mem_cons, List.not_mem_nil, or_false] at hz
      rcases hz with rfl
      · exact Or.inr ⟨by decide, "java/lang/IllegalArgumentException", cl_RL_24, Z.2.2.2.2.2.1⟩) (by decide) (by decide) cl_RL_15 (List.mem_of_getElem? (i := 20) rfl) (fun qE => ?_)
  refine y_astore_n Z [(3, .ref qE), (0, .ref (aJ 0)), (1, .int b), (2, .ref aO)] dL_bar_15 rfl (by decide) rfl ?_
  refine y_iconst (v := 2) Z dL_bar_16 (by decide) ?_
  exact y_retI Z hr hlk dL_bar_17 rfl rfl
set_option maxHeartbeats 4000000 in
set_option maxRecDepth 100000 in
theorem k_L_fault (l : Launch) (htr : l.stackTraces = false) (D : va_G) {cI cL : ClassId} {tys : List (ClassId × FieldType)} (ht0 : tys[0]? = some (cI, .int)) (ht1 : tys[1]? = some (cL, .long)) (aJ : Nat → Nat) (J : Nat → Nat → Nat → Int32) (aO : Nat) (O : Nat → Int64) (q : Int32) (fz : Int32)  (h_q : okS q) (h_b : okB q) (h_m : okM J 9) (sz : Nat) : kW l yL_fault cL_fault 5 [(0, 10, 13, 13), (0, 10, 17, 15)] { frames := 8, cells := 0, slots := 0, locals := 150 } D tys [.ref (aJ 0), .int q, .int fz, .ref aO] (wVM cI aJ J ++ wOut cL aO O) (wVM cI aJ (vm_enact J 9 q (nzF fz) (-1) (-1)) ++ wOut cL aO (vp_updL O 0 (Int32.toInt64 (perfR (J 0) 9 q (nzF fz) (-1) (-1))))) 0 0 0 sz := by
  refine y_enterW (cc := cL_fault) (maxL := 5) (hh := [(0, 10, 13, 13), (0, 10, 17, 15)]) (own := RL) (by decide) rfl (lv0 := [(0, .ref (aJ 0)), (1, .int q), (2, .int fz), (3, .ref aO)]) rfl (Nat.le_of_ble_eq_true rfl) ?_
  intro p e s m args below meth c A Z X hT hr hlk
  refine y_aload_n Z dL_fault_0 3 rfl rfl ?_
  refine y_iconst (v := 0) Z dL_fault_1 (by decide) ?_
  refine y_aload_n Z dL_fault_2 0 rfl rfl ?_
  refine y_iload_n Z dL_fault_3 1 rfl rfl ?_
  refine y_iload_n Z dL_fault_4 2 rfl rfl ?_
  refine y_VIw (rest := [.int 0, .ref aO]) Z (k_X5_fault l D ht0 aJ J q fz h_q h_b h_m) (y_cwV 2 Z ml_RL_46 im_X5_fault se_X5_fault in_X5 co_X5_fault rfl rfl hd_X5_fault ⟨Nat.le_of_ble_eq_true rfl, Nat.le_of_ble_eq_true rfl⟩) List.nil (wOut cL aO O) rfl 5 0 rfl rfl rfl rfl (Nat.le_of_ble_eq_true rfl) dL_fault_5 ⟨Nat.le_of_ble_eq_true rfl, Nat.le_of_ble_eq_true rfl⟩ (wVM cI aJ (vm_enact J 9 q (nzF fz) (-1) (-1)) ++ wOut cL aO O) rfl ?_
  refine y_i2l Z dL_fault_8 ?_
  refine y_last Z 27 1 rfl ht1 (vpd (by decide) (by decide)) 0 (by decide) (wVM cI aJ (vm_enact J 9 q (nzF fz) (-1) (-1)) ++ wOut cL aO (vp_updL O 0 (Int32.toInt64 (perfR (J 0) 9 q (nzF fz) (-1) (-1))))) rfl dL_fault_9 ?_
  refine y_goto (tgt := 21) Z dL_fault_10 (by decide) ?_
  refine y_iconst (v := 0) Z dL_fault_21 (by decide) ?_
  exact y_retI Z hr hlk dL_fault_22 rfl rfl
set_option maxHeartbeats 4000000 in
set_option maxRecDepth 100000 in
theorem k_L_fault_b0 (l : Launch) (htr : l.stackTraces = false) (D : va_G) {cI cL : ClassId} {tys : List (ClassId × FieldType)} (ht0 : tys[0]? = some (cI, .int)) (ht1 : tys[1]? = some (cL, .long)) (aJ : Nat → Nat) (J : Nat → Nat → Nat → Int32) (aO : Nat) (O : Nat → Int64) (q : Int32) (fz : Int32)  (h_bad : ¬ (okS q)) (sz : Nat) : kW l yL_fault cL_fault 5 [(0, 10, 13, 13), (0, 10, 17, 15)] { frames := 8, cells := 1, slots := 6, locals := 150 } D tys [.ref (aJ 0), .int q, .int fz, .ref aO] (wVM cI aJ J ++ wOut cL aO O) (wVM cI aJ J ++ wOut cL aO O) 1 1 6 sz := by
  refine y_enterW (cc := cL_fault) (maxL := 5) (hh := [(0, 10, 13, 13), (0, 10, 17, 15)]) (own := RL) (by decide) rfl (lv0 := [(0, .ref (aJ 0)), (1, .int q), (2, .int fz), (3, .ref aO)]) rfl (Nat.le_of_ble_eq_true rfl) ?_
  intro p e s m args below meth c A Z X hT hr hlk
  refine y_aload_n Z dL_fault_0 3 rfl rfl ?_
  refine y_iconst (v := 0) Z dL_fault_1 (by decide) ?_
  refine y_aload_n Z dL_fault_2 0 rfl rfl ?_
  refine y_iload_n Z dL_fault_3 1 rfl rfl ?_
  refine y_iload_n Z dL_fault_4 2 rfl rfl ?_
  refine y_VBw (rest := [.int 0, .ref aO]) Z X (k_X5_fault_b0 l htr D ht0 aJ J q fz h_bad) (y_cwV 2 Z ml_RL_46 im_X5_fault se_X5_fault in_X5 co_X5_fault rfl rfl hd_X5_fault ⟨Nat.le_of_ble_eq_true rfl, Nat.le_of_ble_eq_true rfl⟩) List.nil (wOut cL aO O) rfl 5 0 rfl rfl rfl rfl (Nat.le_of_ble_eq_true rfl) dL_fault_5 ⟨Nat.le_of_ble_eq_true rfl, Nat.le_of_ble_eq_true rfl⟩ ?_
  refine y_catch Z hT [] ⟨0, 10, 13, 13⟩ [⟨0, 10, 17, 15⟩] rfl (fun z hz => nomatch hz) (by decide) (by decide) cl_RL_13 (List.mem_of_getElem? (i := 19) rfl) (fun qE => ?_)
  refine y_astore Z [(4, .ref qE), (0, .ref (aJ 0)), (1, .int q), (2, .int fz), (3, .ref aO)] dL_fault_13 (by decide) rfl ?_
  refine y_iconst (v := 1) Z dL_fault_15 (by decide) ?_
  exact y_retI Z hr hlk dL_fault_16 rfl rfl
set_option maxHeartbeats 4000000 in
set_option maxRecDepth 100000 in
theorem k_L_fault_b1 (l : Launch) (htr : l.stackTraces = false) (D : va_G) {cI cL : ClassId} {tys : List (ClassId × FieldType)} (ht0 : tys[0]? = some (cI, .int)) (ht1 : tys[1]? = some (cL, .long)) (aJ : Nat → Nat) (J : Nat → Nat → Nat → Int32) (aO : Nat) (O : Nat → Int64) (q : Int32) (fz : Int32) (h_q : okS q) (h_bad : ¬ (okB q)) (sz : Nat) : kW l yL_fault cL_fault 5 [(0, 10, 13, 13), (0, 10, 17, 15)] { frames := 8, cells := 1, slots := 6, locals := 150 } D tys [.ref (aJ 0), .int q, .int fz, .ref aO] (wVM cI aJ J ++ wOut cL aO O) (wVM cI aJ J ++ wOut cL aO O) 1 1 6 sz := by
  refine y_enterW (cc := cL_fault) (maxL := 5) (hh := [(0, 10, 13, 13), (0, 10, 17, 15)]) (own := RL) (by decide) rfl (lv0 := [(0, .ref (aJ 0)), (1, .int q), (2, .int fz), (3, .ref aO)]) rfl (Nat.le_of_ble_eq_true rfl) ?_
  intro p e s m args below meth c A Z X hT hr hlk
  refine y_aload_n Z dL_fault_0 3 rfl rfl ?_
  refine y_iconst (v := 0) Z dL_fault_1 (by decide) ?_
  refine y_aload_n Z dL_fault_2 0 rfl rfl ?_
  refine y_iload_n Z dL_fault_3 1 rfl rfl ?_
  refine y_iload_n Z dL_fault_4 2 rfl rfl ?_
  refine y_VBw (rest := [.int 0, .ref aO]) Z X (k_X5_fault_b1 l htr D ht0 aJ J q fz h_q h_bad) (y_cwV 2 Z ml_RL_46 im_X5_fault se_X5_fault in_X5 co_X5_fault rfl rfl hd_X5_fault ⟨Nat.le_of_ble_eq_true rfl, Nat.le_of_ble_eq_true rfl⟩) List.nil (wOut cL aO O) rfl 5 0 rfl rfl rfl rfl (Nat.le_of_ble_eq_true rfl) dL_fault_5 ⟨Nat.le_of_ble_eq_true rfl, Nat.le_of_ble_eq_true rfl⟩ ?_
  refine y_catch Z hT [] ⟨0, 10, 13, 13⟩ [⟨0, 10, 17, 15⟩] rfl (fun z hz => nomatch hz) (by decide) (by decide) cl_RL_13 (List.mem_of_getElem? (i := 19) rfl) (fun qE => ?_)
  refine y_astore Z [(4, .ref qE), (0, .ref (aJ 0)), (1, .int q), (2, .int fz), (3, .ref aO)] dL_fault_13 (by decide) rfl ?_
  refine y_iconst (v := 1) Z dL_fault_15 (by decide) ?_
  exact y_retI Z hr hlk dL_fault_16 rfl rfl
set_option maxHeartbeats 4000000 in
set_option maxRecDepth 100000 in
theorem k_L_fault_b2 (l : Launch) (htr : l.stackTraces = false) (D : va_G) {cI cL : ClassId} {tys : List (ClassId × FieldType)} (ht0 : tys[0]? = some (cI, .int)) (ht1 : tys[1]? = some (cL, .long)) (aJ : Nat → Nat) (J : Nat → Nat → Nat → Int32) (aO : Nat) (O : Nat → Int64) (q : Int32) (fz : Int32) (h_q : okS q) (h_b : okB q) (h_bad : ¬ (okM J 9)) (sz : Nat) : kW l yL_fault cL_fault 5 [(0, 10, 13, 13), (0, 10, 17, 15)] { frames := 8, cells := 1, slots := 6, locals := 150 } D tys [.ref (aJ 0), .int q, .int fz, .ref aO] (wVM cI aJ J ++ wOut cL aO O) (wVM cI aJ J ++ wOut cL aO O) 2 1 6 sz := by
  refine y_enterW (cc := cL_fault) (maxL := 5) (hh := [(0, 10, 13, 13), (0, 10, 17, 15)]) (own := RL) (by decide) rfl (lv0 := [(0, .ref (aJ 0)), (1, .int q), (2, .int fz), (3, .ref aO)]) rfl (Nat.le_of_ble_eq_true rfl) ?_
  intro p e s m args below meth c A Z X hT hr hlk
  refine y_aload_n Z dL_fault_0 3 rfl rfl ?_
  refine y_iconst (v := 0) Z dL_fault_1 (by decide) ?_
  refine y_aload_n Z dL_fault_2 0 rfl rfl ?_
  refine y_iload_n Z dL_fault_3 1 rfl rfl ?_
  refine y_iload_n Z dL_fault_4 2 rfl rfl ?_
  refine y_VBw (rest := [.int 0, .ref aO]) Z X (k_X5_fault_b2 l htr D ht0 aJ J q fz h_q h_b h_bad) (y_cwV 2 Z ml_RL_46 im_X5_fault se_X5_fault in_X5 co_X5_fault rfl rfl hd_X5_fault ⟨Nat.le_of_ble_eq_true rfl, Nat.le_of_ble_eq_true rfl⟩) List.nil (wOut cL aO O) rfl 5 0 rfl rfl rfl rfl (Nat.le_of_ble_eq_true rfl) dL_fault_5 ⟨Nat.le_of_ble_eq_true rfl, Nat.le_of_ble_eq_true rfl⟩ ?_
  refine y_catch Z hT [⟨0, 10, 13, 13⟩] ⟨0, 10, 17, 15⟩ [] rfl (fun z hz => by
      simp only [List.mem_cons, List.not_mem_nil, or_false] at hz
      rcases hz with rfl
      · exact Or.inr ⟨by decide, "java/lang/IndexOutOfBoundsException", cl_RL_13, Z.2.2.2.2.1⟩) (by decide) (by decide) cl_RL_15 (List.mem_of_getElem? (i := 20) rfl) (fun qE => ?_)
  refine y_astore Z [(4, .ref qE), (0, .ref (aJ 0)), (1, .int q), (2, .int fz), (3, .ref aO)] dL_fault_17 (by decide) rfl ?_
  refine y_iconst (v := 2) Z dL_fault_19 (by decide) ?_
  exact y_retI Z hr hlk dL_fault_20 rfl rfl
set_option maxHeartbeats 4000000 in
set_option maxRecDepth 100000 in
theorem k_L_pass (l : Launch) (htr : l.stackTraces = false) (D : va_G) {cI cL : ClassId} {tys : List (ClassId × FieldType)} (ht0 : tys[0]? = some (cI, .int)) (ht1 : tys[1]? = some (cL, .long)) (aJ : Nat → Nat) (J : Nat → Nat → Nat → Int32) (aO : Nat) (O : Nat → Int64) (fr : Int32)  (h_f : okR fr 0 500) (h_p : okP J fr) (sz : Nat) : kW l yL_pass cL_pass 4 [(0, 9, 12, 24), (0, 9, 15, 15)] { frames := 8, cells := 0, slots := 0, locals := 150 } D tys [.ref (aJ 0), .int fr, .ref aO] (wVM cI aJ J ++ wOut cL aO O) (wVM cI aJ (vm_pass J fr) ++ wOut cL aO (vp_updL O 0 (Int32.toInt64 (gt_letPass fr (J 0) 0 7)))) 0 0 0 sz := by
  refine y_enterW (cc := cL_pass) (maxL := 4) (hh := [(0, 9, 12, 24), (0, 9, 15, 15)]) (own := RL) (by decide) rfl (lv0 := [(0, .ref (aJ 0)), (1, .int fr), (2, .ref aO)]) rfl (Nat.le_of_ble_eq_true rfl) ?_
  intro p e s m args below meth c A Z X hT hr hlk
  refine y_aload_n Z dL_pass_0 2 rfl rfl ?_
  refine y_iconst (v := 0) Z dL_pass_1 (by decide) ?_
  refine y_aload_n Z dL_pass_2 0 rfl rfl ?_
  refine y_iload_n Z dL_pass_3 1 rfl rfl ?_
  refine y_VIw (rest := [.int 0, .ref aO]) Z (k_X5_pass l D ht0 aJ J fr h_f h_p) (y_cwV 1 Z ml_RL_50 im_X5_pass se_X5_pass in_X5 co_X5_pass rfl rfl hd_X5_pass ⟨Nat.le_of_ble_eq_true rfl, Nat.le_of_ble_eq_true rfl⟩) List.nil (wOut cL aO O) rfl 5 0 rfl rfl rfl rfl (Nat.le_of_ble_eq_true rfl) dL_pass_4 ⟨Nat.le_of_ble_eq_true rfl, Nat.le_of_ble_eq_true rfl⟩ (wVM cI aJ (vm_pass J fr) ++ wOut cL aO O) rfl ?_
  refine y_i2l Z dL_pass_7 ?_
  refine y_last Z 27 1 rfl ht1 (vpd (by decide) (by decide)) 0 (by decide) (wVM cI aJ (vm_pass J fr) ++ wOut cL aO (vp_updL O 0 (Int32.toInt64 (gt_letPass fr (J 0) 0 7)))) rfl dL_pass_8 ?_
  refine y_goto (tgt := 18) Z dL_pass_9 (by decide) ?_
  refine y_iconst (v := 0) Z dL_pass_18 (by decide) ?_
  exact y_retI Z hr hlk dL_pass_19 rfl rfl
set_option maxHeartbeats 4000000 in
set_option maxRecDepth 100000 in
theorem k_L_pass_b0 (l : Launch) (htr : l.stackTraces = false) (D : va_G) {cI cL : ClassId} {tys : List (ClassId × FieldType)} (ht0 : tys[0]? = some (cI, .int)) (ht1 : tys[1]? = some (cL, .long)) (aJ : Nat → Nat) (J : Nat → Nat → Nat → Int32) (aO : Nat) (O : Nat → Int64) (fr : Int32)  (h_bad : ¬ (okR fr 0 500)) (sz : Nat) : kW l yL_pass cL_pass 4 [(0, 9, 12, 24), (0, 9, 15, 15)] { frames := 8, cells := 1, slots := 6, locals := 150 } D tys [.ref (aJ 0), .int fr, .ref aO] (wVM cI aJ J ++ wOut cL aO O) (wVM cI aJ J ++ wOut cL aO O) 1 1 6 sz := by
  refine y_enterW (cc := cL_pass) (maxL := 4) (hh := [(0, 9, 12, 24), (0, 9, 15, 15)]) (own := RL) (by decide) rfl (lv0 := [(0, .ref (aJ 0)), (1, .int fr), (2, .ref aO)]) rfl (Nat.le_of_ble_eq_true rfl) ?_
  intro p e s m args below meth c A Z X hT hr hlk
  refine y_aload_n Z dL_pass_0 2 rfl rfl ?_
  refine y_iconst (v := 0) Z dL_pass_1 (by decide) ?_
  refine y_aload_n Z dL_pass_2 0 rfl rfl ?_
  refine y_iload_n Z dL_pass_3 1 rfl rfl ?_
  refine y_VBw (rest := [.int 0, .ref aO]) Z X (k_X5_pass_b0 l htr D ht0 aJ J fr h_bad) (y_cwV 1 Z ml_RL_50 im_X5_pass se_X5_pass in_X5 co_X5_pass rfl rfl hd_X5_pass ⟨Nat.le_of_ble_eq_true rfl, Nat.le_of_ble_eq_true rfl⟩) List.nil (wOut cL aO O) rfl 5 0 rfl rfl rfl rfl (Nat.le_of_ble_eq_true rfl) dL_pass_4 ⟨Nat.le_of_ble_eq_true rfl, Nat.le_of_ble_eq_true rfl⟩ ?_
  refine y_catch Z hT [] ⟨0, 9, 12, 24⟩ [⟨0, 9, 15, 15⟩] rfl (fun z hz => nomatch hz) (by decide) (by decide) cl_RL_24 (List.mem_of_getElem? (i := 21) rfl) (fun qE => ?_)
  refine y_astore_n Z [(3, .ref qE), (0, .ref (aJ 0)), (1, .int fr), (2, .ref aO)] dL_pass_12 rfl (by decide) rfl ?_
  refine y_iconst (v := 1) Z dL_pass_13 (by decide) ?_
  exact y_retI Z hr hlk dL_pass_14 rfl rfl
set_option maxHeartbeats 4000000 in
set_option maxRecDepth 100000 in
theorem k_L_pass_b1 (l : Launch) (htr : l.stackTraces = false) (D : va_G) {cI cL : ClassId} {tys : List (ClassId × FieldType)} (ht0 : tys[0]? = some (cI, .int)) (ht1 : tys[1]? = some (cL, .long)) (aJ : Nat → Nat) (J : Nat → Nat → Nat → Int32) (aO : Nat) (O : Nat → Int64) (fr : Int32) (h_f : okR fr 0 500) (h_bad : ¬ (okP J fr)) (sz : Nat) : kW l yL_pass cL_pass 4 [(0, 9, 12, 24), (0, 9, 15, 15)] { frames := 8, cells := 1, slots := 6, locals := 150 } D tys [.ref (aJ 0), .int fr, .ref aO] (wVM cI aJ J ++ wOut cL aO O) (wVM cI aJ J ++ wOut cL aO O) 2 1 6 sz := by
  refine y_enterW (cc := cL_pass) (maxL := 4) (hh := [(0, 9, 12, 24), (0, 9, 15, 15)]) (own := RL) (by decide) rfl (lv0 := [(0, .ref (aJ 0)), (1, .int fr), (2, .ref aO)]) rfl (Nat.le_of_ble_eq_true rfl) ?_
  intro p e s m args below meth c A Z X hT hr hlk
  refine y_aload_n Z dL_pass_0 2 rfl rfl ?_
  refine y_iconst (v := 0) Z dL_pass_1 (by decide) ?_
  refine y_aload_n Z dL_pass_2 0 rfl rfl ?_
  refine y_iload_n Z dL_pass_3 1 rfl rfl ?_
  refine y_VBw (rest := [.int 0, .ref aO]) Z X (k_X5_pass_b1 l htr D ht0 aJ J fr h_f h_bad) (y_cwV 1 Z ml_RL_50 im_X5_pass se_X5_pass in_X5 co_X5_pass rfl rfl hd_X5_pass ⟨Nat.le_of_ble_eq_true rfl, Nat.le_of_ble_eq_true rfl⟩) List.nil (wOut cL aO O) rfl 5 0 rfl rfl rfl rfl (Nat.le_of_ble_eq_true rfl) dL_pass_4 ⟨Nat.le_of_ble_eq_true rfl, Nat.le_of_ble_eq_true rfl⟩ ?_
  refine y_catch Z hT [⟨0, 9, 12, 24⟩] ⟨0, 9, 15, 15⟩ [] rfl (fun z hz => by
      simp only [List.mem_cons, List.not_mem_nil, or_false] at hz
      rcases hz with rfl
      · exact Or.inr ⟨by decide, "java/lang/IllegalArgumentException", cl_RL_24, Z.2.2.2.2.2.1⟩) (by decide) (by decide) cl_RL_15 (List.mem_of_getElem? (i := 20) rfl) (fun qE => ?_)
  refine y_astore_n Z [(3, .ref qE), (0, .ref (aJ 0)), (1, .int fr), (2, .ref aO)] dL_pass_15 rfl (by decide) rfl ?_
  refine y_iconst (v := 2) Z dL_pass_16 (by decide) ?_
  exact y_retI Z hr hlk dL_pass_17 rfl rfl
set_option maxHeartbeats 4000000 in
set_option maxRecDepth 100000 in
theorem k_L_setting (l : Launch) (htr : l.stackTraces = false) (D : va_G) {cI cL : ClassId} {tys : List (ClassId × FieldType)} (ht0 : tys[0]? = some (cI, .int)) (ht1 : tys[1]? = some (cL, .long)) (aJ : Nat → Nat) (J : Nat → Nat → Nat → Int32) (aO : Nat) (O : Nat → Int64) (w : Int32)  (h_w : okR w 0 8) (sz : Nat) : kW l yL_setting cL_setting 4 [(0, 9, 12, 24)] { frames := 8, cells := 0, slots := 0, locals := 150 } D tys [.ref (aJ 0), .int w, .ref aO] (wVM cI aJ J ++ wOut cL aO O) (wVM cI aJ J ++ wOut cL aO (vp_updL O 0 (Int32.toInt64 (psF J w)))) 0 0 0 sz := by
  refine y_enterW (cc := cL_setting) (maxL := 4) (hh := [(0, 9, 12, 24)]) (own := RL) (by decide) rfl (lv0 := [(0, .ref (aJ 0)), (1, .int w), (2, .ref aO)]) rfl (Nat.le_of_ble_eq_true rfl) ?_
  intro p e s m args below meth c A Z X hT hr hlk
  refine y_aload_n Z dL_setting_0 2 rfl rfl ?_
  refine y_iconst (v := 0) Z dL_setting_1 (by decide) ?_
  refine y_aload_n Z dL_setting_2 0 rfl rfl ?_
  refine y_iload_n Z dL_setting_3 1 rfl rfl ?_
  refine y_VIw (rest := [.int 0, .ref aO]) Z (k_X5_setting l D ht0 aJ J w h_w) (y_cwV 1 Z ml_RL_53 im_X5_setting se_X5_setting in_X5 co_X5_setting rfl rfl hd_X5_setting ⟨Nat.le_of_ble_eq_true rfl, Nat.le_of_ble_eq_true rfl⟩) List.nil (wOut cL aO O) rfl 5 0 rfl rfl rfl rfl (Nat.le_of_ble_eq_true rfl) dL_setting_4 ⟨Nat.le_of_ble_eq_true rfl, Nat.le_of_ble_eq_true rfl⟩ (wVM cI aJ J ++ wOut cL aO O) rfl ?_
  refine y_i2l Z dL_setting_7 ?_
  refine y_last Z 27 1 rfl ht1 (vpd (by decide) (by decide)) 0 (by decide) (wVM cI aJ J ++ wOut cL aO (vp_updL O 0 (Int32.toInt64 (psF J w)))) rfl dL_setting_8 ?_
  refine y_goto (tgt := 15) Z dL_setting_9 (by decide) ?_
  refine y_iconst (v := 0) Z dL_setting_15 (by decide) ?_
  exact y_retI Z hr hlk dL_setting_16 rfl rfl
set_option maxHeartbeats 4000000 in
set_option maxRecDepth 100000 in
theorem k_L_setting_b0 (l : Launch) (htr : l.stackTraces = false) (D : va_G) {cI cL : ClassId} {tys : List (ClassId × FieldType)} (ht0 : tys[0]? = some (cI, .int)) (ht1 : tys[1]? = some (cL, .long)) (aJ : Nat → Nat) (J : Nat → Nat → Nat → Int32) (aO : Nat) (O : Nat → Int64) (w : Int32)  (h_bad : ¬ (okR w 0 8)) (sz : Nat) : kW l yL_setting cL_setting 4 [(0, 9, 12, 24)] { frames := 8, cells := 1, slots := 6, locals := 150 } D tys [.ref (aJ 0), .int w, .ref aO] (wVM cI aJ J ++ wOut cL aO O) (wVM cI aJ J ++ wOut cL aO O) 1 1 6 sz := by
  refine y_enterW (cc := cL_setting) (maxL := 4) (hh := [(0, 9, 12, 24)]) (own := RL) (by decide) rfl (lv0 := [(0, .ref (aJ 0)), (1, .int w), (2, .ref aO)]) rfl (Nat.le_of_ble_eq_true rfl) ?_
  intro p e s m args below meth c A Z X hT hr hlk
  refine y_aload_n Z dL_setting_0 2 rfl rfl ?_
  refine y_iconst (v := 0) Z dL_setting_1 (by decide) ?_
  refine y_aload_n Z dL_setting_2 0 rfl rfl ?_
  refine y_iload_n Z dL_setting_3 1 rfl rfl ?_
  refine y_VBw (rest := [.int 0, .ref aO]) Z X (k_X5_setting_b0 l htr D ht0 aJ J w h_bad) (y_cwV 1 Z ml_RL_53 im_X5_setting se_X5_setting in_X5 co_X5_setting rfl rfl hd_X5_setting ⟨Nat.le_of_ble_eq_true rfl, Nat.le_of_ble_eq_true rfl⟩) List.nil (wOut cL aO O) rfl 5 0 rfl rfl rfl rfl (Nat.le_of_ble_eq_true rfl) dL_setting_4 ⟨Nat.le_of_ble_eq_true rfl, Nat.le_of_ble_eq_true rfl⟩ ?_
  refine y_catch Z hT [] ⟨0, 9, 12, 24⟩ [] rfl (fun z hz => nomatch hz) (by decide) (by decide) cl_RL_24 (List.mem_of_getElem? (i := 21) rfl) (fun qE => ?_)
  refine y_astore_n Z [(3, .ref qE), (0, .ref (aJ 0)), (1, .int w), (2, .ref aO)] dL_setting_12 rfl (by decide) rfl ?_
  refine y_iconst (v := 1) Z dL_setting_13 (by decide) ?_
  exact y_retI Z hr hlk dL_setting_14 rfl rfl
set_option maxHeartbeats 4000000 in
set_option maxRecDepth 100000 in
theorem k_L_keyer (l : Launch) (htr : l.stackTraces = false) (D : va_G) {cI cL : ClassId} {tys : List (ClassId × FieldType)} (ht0 : tys[0]? = some (cI, .int)) (ht1 : tys[1]? = some (cL, .long)) (aJ : Nat → Nat) (J : Nat → Nat → Nat → Int32) (aO : Nat) (O : Nat → Int64) (k : Int32) (w : Int32)  (h_k : okK k) (h_w : okR w 0 3) (sz : Nat) : kW l yL_keyer cL_keyer 5 [(0, 10, 13, 13), (0, 10, 17, 24)] { frames := 8, cells := 0, slots := 0, locals := 150 } D tys [.ref (aJ 0), .int k, .int w, .ref aO] (wVM cI aJ J ++ wOut cL aO O) (wVM cI aJ J ++ wOut cL aO (vp_updL O 0 (Int32.toInt64 (tellK (J 0) k w)))) 0 0 0 sz := by
  refine y_enterW (cc := cL_keyer) (maxL := 5) (hh := [(0, 10, 13, 13), (0, 10, 17, 24)]) (own := RL) (by decide) rfl (lv0 := [(0, .ref (aJ 0)), (1, .int k), (2, .int w), (3, .ref aO)]) rfl (Nat.le_of_ble_eq_true rfl) ?_
  intro p e s m args below meth c A Z X hT hr hlk
  refine y_aload_n Z dL_keyer_0 3 rfl rfl ?_
  refine y_iconst (v := 0) Z dL_keyer_1 (by decide) ?_
  refine y_aload_n Z dL_keyer_2 0 rfl rfl ?_
  refine y_iload_n Z dL_keyer_3 1 rfl rfl ?_
  refine y_iload_n Z dL_keyer_4 2 rfl rfl ?_
  refine y_VIw (rest := [.int 0, .ref aO]) Z (k_X5_keyer l D ht0 aJ J k w h_k h_w) (y_cwV 2 Z ml_RL_56 im_X5_keyer se_X5_keyer in_X5 co_X5_keyer rfl rfl hd_X5_keyer ⟨Nat.le_of_ble_eq_true rfl, Nat.le_of_ble_eq_true rfl⟩) List.nil (wOut cL aO O) rfl 5 0 rfl rfl rfl rfl (Nat.le_of_ble_eq_true rfl) dL_keyer_5 ⟨Nat.le_of_ble_eq_true rfl, Nat.le_of_ble_eq_true rfl⟩ (wVM cI aJ J ++ wOut cL aO O) rfl ?_
  refine y_i2l Z dL_keyer_8 ?_
  refine y_last Z 27 1 rfl ht1 (vpd (by decide) (by decide)) 0 (by decide) (wVM cI aJ J ++ wOut cL aO (vp_updL O 0 (Int32.toInt64 (tellK (J 0) k w)))) rfl dL_keyer_9 ?_
  refine y_goto (tgt := 21) Z dL_keyer_10 (by decide) ?_
  refine y_iconst (v := 0) Z dL_keyer_21 (by decide) ?_
  exact y_retI Z hr hlk dL_keyer_22 rfl rfl
set_option maxHeartbeats 4000000 in
set_option maxRecDepth 100000 in
theorem k_L_keyer_b0 (l : Launch) (htr : l.stackTraces = false) (D : va_G) {cI cL : ClassId} {tys : List (ClassId × FieldType)} (ht0 : tys[0]? = some (cI, .int)) (ht1 : tys[1]? = some (cL, .long)) (aJ : Nat → Nat) (J : Nat → Nat → Nat → Int32) (aO : Nat) (O : Nat → Int64) (k : Int32) (w : Int32)  (h_bad : ¬ (okK k)) (sz : Nat) : kW l yL_keyer cL_keyer 5 [(0, 10, 13, 13), (0, 10, 17, 24)] { frames := 8, cells := 1, slots := 6, locals := 150 } D tys [.ref (aJ 0), .int k, .int w, .ref aO] (wVM cI aJ J ++ wOut cL aO O) (wVM cI aJ J ++ wOut cL aO O) 1 1 6 sz := by
  refine y_enterW (cc := cL_keyer) (maxL := 5) (hh := [(0, 10, 13, 13), (0, 10, 17, 24)]) (own := RL) (by decide) rfl (lv0 := [(0, .ref (aJ 0)), (1, .int k), (2, .int w), (3, .ref aO)]) rfl (Nat.le_of_ble_eq_true rfl) ?_
  intro p e s m args below meth c A Z X hT hr hlk
  refine y_aload_n Z dL_keyer_0 3 rfl rfl ?_
  refine y_iconst (v := 0) Z dL_keyer_1 (by decide) ?_
  refine y_aload_n Z dL_keyer_2 0 rfl rfl ?_
  refine y_iload_n Z dL_keyer_3 1 rfl rfl ?_
  refine y_iload_n Z dL_keyer_4 2 rfl rfl ?_
  refine y_VBw (rest := [.int 0, .ref aO]) Z X (k_X5_keyer_b0 l htr D ht0 aJ J k w h_bad) (y_cwV 2 Z ml_RL_56 im_X5_keyer se_X5_keyer in_X5 co_X5_keyer rfl rfl hd_X5_keyer ⟨Nat.le_of_ble_eq_true rfl, Nat.le_of_ble_eq_true rfl⟩) List.nil (wOut cL aO O) rfl 5 0 rfl rfl rfl rfl (Nat.le_of_ble_eq_true rfl) dL_keyer_5 ⟨Nat.le_of_ble_eq_true rfl, Nat.le_of_ble_eq_true rfl⟩ ?_
  refine y_catch Z hT [] ⟨0, 10, 13, 13⟩ [⟨0, 10, 17, 24⟩] rfl (fun z hz => nomatch hz) (by decide) (by decide) cl_RL_13 (List.mem_of_getElem? (i := 19) rfl) (fun qE => ?_)
  refine y_astore Z [(4, .ref qE), (0, .ref (aJ 0)), (1, .int k), (2, .int w), (3, .ref aO)] dL_keyer_13 (by decide) rfl ?_
  refine y_iconst (v := 1) Z dL_keyer_15 (by decide) ?_
  exact y_retI Z hr hlk dL_keyer_16 rfl rfl
set_option maxHeartbeats 4000000 in
set_option maxRecDepth 100000 in
theorem k_L_keyer_b1 (l : Launch) (htr : l.stackTraces = false) (D : va_G) {cI cL : ClassId} {tys : List (ClassId × FieldType)} (ht0 : tys[0]? = some (cI, .int)) (ht1 : tys[1]? = some (cL, .long)) (aJ : Nat → Nat) (J : Nat → Nat → Nat → Int32) (aO : Nat) (O : Nat → Int64) (k : Int32) (w : Int32) (h_k : okK k) (h_bad : ¬ (okR w 0 3)) (sz : Nat) : kW l yL_keyer cL_keyer 5 [(0, 10, 13, 13), (0, 10, 17, 24)] { frames := 8, cells := 1, slots := 6, locals := 150 } D tys [.ref (aJ 0), .int k, .int w, .ref aO] (wVM cI aJ J ++ wOut cL aO O) (wVM cI aJ J ++ wOut cL aO O) 2 1 6 sz := by
  refine y_enterW (cc := cL_keyer) (maxL := 5) (hh := [(0, 10, 13, 13), (0, 10, 17, 24)]) (own := RL) (by decide) rfl (lv0 := [(0, .ref (aJ 0)), (1, .int k), (2, .int w), (3, .ref aO)]) rfl (Nat.le_of_ble_eq_true rfl) ?_
  intro p e s m args below meth c A Z X hT hr hlk
  refine y_aload_n Z dL_keyer_0 3 rfl rfl ?_
  refine y_iconst (v := 0) Z dL_keyer_1 (by decide) ?_
  refine y_aload_n Z dL_keyer_2 0 rfl rfl ?_
  refine y_iload_n Z dL_keyer_3 1 rfl rfl ?_
  refine y_iload_n Z dL_keyer_4 2 rfl rfl ?_
  refine y_VBw (rest := [.int 0, .ref aO]) Z X (k_X5_keyer_b1 l htr D ht0 aJ J k w h_k h_bad) (y_cwV 2 Z ml_RL_56 im_X5_keyer se_X5_keyer in_X5 co_X5_keyer rfl rfl hd_X5_keyer ⟨Nat.le_of_ble_eq_true rfl, Nat.le_of_ble_eq_true rfl⟩) List.nil (wOut cL aO O) rfl 5 0 rfl rfl rfl rfl (Nat.le_of_ble_eq_true rfl) dL_keyer_5 ⟨Nat.le_of_ble_eq_true rfl, Nat.le_of_ble_eq_true rfl⟩ ?_
  refine y_catch Z hT [⟨0, 10, 13, 13⟩] ⟨0, 10, 17, 24⟩ [] rfl (fun z hz => by
      simp only [List.mem_cons, List.not_mem_nil, or_false] at hz
      rcases hz with rfl
      · exact Or.inr ⟨by decide, "java/lang/IndexOutOfBoundsException", cl_RL_13, Z.2.2.2.2.2.2⟩) (by decide) (by decide) cl_RL_24 (List.mem_of_getElem? (i := 21) rfl) (fun qE => ?_)
  refine y_astore Z [(4, .ref qE), (0, .ref (aJ 0)), (1, .int k), (2, .int w), (3, .ref aO)] dL_keyer_17 (by decide) rfl ?_
  refine y_iconst (v := 2) Z dL_keyer_19 (by decide) ?_
  exact y_retI Z hr hlk dL_keyer_20 rfl rfl
set_option maxHeartbeats 4000000 in
set_option maxRecDepth 100000 in
theorem k_L_share (l : Launch) (htr : l.stackTraces = false) (D : va_G) {cI cL : ClassId} {tys : List (ClassId × FieldType)} (ht0 : tys[0]? = some (cI, .int)) (ht1 : tys[1]? = some (cL, .long)) (aJ : Nat → Nat) (J : Nat → Nat → Nat → Int32) (aO : Nat) (O : Nat → Int64) (q : Int32) (sn : Int32)  (h_q : okS q) (sz : Nat) : kW l yL_share cL_share 5 [(0, 10, 13, 13)] { frames := 8, cells := 0, slots := 0, locals := 150 } D tys [.ref (aJ 0), .int q, .int sn, .ref aO] (wVM cI aJ J ++ wOut cL aO O) (wVM cI aJ (vm_pP J) ++ wOut cL aO (vp_updL O 0 (Int32.toInt64 (shF J q sn)))) 0 0 0 sz := by
  refine y_enterW (cc := cL_share) (maxL := 5) (hh := [(0, 10, 13, 13)]) (own := RL) (by decide) rfl (lv0 := [(0, .ref (aJ 0)), (1, .int q), (2, .int sn), (3, .ref aO)]) rfl (Nat.le_of_ble_eq_true rfl) ?_
  intro p e s m args below meth c A Z X hT hr hlk
  refine y_aload_n Z dL_share_0 3 rfl rfl ?_
  refine y_iconst (v := 0) Z dL_share_1 (by decide) ?_
  refine y_aload_n Z dL_share_2 0 rfl rfl ?_
  refine y_iload_n Z dL_share_3 1 rfl rfl ?_
  refine y_iload_n Z dL_share_4 2 rfl rfl ?_
  refine y_VIw (rest := [.int 0, .ref aO]) Z (k_X5_share l D ht0 aJ J q sn h_q) (y_cwV 2 Z ml_RL_59 im_X5_share se_X5_share in_X5 co_X5_share rfl rfl hd_X5_share ⟨Nat.le_of_ble_eq_true rfl, Nat.le_of_ble_eq_true rfl⟩) List.nil (wOut cL aO O) rfl 5 0 rfl rfl rfl rfl (Nat.le_of_ble_eq_true rfl) dL_share_5 ⟨Nat.le_of_ble_eq_true rfl, Nat.le_of_ble_eq_true rfl⟩ (wVM cI aJ (vm_pP J) ++ wOut cL aO O) rfl ?_
  refine y_i2l Z dL_share_8 ?_
  refine y_last Z 27 1 rfl ht1 (vpd (by decide) (by decide)) 0 (by decide) (wVM cI aJ (vm_pP J) ++ wOut cL aO (vp_updL O 0 (Int32.toInt64 (shF J q sn)))) rfl dL_share_9 ?_
  refine y_goto (tgt := 17) Z dL_share_10 (by decide) ?_
  refine y_iconst (v := 0) Z dL_share_17 (by decide) ?_
  exact y_retI Z hr hlk dL_share_18 rfl rfl
set_option maxHeartbeats 4000000 in
set_option maxRecDepth 100000 in
theorem k_L_share_b0 (l : Launch) (htr : l.stackTraces = false) (D : va_G) {cI cL : ClassId} {tys : List (ClassId × FieldType)} (ht0 : tys[0]? = some (cI, .int)) (ht1 : tys[1]? = some (cL, .long)) (aJ : Nat → Nat) (J : Nat → Nat → Nat → Int32) (aO : Nat) (O : Nat → Int64) (q : Int32) (sn : Int32)  (h_bad : ¬ (okS q)) (sz : Nat) : kW l yL_share cL_share 5 [(0, 10, 13, 13)] { frames := 8, cells := 1, slots := 6, locals := 150 } D tys [.ref (aJ 0), .int q, .int sn, .ref aO] (wVM cI aJ J ++ wOut cL aO O) (wVM cI aJ J ++ wOut cL aO O) 1 1 6 sz := by
  refine y_enterW (cc := cL_share) (maxL := 5) (hh := [(0, 10, 13, 13)]) (own := RL) (by decide) rfl (lv0 := [(0, .ref (aJ 0)), (1, .int q), (2, .int sn), (3, .ref aO)]) rfl (Nat.le_of_ble_eq_true rfl) ?_
  intro p e s m args below meth c A Z X hT hr hlk
  refine y_aload_n Z dL_share_0 3 rfl rfl ?_
  refine y_iconst (v := 0) Z dL_share_1 (by decide) ?_
  refine y_aload_n Z dL_share_2 0 rfl rfl ?_
  refine y_iload_n Z dL_share_3 1 rfl rfl ?_
  refine y_iload_n Z dL_share_4 2 rfl rfl ?_
  refine y_VBw (rest := [.int 0, .ref aO]) Z X (k_X5_share_b0 l htr D ht0 aJ J q sn h_bad) (y_cwV 2 Z ml_RL_59 im_X5_share se_X5_share in_X5 co_X5_share rfl rfl hd_X5_share ⟨Nat.le_of_ble_eq_true rfl, Nat.le_of_ble_eq_true rfl⟩) List.nil (wOut cL aO O) rfl 5 0 rfl rfl rfl rfl (Nat.le_of_ble_eq_true rfl) dL_share_5 ⟨Nat.le_of_ble_eq_true rfl, Nat.le_of_ble_eq_true rfl⟩ ?_
  refine y_catch Z hT [] ⟨0, 10, 13, 13⟩ [] rfl (fun z hz => nomatch hz) (by decide) (by decide) cl_RL_13 (List.mem_of_getElem? (i := 19) rfl) (fun qE => ?_)
  refine y_astore Z [(4, .ref qE), (0, .ref (aJ 0)), (1, .int q), (2, .int sn), (3, .ref aO)] dL_share_13 (by decide) rfl ?_
  refine y_iconst (v := 1) Z dL_share_15 (by decide) ?_
  exact y_retI Z hr hlk dL_share_16 rfl rfl
set_option maxHeartbeats 4000000 in
set_option maxRecDepth 100000 in
theorem k_L_tally (l : Launch) (htr : l.stackTraces = false) (D : va_G) {cI cL : ClassId} {tys : List (ClassId × FieldType)} (ht0 : tys[0]? = some (cI, .int)) (ht1 : tys[1]? = some (cL, .long)) (aJ : Nat → Nat) (J : Nat → Nat → Nat → Int32) (aO : Nat) (O : Nat → Int64) (q : Int32)  (h_q : okS q) (sz : Nat) : kW l yL_tally cL_tally 4 [(0, 9, 12, 13)] { frames := 8, cells := 0, slots := 0, locals := 150 } D tys [.ref (aJ 0), .int q, .ref aO] (wVM cI aJ J ++ wOut cL aO O) (wVM cI aJ (vm_tal J) ++ wOut cL aO (vp_updL O 0 (Int32.toInt64 (tpF (vm_tal J) q)))) 0 0 0 sz := by
  refine y_enterW (cc := cL_tally) (maxL := 4) (hh := [(0, 9, 12, 13)]) (own := RL) (by decide) rfl (lv0 := [(0, .ref (aJ 0)), (1, .int q), (2, .ref aO)]) rfl (Nat.le_of_ble_eq_true rfl) ?_
  intro p e s m args below meth c A Z X hT hr hlk
  refine y_aload_n Z dL_tally_0 2 rfl rfl ?_
  refine y_iconst (v := 0) Z dL_tally_1 (by decide) ?_
  refine y_aload_n Z dL_tally_2 0 rfl rfl ?_
  refine y_iload_n Z dL_tally_3 1 rfl rfl ?_
  refine y_VIw (rest := [.int 0, .ref aO]) Z (k_X5_tally l D ht0 aJ J q h_q) (y_cwV 1 Z ml_RL_62 im_X5_tally se_X5_tally in_X5 co_X5_tally rfl rfl hd_X5_tally ⟨Nat.le_of_ble_eq_true rfl, Nat.le_of_ble_eq_true rfl⟩) List.nil (wOut cL aO O) rfl 5 0 rfl rfl rfl rfl (Nat.le_of_ble_eq_true rfl) dL_tally_4 ⟨Nat.le_of_ble_eq_true rfl, Nat.le_of_ble_eq_true rfl⟩ (wVM cI aJ (vm_tal J) ++ wOut cL aO O) rfl ?_
  refine y_i2l Z dL_tally_7 ?_
  refine y_last Z 27 1 rfl ht1 (vpd (by decide) (by decide)) 0 (by decide) (wVM cI aJ (vm_tal J) ++ wOut cL aO (vp_updL O 0 (Int32.toInt64 (tpF (vm_tal J) q)))) rfl dL_tally_8 ?_
  refine y_goto (tgt := 15) Z dL_tally_9 (by decide) ?_
  refine y_iconst (v := 0) Z dL_tally_15 (by decide) ?_
  exact y_retI Z hr hlk dL_tally_16 rfl rfl
set_option maxHeartbeats 4000000 in
set_option maxRecDepth 100000 in
theorem k_L_tally_b0 (l : Launch) (htr : l.stackTraces = false) (D : va_G) {cI cL : ClassId} {tys : List (ClassId × FieldType)} (ht0 : tys[0]? = some (cI, .int)) (ht1 : tys[1]? = some (cL, .long)) (aJ : Nat → Nat) (J : Nat → Nat → Nat → Int32) (aO : Nat) (O : Nat → Int64) (q : Int32)  (h_bad : ¬ (okS q)) (sz : Nat) : kW l yL_tally cL_tally 4 [(0, 9, 12, 13)] { frames := 8, cells := 1, slots := 6, locals := 150 } D tys [.ref (aJ 0), .int q, .ref aO] (wVM cI aJ J ++ wOut cL aO O) (wVM cI aJ J ++ wOut cL aO O) 1 1 6 sz := by
  refine y_enterW (cc := cL_tally) (maxL := 4) (hh := [(0, 9, 12, 13)]) (own := RL) (by decide) rfl (lv0 := [(0, .ref (aJ 0)), (1, .int q), (2, .ref aO)]) rfl (Nat.le_of_ble_eq_true rfl) ?_
  intro p e s m args below meth c A Z X hT hr hlk
  refine y_aload_n Z dL_tally_0 2 rfl rfl ?_
  refine y_iconst (v := 0) Z dL_tally_1 (by decide) ?_
  refine y_aload_n Z dL_tally_2 0 rfl rfl ?_
  refine y_iload_n Z dL_tally_3 1 rfl rfl ?_
  refine y_VBw (rest := [.int 0, .ref aO]) Z X (k_X5_tally_b0 l htr D ht0 aJ J q h_bad) (y_cwV 1 Z ml_RL_62 im_X5_tally se_X5_tally in_X5 co_X5_tally rfl rfl hd_X5_tally ⟨Nat.le_of_ble_eq_true rfl, Nat.le_of_ble_eq_true rfl⟩) List.nil (wOut cL aO O) rfl 5 0 rfl rfl rfl rfl (Nat.le_of_ble_eq_true rfl) dL_tally_4 ⟨Nat.le_of_ble_eq_true rfl, Nat.le_of_ble_eq_true rfl⟩ ?_
  refine y_catch Z hT [] ⟨0, 9, 12, 13⟩ [] rfl (fun z hz => nomatch hz) (by decide) (by decide) cl_RL_13 (List.mem_of_getElem? (i := 19) rfl) (fun qE => ?_)
  refine y_astore_n Z [(3, .ref qE), (0, .ref (aJ 0)), (1, .int q), (2, .ref aO)] dL_tally_12 rfl (by decide) rfl ?_
  refine y_iconst (v := 1) Z dL_tally_13 (by decide) ?_
  exact y_retI Z hr hlk dL_tally_14 rfl rfl
set_option maxHeartbeats 4000000 in
set_option maxRecDepth 100000 in
theorem k_L_settingAt (l : Launch) (htr : l.stackTraces = false) (D : va_G) {cI cL : ClassId} {tys : List (ClassId × FieldType)} (ht0 : tys[0]? = some (cI, .int)) (ht1 : tys[1]? = some (cL, .long)) (aJ : Nat → Nat) (J : Nat → Nat → Nat → Int32) (aO : Nat) (O : Nat → Int64) (t : Int32) (w : Int32) (h_n : J 3 0 0 ≤ 100) (h_t : okT J t) (h_w : okR w 0 6) (sz : Nat) : kW l yL_settingAt cL_settingAt 5 [(0, 10, 13, 13), (0, 10, 17, 24)] { frames := 8, cells := 0, slots := 0, locals := 178 } D tys [.ref (aJ 0), .int t, .int w, .ref aO] (wVM cI aJ J ++ wOut cL aO O) (wVM cI aJ (vm_replay J t (-1)) ++ wOut cL aO (vp_updL O 0 (Int32.toInt64 (tellF (vm_replay J t (-1) 4) w)))) 0 0 0 sz := by
  refine y_enterW (cc := cL_settingAt) (maxL := 5) (hh := [(0, 10, 13, 13), (0, 10, 17, 24)]) (own := RL) (by decide) rfl (lv0 := [(0, .ref (aJ 0)), (1, .int t), (2, .int w), (3, .ref aO)]) rfl (Nat.le_of_ble_eq_true rfl) ?_
  intro p e s m args below meth c A Z X hT hr hlk
  refine y_aload_n Z dL_settingAt_0 3 rfl rfl ?_
  refine y_iconst (v := 0) Z dL_settingAt_1 (by decide) ?_
  refine y_aload_n Z dL_settingAt_2 0 rfl rfl ?_
  refine y_iload_n Z dL_settingAt_3 1 rfl rfl ?_
  refine y_iload_n Z dL_settingAt_4 2 rfl rfl ?_
  refine y_VIw (rest := [.int 0, .ref aO]) Z (k_X5_settingAt l D ht0 aJ J t w h_n h_t h_w) (y_cwV 2 Z ml_RL_65 im_X5_settingAt se_X5_settingAt in_X5 co_X5_settingAt rfl rfl hd_X5_settingAt ⟨Nat.le_of_ble_eq_true rfl, Nat.le_of_ble_eq_true rfl⟩) List.nil (wOut cL aO O) rfl 5 0 rfl rfl rfl rfl (Nat.le_of_ble_eq_true rfl) dL_settingAt_5 ⟨Nat.le_of_ble_eq_true rfl, Nat.le_of_ble_eq_true rfl⟩ (wVM cI aJ (vm_replay J t (-1)) ++ wOut cL aO O) rfl ?_
  refine y_i2l Z dL_settingAt_8 ?_
  refine y_last Z 27 1 rfl ht1 (vpd (by decide) (by decide)) 0 (by decide) (wVM cI aJ (vm_replay J t (-1)) ++ wOut cL aO (vp_updL O 0 (Int32.toInt64 (tellF (vm_replay J t (-1) 4) w)))) rfl dL_settingAt_9 ?_
  refine y_goto (tgt := 21) Z dL_settingAt_10 (by decide) ?_
  refine y_iconst (v := 0) Z dL_settingAt_21 (by decide) ?_
  exact y_retI Z hr hlk dL_settingAt_22 rfl rfl
set_option maxHeartbeats 4000000 in
set_option maxRecDepth 100000 in
theorem k_L_settingAt_b0 (l : Launch) (htr : l.stackTraces = false) (D : va_G) {cI cL : ClassId} {tys : List (ClassId × FieldType)} (ht0 : tys[0]? = some (cI, .int)) (ht1 : tys[1]? = some (cL, .long)) (aJ : Nat → Nat) (J : Nat → Nat → Nat → Int32) (aO : Nat) (O : Nat → Int64) (t : Int32) (w : Int32)  (h_bad : ¬ (okT J t)) (sz : Nat) : kW l yL_settingAt cL_settingAt 5 [(0, 10, 13, 13), (0, 10, 17, 24)] { frames := 8, cells := 1, slots := 6, locals := 178 } D tys [.ref (aJ 0), .int t, .int w, .ref aO] (wVM cI aJ J ++ wOut cL aO O) (wVM cI aJ J ++ wOut cL aO O) 1 1 6 sz := by
  refine y_enterW (cc := cL_settingAt) (maxL := 5) (hh := [(0, 10, 13, 13), (0, 10, 17, 24)]) (own := RL) (by decide) rfl (lv0 := [(0, .ref (aJ 0)), (1, .int t), (2, .int w), (3, .ref aO)]) rfl (Nat.le_of_ble_eq_true rfl) ?_
  intro p e s m args below meth c A Z X hT hr hlk
  refine y_aload_n Z dL_settingAt_0 3 rfl rfl ?_
  refine y_iconst (v := 0) Z dL_settingAt_1 (by decide) ?_
  refine y_aload_n Z dL_settingAt_2 0 rfl rfl ?_
  refine y_iload_n Z dL_settingAt_3 1 rfl rfl ?_
  refine y_iload_n Z dL_settingAt_4 2 rfl rfl ?_
  refine y_VBw (rest := [.int 0, .ref aO]) Z X (k_X5_settingAt_b0 l htr D ht0 aJ J t w h_bad) (y_cwV 2 Z ml_RL_65 im_X5_settingAt se_X5_settingAt in_X5 co_X5_settingAt rfl rfl hd_X5_settingAt ⟨Nat.le_of_ble_eq_true rfl, Nat.le_of_ble_eq_true rfl⟩) List.nil (wOut cL aO O) rfl 5 0 rfl rfl rfl rfl (Nat.le_of_ble_eq_true rfl) dL_settingAt_5 ⟨Nat.le_of_ble_eq_true rfl, Nat.le_of_ble_eq_true rfl⟩ ?_
  refine y_catch Z hT [] ⟨0, 10, 13, 13⟩ [⟨0, 10, 17, 24⟩] rfl (fun z hz => nomatch hz) (by decide) (by decide) cl_RL_13 (List.mem_of_getElem? (i := 19) rfl) (fun qE => ?_)
  refine y_astore Z [(4, .ref qE), (0, .ref (aJ 0)), (1, .int t), (2, .int w), (3, .ref aO)] dL_settingAt_13 (by decide) rfl ?_
  refine y_iconst (v := 1) Z dL_settingAt_15 (by decide) ?_
  exact y_retI Z hr hlk dL_settingAt_16 rfl rfl
set_option maxHeartbeats 4000000 in
set_option maxRecDepth 100000 in
theorem k_L_settingAt_b1 (l : Launch) (htr : l.stackTraces = false) (D : va_G) {cI cL : ClassId} {tys : List (ClassId × FieldType)} (ht0 : tys[0]? = some (cI, .int)) (ht1 : tys[1]? = some (cL, .long)) (aJ : Nat → Nat) (J : Nat → Nat → Nat → Int32) (aO : Nat) (O : Nat → Int64) (t : Int32) (w : Int32) (h_t : okT J t) (h_bad : ¬ (okR w 0 6)) (sz : Nat) : kW l yL_settingAt cL_settingAt 5 [(0, 10, 13, 13), (0, 10, 17, 24)] { frames := 8, cells := 1, slots := 6, locals := 178 } D tys [.ref (aJ 0), .int t, .int w, .ref aO] (wVM cI aJ J ++ wOut cL aO O) (wVM cI aJ J ++ wOut cL aO O) 2 1 6 sz := by
  refine y_enterW (cc := cL_settingAt) (maxL := 5) (hh := [(0, 10, 13, 13), (0, 10, 17, 24)]) (own := RL) (by decide) rfl (lv0 := [(0, .ref (aJ 0)), (1, .int t), (2, .int w), (3, .ref aO)]) rfl (Nat.le_of_ble_eq_true rfl) ?_
  intro p e s m args below meth c A Z X hT hr hlk
  refine y_aload_n Z dL_settingAt_0 3 rfl rfl ?_
  refine y_iconst (v := 0) Z dL_settingAt_1 (by decide) ?_
  refine y_aload_n Z dL_settingAt_2 0 rfl rfl ?_
  refine y_iload_n Z dL_settingAt_3 1 rfl rfl ?_
  refine y_iload_n Z dL_settingAt_4 2 rfl rfl ?_
  refine y_VBw (rest := [.int 0, .ref aO]) Z X (k_X5_settingAt_b1 l htr D ht0 aJ J t w h_t h_bad) (y_cwV 2 Z ml_RL_65 im_X5_settingAt se_X5_settingAt in_X5 co_X5_settingAt rfl rfl hd_X5_settingAt ⟨Nat.le_of_ble_eq_true rfl, Nat.le_of_ble_eq_true rfl⟩) List.nil (wOut cL aO O) rfl 5 0 rfl rfl rfl rfl (Nat.le_of_ble_eq_true rfl) dL_settingAt_5 ⟨Nat.le_of_ble_eq_true rfl, Nat.le_of_ble_eq_true rfl⟩ ?_
  refine y_catch Z hT [⟨0, 10, 13, 13⟩] ⟨0, 10, 17, 24⟩ [] rfl (fun z hz => by
      simp only [List.mem_cons, List.not_mem_nil, or_false] at hz
      rcases hz with rfl
      · exact Or.inr ⟨by decide, "java/lang/IndexOutOfBoundsException", cl_RL_13, Z.2.2.2.2.2.2⟩) (by decide) (by decide) cl_RL_24 (List.mem_of_getElem? (i := 21) rfl) (fun qE => ?_)
  refine y_astore Z [(4, .ref qE), (0, .ref (aJ 0)), (1, .int t), (2, .int w), (3, .ref aO)] dL_settingAt_17 (by decide) rfl ?_
  refine y_iconst (v := 2) Z dL_settingAt_19 (by decide) ?_
  exact y_retI Z hr hlk dL_settingAt_20 rfl rfl
set_option maxHeartbeats 4000000 in
set_option maxRecDepth 100000 in
theorem k_L_shareAt (l : Launch) (htr : l.stackTraces = false) (D : va_G) {cI cL : ClassId} {tys : List (ClassId × FieldType)} (ht0 : tys[0]? = some (cI, .int)) (ht1 : tys[1]? = some (cL, .long)) (aJ : Nat → Nat) (J : Nat → Nat → Nat → Int32) (aO : Nat) (O : Nat → Int64) (t : Int32) (q : Int32) (h_n : J 3 0 0 ≤ 100) (h_t : okT J t) (h_q : okS q) (sz : Nat) : kW l yL_shareAt cL_shareAt 5 [(0, 10, 13, 13)] { frames := 8, cells := 0, slots := 0, locals := 178 } D tys [.ref (aJ 0), .int t, .int q, .ref aO] (wVM cI aJ J ++ wOut cL aO O) (wVM cI aJ (vm_rp J t (-1)) ++ wOut cL aO (vp_updL O 0 (Int32.toInt64 (cellF (vm_rp J t (-1) 6 1) 10 q)))) 0 0 0 sz := by
  refine y_enterW (cc := cL_shareAt) (maxL := 5) (hh := [(0, 10, 13, 13)]) (own := RL) (by decide) rfl (lv0 := [(0, .ref (aJ 0)), (1, .int t), (2, .int q), (3, .ref aO)]) rfl (Nat.le_of_ble_eq_true rfl) ?_
  intro p e s m args below meth c A Z X hT hr hlk
  refine y_aload_n Z dL_shareAt_0 3 rfl rfl ?_
  refine y_iconst (v := 0) Z dL_shareAt_1 (by decide) ?_
  refine y_aload_n Z dL_shareAt_2 0 rfl rfl ?_
  refine y_iload_n Z dL_shareAt_3 1 rfl rfl ?_
  refine y_iload_n Z dL_shareAt_4 2 rfl rfl ?_
  refine y_VIw (rest := [.int 0, .ref aO]) Z (k_X5_shareAt l D ht0 aJ J t q h_n h_t h_q) (y_cwV 2 Z ml_RL_68 im_X5_shareAt se_X5_shareAt in_X5 co_X5_shareAt rfl rfl hd_X5_shareAt ⟨Nat.le_of_ble_eq_true rfl, Nat.le_of_ble_eq_true rfl⟩) List.nil (wOut cL aO O) rfl 5 0 rfl rfl rfl rfl (Nat.le_of_ble_eq_true rfl) dL_shareAt_5 ⟨Nat.le_of_ble_eq_true rfl, Nat.le_of_ble_eq_true rfl⟩ (wVM cI aJ (vm_rp J t (-1)) ++ wOut cL aO O) rfl ?_
  refine y_i2l Z dL_shareAt_8 ?_
  refine y_last Z 27 1 rfl ht1 (vpd (by decide) (by decide)) 0 (by decide) (wVM cI aJ (vm_rp J t (-1)) ++ wOut cL aO (vp_updL O 0 (Int32.toInt64 (cellF (vm_rp J t (-1) 6 1) 10 q)))) rfl dL_shareAt_9 ?_
  refine y_goto (tgt := 17) Z dL_shareAt_10 (by decide) ?_
  refine y_iconst (v := 0) Z dL_shareAt_17 (by decide) ?_
  exact y_retI Z hr hlk dL_shareAt_18 rfl rfl
set_option maxHeartbeats 4000000 in
set_option maxRecDepth 100000 in
theorem k_L_shareAt_b0 (l : Launch) (htr : l.stackTraces = false) (D : va_G) {cI cL : ClassId} {tys : List (ClassId × FieldType)} (ht0 : tys[0]? = some (cI, .int)) (ht1 : tys[1]? = some (cL, .long)) (aJ : Nat → Nat) (J : Nat → Nat → Nat → Int32) (aO : Nat) (O : Nat → Int64) (t : Int32) (q : Int32)  (h_bad : ¬ (okT J t)) (sz : Nat) : kW l yL_shareAt cL_shareAt 5 [(0, 10, 13, 13)] { frames := 8, cells := 1, slots := 6, locals := 178 } D tys [.ref (aJ 0), .int t, .int q, .ref aO] (wVM cI aJ J ++ wOut cL aO O) (wVM cI aJ J ++ wOut cL aO O) 1 1 6 sz := by
  refine y_enterW (cc := cL_shareAt) (maxL := 5) (hh := [(0, 10, 13, 13)]) (own := RL) (by decide) rfl (lv0 := [(0, .ref (aJ 0)), (1, .int t), (2, .int q), (3, .ref aO)]) rfl (Nat.le_of_ble_eq_true rfl) ?_
  intro p e s m args below meth c A Z X hT hr hlk
  refine y_aload_n Z dL_shareAt_0 3 rfl rfl ?_
  refine y_iconst (v := 0) Z dL_shareAt_1 (by decide) ?_
  refine y_aload_n Z dL_shareAt_2 0 rfl rfl ?_
  refine y_iload_n Z dL_shareAt_3 1 rfl rfl ?_
  refine y_iload_n Z dL_shareAt_4 2 rfl rfl ?_
  refine y_VBw (rest := [.int 0, .ref aO]) Z X (k_X5_shareAt_b0 l htr D ht0 aJ J t q h_bad) (y_cwV 2 Z ml_RL_68 im_X5_shareAt se_X5_shareAt in_X5 co_X5_shareAt rfl rfl hd_X5_shareAt ⟨Nat.le_of_ble_eq_true rfl, Nat.le_of_ble_eq_true rfl⟩) List.nil (wOut cL aO O) rfl 5 0 rfl rfl rfl rfl (Nat.le_of_ble_eq_true rfl) dL_shareAt_5 ⟨Nat.le_of_ble_eq_true rfl, Nat.le_of_ble_eq_true rfl⟩ ?_
  refine y_catch Z hT [] ⟨0, 10, 13, 13⟩ [] rfl (fun z hz => nomatch hz) (by decide) (by decide) cl_RL_13 (List.mem_of_getElem? (i := 19) rfl) (fun qE => ?_)
  refine y_astore Z [(4, .ref qE), (0, .ref (aJ 0)), (1, .int t), (2, .int q), (3, .ref aO)] dL_shareAt_13 (by decide) rfl ?_
  refine y_iconst (v := 1) Z dL_shareAt_15 (by decide) ?_
  exact y_retI Z hr hlk dL_shareAt_16 rfl rfl
set_option maxHeartbeats 4000000 in
set_option maxRecDepth 100000 in
theorem k_L_shareAt_b1 (l : Launch) (htr : l.stackTraces = false) (D : va_G) {cI cL : ClassId} {tys : List (ClassId × FieldType)} (ht0 : tys[0]? = some (cI, .int)) (ht1 : tys[1]? = some (cL, .long)) (aJ : Nat → Nat) (J : Nat → Nat → Nat → Int32) (aO : Nat) (O : Nat → Int64) (t : Int32) (q : Int32) (h_t : okT J t) (h_bad : ¬ (okS q)) (sz : Nat) : kW l yL_shareAt cL_shareAt 5 [(0, 10, 13, 13)] { frames := 8, cells := 1, slots := 6, locals := 178 } D tys [.ref (aJ 0), .int t, .int q, .ref aO] (wVM cI aJ J ++ wOut cL aO O) (wVM cI aJ J ++ wOut cL aO O) 1 1 6 sz := by
  refine y_enterW (cc := cL_shareAt) (maxL := 5) (hh := [(0, 10, 13, 13)]) (own := RL) (by decide) rfl (lv0 := [(0, .ref (aJ 0)), (1, .int t), (2, .int q), (3, .ref aO)]) rfl (Nat.le_of_ble_eq_true rfl) ?_
  intro p e s m args below meth c A Z X hT hr hlk
  refine y_aload_n Z dL_shareAt_0 3 rfl rfl ?_
  refine y_iconst (v := 0) Z dL_shareAt_1 (by decide) ?_
  refine y_aload_n Z dL_shareAt_2 0 rfl rfl ?_
  refine y_iload_n Z dL_shareAt_3 1 rfl rfl ?_
  refine y_iload_n Z dL_shareAt_4 2 rfl rfl ?_
  refine y_VBw (rest := [.int 0, .ref aO]) Z X (k_X5_shareAt_b1 l htr D ht0 aJ J t q h_t h_bad) (y_cwV 2 Z ml_RL_68 im_X5_shareAt se_X5_shareAt in_X5 co_X5_shareAt rfl rfl hd_X5_shareAt ⟨Nat.le_of_ble_eq_true rfl, Nat.le_of_ble_eq_true rfl⟩) List.nil (wOut cL aO O) rfl 5 0 rfl rfl rfl rfl (Nat.le_of_ble_eq_true rfl) dL_shareAt_5 ⟨Nat.le_of_ble_eq_true rfl, Nat.le_of_ble_eq_true rfl⟩ ?_
  refine y_catch Z hT [] ⟨0, 10, 13, 13⟩ [] rfl (fun z hz => nomatch hz) (by decide) (by decide) cl_RL_13 (List.mem_of_getElem? (i := 19) rfl) (fun qE => ?_)
  refine y_astore Z [(4, .ref qE), (0, .ref (aJ 0)), (1, .int t), (2, .int q), (3, .ref aO)] dL_shareAt_13 (by decide) rfl ?_
  refine y_iconst (v := 1) Z dL_shareAt_15 (by decide) ?_
  exact y_retI Z hr hlk dL_shareAt_16 rfl rfl
set_option maxHeartbeats 4000000 in
set_option maxRecDepth 100000 in
theorem k_L_timesRed (l : Launch) (htr : l.stackTraces = false) (D : va_G) {cI cL : ClassId} {tys : List (ClassId × FieldType)} (ht0 : tys[0]? = some (cI, .int)) (ht1 : tys[1]? = some (cL, .long)) (aJ : Nat → Nat) (J : Nat → Nat → Nat → Int32) (aO : Nat) (O : Nat → Int64) (q : Int32) (h_n : J 3 0 0 ≤ 100) (h_stop : trC J (trX J q) = false) (h_q : okS q) (sz : Nat) : kW l yL_timesRed cL_timesRed 4 [(0, 9, 12, 13)] { frames := 8, cells := 0, slots := 0, locals := 180 } D tys [.ref (aJ 0), .int q, .ref aO] (wVM cI aJ J ++ wOut cL aO O) (wVM cI aJ (vm_46 J (trX J q).1 (trX J q).2.1) ++ wOut cL aO (vp_updL O 0 (Int32.toInt64 ((trX J q).2.2.1)))) 0 0 0 sz := by
  refine y_enterW (cc := cL_timesRed) (maxL := 4) (hh := [(0, 9, 12, 13)]) (own := RL) (by decide) rfl (lv0 := [(0, .ref (aJ 0)), (1, .int q), (2, .ref aO)]) rfl (Nat.le_of_ble_eq_true rfl) ?_
  intro p e s m args below meth c A Z X hT hr hlk
  refine y_aload_n Z dL_timesRed_0 2 rfl rfl ?_
  refine y_iconst (v := 0) Z dL_timesRed_1 (by decide) ?_
  refine y_aload_n Z dL_timesRed_2 0 rfl rfl ?_
  refine y_iload_n Z dL_timesRed_3 1 rfl rfl ?_
  refine y_VIw (rest := [.int 0, .ref aO]) Z (k_X5_timesRed l D ht0 aJ J q h_n h_stop h_q) (y_cwV 1 Z ml_RL_71 im_X5_timesRed se_X5_timesRed in_X5 co_X5_timesRed rfl rfl hd_X5_timesRed ⟨Nat.le_of_ble_eq_true rfl, Nat.le_of_ble_eq_true rfl⟩) List.nil (wOut cL aO O) rfl 5 0 rfl rfl rfl rfl (Nat.le_of_ble_eq_true rfl) dL_timesRed_4 ⟨Nat.le_of_ble_eq_true rfl, Nat.le_of_ble_eq_true rfl⟩ (wVM cI aJ (vm_46 J (trX J q).1 (trX J q).2.1) ++ wOut cL aO O) rfl ?_
  refine y_i2l Z dL_timesRed_7 ?_
  refine y_last Z 27 1 rfl ht1 (vpd (by decide) (by decide)) 0 (by decide) (wVM cI aJ (vm_46 J (trX J q).1 (trX J q).2.1) ++ wOut cL aO (vp_updL O 0 (Int32.toInt64 ((trX J q).2.2.1)))) rfl dL_timesRed_8 ?_
  refine y_goto (tgt := 15) Z dL_timesRed_9 (by decide) ?_
  refine y_iconst (v := 0) Z dL_timesRed_15 (by decide) ?_
  exact y_retI Z hr hlk dL_timesRed_16 rfl rfl
set_option maxHeartbeats 4000000 in
set_option maxRecDepth 100000 in
theorem k_L_timesRed_b0 (l : Launch) (htr : l.stackTraces = false) (D : va_G) {cI cL : ClassId} {tys : List (ClassId × FieldType)} (ht0 : tys[0]? = some (cI, .int)) (ht1 : tys[1]? = some (cL, .long)) (aJ : Nat → Nat) (J : Nat → Nat → Nat → Int32) (aO : Nat) (O : Nat → Int64) (q : Int32)  (h_bad : ¬ (okS q)) (sz : Nat) : kW l yL_timesRed cL_timesRed 4 [(0, 9, 12, 13)] { frames := 8, cells := 1, slots := 6, locals := 180 } D tys [.ref (aJ 0), .int q, .ref aO] (wVM cI aJ J ++ wOut cL aO O) (wVM cI aJ J ++ wOut cL aO O) 1 1 6 sz := by
  refine y_enterW (cc := cL_timesRed) (maxL := 4) (hh := [(0, 9, 12, 13)]) (own := RL) (by decide) rfl (lv0 := [(0, .ref (aJ 0)), (1, .int q), (2, .ref aO)]) rfl (Nat.le_of_ble_eq_true rfl) ?_
  intro p e s m args below meth c A Z X hT hr hlk
  refine y_aload_n Z dL_timesRed_0 2 rfl rfl ?_
  refine y_iconst (v := 0) Z dL_timesRed_1 (by decide) ?_
  refine y_aload_n Z dL_timesRed_2 0 rfl rfl ?_
  refine y_iload_n Z dL_timesRed_3 1 rfl rfl ?_
  refine y_VBw (rest := [.int 0, .ref aO]) Z X (k_X5_timesRed_b0 l htr D ht0 aJ J q h_bad) (y_cwV 1 Z ml_RL_71 im_X5_timesRed se_X5_timesRed in_X5 co_X5_timesRed rfl rfl hd_X5_timesRed ⟨Nat.le_of_ble_eq_true rfl, Nat.le_of_ble_eq_true rfl⟩) List.nil (wOut cL aO O) rfl 5 0 rfl rfl rfl rfl (Nat.le_of_ble_eq_true rfl) dL_timesRed_4 ⟨Nat.le_of_ble_eq_true rfl, Nat.le_of_ble_eq_true rfl⟩ ?_
  refine y_catch Z hT [] ⟨0, 9, 12, 13⟩ [] rfl (fun z hz => nomatch hz) (by decide) (by decide) cl_RL_13 (List.mem_of_getElem? (i := 19) rfl) (fun qE => ?_)
  refine y_astore_n Z [(3, .ref qE), (0, .ref (aJ 0)), (1, .int q), (2, .ref aO)] dL_timesRed_12 rfl (by decide) rfl ?_
  refine y_iconst (v := 1) Z dL_timesRed_13 (by decide) ?_
  exact y_retI Z hr hlk dL_timesRed_14 rfl rfl
set_option maxHeartbeats 4000000 in
set_option maxRecDepth 100000 in
theorem k_L_firstRed (l : Launch) (htr : l.stackTraces = false) (D : va_G) {cI cL : ClassId} {tys : List (ClassId × FieldType)} (ht0 : tys[0]? = some (cI, .int)) (ht1 : tys[1]? = some (cL, .long)) (aJ : Nat → Nat) (J : Nat → Nat → Nat → Int32) (aO : Nat) (O : Nat → Int64) (q : Int32) (h_n : J 3 0 0 ≤ 100) (h_stop : frC J q (frX J q) = false) (h_q : okS q) (sz : Nat) : kW l yL_firstRed cL_firstRed 4 [(0, 9, 12, 13)] { frames := 8, cells := 0, slots := 0, locals := 178 } D tys [.ref (aJ 0), .int q, .ref aO] (wVM cI aJ J ++ wOut cL aO O) (wVM cI aJ (vm_fr J q) ++ wOut cL aO (vp_updL O 0 (Int32.toInt64 (frR J q)))) 0 0 0 sz := by
  refine y_enterW (cc := cL_firstRed) (maxL := 4) (hh := [(0, 9, 12, 13)]) (own := RL) (by decide) rfl (lv0 := [(0, .ref (aJ 0)), (1, .int q), (2, .ref aO)]) rfl (Nat.le_of_ble_eq_true rfl) ?_
  intro p e s m args below meth c A Z X hT hr hlk
  refine y_aload_n Z dL_firstRed_0 2 rfl rfl ?_
  refine y_iconst (v := 0) Z dL_firstRed_1 (by decide) ?_
  refine y_aload_n Z dL_firstRed_2 0 rfl rfl ?_
  refine y_iload_n Z dL_firstRed_3 1 rfl rfl ?_
  refine y_VIw (rest := [.int 0, .ref aO]) Z (k_X5_firstRed l D ht0 aJ J q h_n h_stop h_q) (y_cwV 1 Z ml_RL_74 im_X5_firstRed se_X5_firstRed in_X5 co_X5_firstRed rfl rfl hd_X5_firstRed ⟨Nat.le_of_ble_eq_true rfl, Nat.le_of_ble_eq_true rfl⟩) List.nil (wOut cL aO O) rfl 5 0 rfl rfl rfl rfl (Nat.le_of_ble_eq_true rfl) dL_firstRed_4 ⟨Nat.le_of_ble_eq_true rfl, Nat.le_of_ble_eq_true rfl⟩ (wVM cI aJ (vm_fr J q) ++ wOut cL aO O) rfl ?_
  refine y_i2l Z dL_firstRed_7 ?_
  refine y_last Z 27 1 rfl ht1 (vpd (by decide) (by decide)) 0 (by decide) (wVM cI aJ (vm_fr J q) ++ wOut cL aO (vp_updL O 0 (Int32.toInt64 (frR J q)))) rfl dL_firstRed_8 ?_
  refine y_goto (tgt := 15) Z dL_firstRed_9 (by decide) ?_
  refine y_iconst (v := 0) Z dL_firstRed_15 (by decide) ?_
  exact y_retI Z hr hlk dL_firstRed_16 rfl rfl
set_option maxHeartbeats 4000000 in
set_option maxRecDepth 100000 in
theorem k_L_firstRed_b0 (l : Launch) (htr : l.stackTraces = false) (D : va_G) {cI cL : ClassId} {tys : List (ClassId × FieldType)} (ht0 : tys[0]? = some (cI, .int)) (ht1 : tys[1]? = some (cL, .long)) (aJ : Nat → Nat) (J : Nat → Nat → Nat → Int32) (aO : Nat) (O : Nat → Int64) (q : Int32)  (h_bad : ¬ (okS q)) (sz : Nat) : kW l yL_firstRed cL_firstRed 4 [(0, 9, 12, 13)] { frames := 8, cells := 1, slots := 6, locals := 178 } D tys [.ref (aJ 0), .int q, .ref aO] (wVM cI aJ J ++ wOut cL aO O) (wVM cI aJ J ++ wOut cL aO O) 1 1 6 sz := by
  refine y_enterW (cc := cL_firstRed) (maxL := 4) (hh := [(0, 9, 12, 13)]) (own := RL) (by decide) rfl (lv0 := [(0, .ref (aJ 0)), (1, .int q), (2, .ref aO)]) rfl (Nat.le_of_ble_eq_true rfl) ?_
  intro p e s m args below meth c A Z X hT hr hlk
  refine y_aload_n Z dL_firstRed_0 2 rfl rfl ?_
  refine y_iconst (v := 0) Z dL_firstRed_1 (by decide) ?_
  refine y_aload_n Z dL_firstRed_2 0 rfl rfl ?_
  refine y_iload_n Z dL_firstRed_3 1 rfl rfl ?_
  refine y_VBw (rest := [.int 0, .ref aO]) Z X (k_X5_firstRed_b0 l htr D ht0 aJ J q h_bad) (y_cwV 1 Z ml_RL_74 im_X5_firstRed se_X5_firstRed in_X5 co_X5_firstRed rfl rfl hd_X5_firstRed ⟨Nat.le_of_ble_eq_true rfl, Nat.le_of_ble_eq_true rfl⟩) List.nil (wOut cL aO O) rfl 5 0 rfl rfl rfl rfl (Nat.le_of_ble_eq_true rfl) dL_firstRed_4 ⟨Nat.le_of_ble_eq_true rfl, Nat.le_of_ble_eq_true rfl⟩ ?_
  refine y_catch Z hT [] ⟨0, 9, 12, 13⟩ [] rfl (fun z hz => nomatch hz) (by decide) (by decide) cl_RL_13 (List.mem_of_getElem? (i := 19) rfl) (fun qE => ?_)
  refine y_astore_n Z [(3, .ref qE), (0, .ref (aJ 0)), (1, .int q), (2, .ref aO)] dL_firstRed_12 rfl (by decide) rfl ?_
  refine y_iconst (v := 1) Z dL_firstRed_13 (by decide) ?_
  exact y_retI Z hr hlk dL_firstRed_14 rfl rfl
set_option maxHeartbeats 4000000 in
set_option maxRecDepth 100000 in
theorem k_L_act (l : Launch) (htr : l.stackTraces = false) (D : va_G) {cI cL : ClassId} {tys : List (ClassId × FieldType)} (ht0 : tys[0]? = some (cI, .int)) (ht1 : tys[1]? = some (cL, .long)) (aJ : Nat → Nat) (J : Nat → Nat → Nat → Int32) (aO : Nat) (O : Nat → Int64) (a : Int32) (w : Int32)  (h_a : okA J a) (h_w : okR w 0 3) (sz : Nat) : kW l yL_act cL_act 5 [(0, 10, 13, 13), (0, 10, 17, 24)] { frames := 8, cells := 0, slots := 0, locals := 150 } D tys [.ref (aJ 0), .int a, .int w, .ref aO] (wVM cI aJ J ++ wOut cL aO O) (wVM cI aJ J ++ wOut cL aO (vp_updL O 0 (Int32.toInt64 (lgT (J 3) a w)))) 0 0 0 sz := by
  refine y_enterW (cc := cL_act) (maxL := 5) (hh := [(0, 10, 13, 13), (0, 10, 17, 24)]) (own := RL) (by decide) rfl (lv0 := [(0, .ref (aJ 0)), (1, .int a), (2, .int w), (3, .ref aO)]) rfl (Nat.le_of_ble_eq_true rfl) ?_
  intro p e s m args below meth c A Z X hT hr hlk
  refine y_aload_n Z dL_act_0 3 rfl rfl ?_
  refine y_iconst (v := 0) Z dL_act_1 (by decide) ?_
  refine y_aload_n Z dL_act_2 0 rfl rfl ?_
  refine y_iload_n Z dL_act_3 1 rfl rfl ?_
  refine y_iload_n Z dL_act_4 2 rfl rfl ?_
  refine y_VIw (rest := [.int 0, .ref aO]) Z (k_X5_act l D ht0 aJ J a w h_a h_w) (y_cwV 2 Z ml_RL_77 im_X5_act se_X5_act in_X5 co_X5_act rfl rfl hd_X5_act ⟨Nat.le_of_ble_eq_true rfl, Nat.le_of_ble_eq_true rfl⟩) List.nil (wOut cL aO O) rfl 5 0 rfl rfl rfl rfl (Nat.le_of_ble_eq_true rfl) dL_act_5 ⟨Nat.le_of_ble_eq_true rfl, Nat.le_of_ble_eq_true rfl⟩ (wVM cI aJ J ++ wOut cL aO O) rfl ?_
  refine y_i2l Z dL_act_8 ?_
  refine y_last Z 27 1 rfl ht1 (vpd (by decide) (by decide)) 0 (by decide) (wVM cI aJ J ++ wOut cL aO (vp_updL O 0 (Int32.toInt64 (lgT (J 3) a w)))) rfl dL_act_9 ?_
  refine y_goto (tgt := 21) Z dL_act_10 (by decide) ?_
  refine y_iconst (v := 0) Z dL_act_21 (by decide) ?_
  exact y_retI Z hr hlk dL_act_22 rfl rfl
set_option maxHeartbeats 4000000 in
set_option maxRecDepth 100000 in
theorem k_L_act_b0 (l : Launch) (htr : l.stackTraces = false) (D : va_G) {cI cL : ClassId} {tys : List (ClassId × FieldType)} (ht0 : tys[0]? = some (cI, .int)) (ht1 : tys[1]? = some (cL, .long)) (aJ : Nat → Nat) (J : Nat → Nat → Nat → Int32) (aO : Nat) (O : Nat → Int64) (a : Int32) (w : Int32)  (h_bad : ¬ (okA J a)) (sz : Nat) : kW l yL_act cL_act 5 [(0, 10, 13, 13), (0, 10, 17, 24)] { frames := 8, cells := 1, slots := 6, locals := 150 } D tys [.ref (aJ 0), .int a, .int w, .ref aO] (wVM cI aJ J ++ wOut cL aO O) (wVM cI aJ J ++ wOut cL aO O) 1 1 6 sz := by
  refine y_enterW (cc := cL_act) (maxL := 5) (hh := [(0, 10, 13, 13), (0, 10, 17, 24)]) (own := RL) (by decide) rfl (lv0 := [(0, .ref (aJ 0)), (1, .int a), (2, .int w), (3, .ref aO)]) rfl (Nat.le_of_ble_eq_true rfl) ?_
  intro p e s m args below meth c A Z X hT hr hlk
  refine y_aload_n Z dL_act_0 3 rfl rfl ?_
  refine y_iconst (v := 0) Z dL_act_1 (by decide) ?_
  refine y_aload_n Z dL_act_2 0 rfl rfl ?_
  refine y_iload_n Z dL_act_3 1 rfl rfl ?_
  refine y_iload_n Z dL_act_4 2 rfl rfl ?_
  refine y_VBw (rest := [.int 0, .ref aO]) Z X (k_X5_act_b0 l htr D ht0 aJ J a w h_bad) (y_cwV 2 Z ml_RL_77 im_X5_act se_X5_act in_X5 co_X5_act rfl rfl hd_X5_act ⟨Nat.le_of_ble_eq_true rfl, Nat.le_of_ble_eq_true rfl⟩) List.nil (wOut cL aO O) rfl 5 0 rfl rfl rfl rfl (Nat.le_of_ble_eq_true rfl) dL_act_5 ⟨Nat.le_of_ble_eq_true rfl, Nat.le_of_ble_eq_true rfl⟩ ?_
  refine y_catch Z hT [] ⟨0, 10, 13, 13⟩ [⟨0, 10, 17, 24⟩] rfl (fun z hz => nomatch hz) (by decide) (by decide) cl_RL_13 (List.mem_of_getElem? (i := 19) rfl) (fun qE => ?_)
  refine y_astore Z [(4, .ref qE), (0, .ref (aJ 0)), (1, .int a), (2, .int w), (3, .ref aO)] dL_act_13 (by decide) rfl ?_
  refine y_iconst (v := 1) Z dL_act_15 (by decide) ?_
  exact y_retI Z hr hlk dL_act_16 rfl rfl
set_option maxHeartbeats 4000000 in
set_option maxRecDepth 100000 in
theorem k_L_act_b1 (l : Launch) (htr : l.stackTraces = false) (D : va_G) {cI cL : ClassId} {tys : List (ClassId × FieldType)} (ht0 : tys[0]? = some (cI, .int)) (ht1 : tys[1]? = some (cL, .long)) (aJ : Nat → Nat) (J : Nat → Nat → Nat → Int32) (aO : Nat) (O : Nat → Int64) (a : Int32) (w : Int32) (h_a : okA J a) (h_bad : ¬ (okR w 0 3)) (sz : Nat) : kW l yL_act cL_act 5 [(0, 10, 13, 13), (0, 10, 17, 24)] { frames := 8, cells := 1, slots := 6, locals := 150 } D tys [.ref (aJ 0), .int a, .int w, .ref aO] (wVM cI aJ J ++ wOut cL aO O) (wVM cI aJ J ++ wOut cL aO O) 2 1 6 sz := by
  refine y_enterW (cc := cL_act) (maxL := 5) (hh := [(0, 10, 13, 13), (0, 10, 17, 24)]) (own := RL) (by decide) rfl (lv0 := [(0, .ref (aJ 0)), (1, .int a), (2, .int w), (3, .ref aO)]) rfl (Nat.le_of_ble_eq_true rfl) ?_
  intro p e s m args below meth c A Z X hT hr hlk
  refine y_aload_n Z dL_act_0 3 rfl rfl ?_
  refine y_iconst (v := 0) Z dL_act_1 (by decide) ?_
  refine y_aload_n Z dL_act_2 0 rfl rfl ?_
  refine y_iload_n Z dL_act_3 1 rfl rfl ?_
  refine y_iload_n Z dL_act_4 2 rfl rfl ?_
  refine y_VBw (rest := [.int 0, .ref aO]) Z X (k_X5_act_b1 l htr D ht0 aJ J a w h_a h_bad) (y_cwV 2 Z ml_RL_77 im_X5_act se_X5_act in_X5 co_X5_act rfl rfl hd_X5_act ⟨Nat.le_of_ble_eq_true rfl, Nat.le_of_ble_eq_true rfl⟩) List.nil (wOut cL aO O) rfl 5 0 rfl rfl rfl rfl (Nat.le_of_ble_eq_true rfl) dL_act_5 ⟨Nat.le_of_ble_eq_true rfl, Nat.le_of_ble_eq_true rfl⟩ ?_
  refine y_catch Z hT [⟨0, 10, 13, 13⟩] ⟨0, 10, 17, 24⟩ [] rfl (fun z hz => by
      simp only [List.mem_cons, List.not_mem_nil, or_false] at hz
      rcases hz with rfl
      · exact Or.inr ⟨by decide, "java/lang/IndexOutOfBoundsException", cl_RL_13, Z.2.2.2.2.2.2⟩) (by decide) (by decide) cl_RL_24 (List.mem_of_getElem? (i := 21) rfl) (fun qE => ?_)
  refine y_astore Z [(4, .ref qE), (0, .ref (aJ 0)), (1, .int a), (2, .int w), (3, .ref aO)] dL_act_17 (by decide) rfl ?_
  refine y_iconst (v := 2) Z dL_act_19 (by decide) ?_
  exact y_retI Z hr hlk dL_act_20 rfl rfl
set_option maxHeartbeats 4000000 in
set_option maxRecDepth 100000 in
theorem k_L_takeOut (l : Launch) (htr : l.stackTraces = false) (D : va_G) {cI cL : ClassId} {tys : List (ClassId × FieldType)} (ht0 : tys[0]? = some (cI, .int)) (ht1 : tys[1]? = some (cL, .long)) (aJ : Nat → Nat) (J : Nat → Nat → Nat → Int32) (aO : Nat) (O : Nat → Int64) (a : Int32) (h_n2 : gt_lrem (J 3) a 0 0 ≤ 100) (h_rs : rmStop (J 3) a) (h_a : okA J a) (sz : Nat) : kW l yL_takeOut cL_takeOut 4 [(0, 9, 12, 13)] { frames := 8, cells := 0, slots := 0, locals := 175 } D tys [.ref (aJ 0), .int a, .ref aO] (wVM cI aJ J ++ wOut cL aO O) (wVM cI aJ (vm_tk J a) ++ wOut cL aO (vp_updL O 0 (Int32.toInt64 (vm_tk J a 3 0 0)))) 0 0 0 sz := by
  refine y_enterW (cc := cL_takeOut) (maxL := 4) (hh := [(0, 9, 12, 13)]) (own := RL) (by decide) rfl (lv0 := [(0, .ref (aJ 0)), (1, .int a), (2, .ref aO)]) rfl (Nat.le_of_ble_eq_true rfl) ?_
  intro p e s m args below meth c A Z X hT hr hlk
  refine y_aload_n Z dL_takeOut_0 2 rfl rfl ?_
  refine y_iconst (v := 0) Z dL_takeOut_1 (by decide) ?_
  refine y_aload_n Z dL_takeOut_2 0 rfl rfl ?_
  refine y_iload_n Z dL_takeOut_3 1 rfl rfl ?_
  refine y_VIw (rest := [.int 0, .ref aO]) Z (k_X5_takeOut l D ht0 aJ J a h_n2 h_rs h_a) (y_cwV 1 Z ml_RL_80 im_X5_takeOut se_X5_takeOut in_X5 co_X5_takeOut rfl rfl hd_X5_takeOut ⟨Nat.le_of_ble_eq_true rfl, Nat.le_of_ble_eq_true rfl⟩) List.nil (wOut cL aO O) rfl 5 0 rfl rfl rfl rfl (Nat.le_of_ble_eq_true rfl) dL_takeOut_4 ⟨Nat.le_of_ble_eq_true rfl, Nat.le_of_ble_eq_true rfl⟩ (wVM cI aJ (vm_tk J a) ++ wOut cL aO O) rfl ?_
  refine y_i2l Z dL_takeOut_7 ?_
  refine y_last Z 27 1 rfl ht1 (vpd (by decide) (by decide)) 0 (by decide) (wVM cI aJ (vm_tk J a) ++ wOut cL aO (vp_updL O 0 (Int32.toInt64 (vm_tk J a 3 0 0)))) rfl dL_takeOut_8 ?_
  refine y_goto (tgt := 15) Z dL_takeOut_9 (by decide) ?_
  refine y_iconst (v := 0) Z dL_takeOut_15 (by decide) ?_
  exact y_retI Z hr hlk dL_takeOut_16 rfl rfl
set_option maxHeartbeats 4000000 in
set_option maxRecDepth 100000 in
theorem k_L_takeOut_b0 (l : Launch) (htr : l.stackTraces = false) (D : va_G) {cI cL : ClassId} {tys : List (ClassId × FieldType)} (ht0 : tys[0]? = some (cI, .int)) (ht1 : tys[1]? = some (cL, .long)) (aJ : Nat → Nat) (J : Nat → Nat → Nat → Int32) (aO : Nat) (O : Nat → Int64) (a : Int32)  (h_bad : ¬ (okA J a)) (sz : Nat) : kW l yL_takeOut cL_takeOut 4 [(0, 9, 12, 13)] { frames := 8, cells := 1, slots := 6, locals := 175 } D tys [.ref (aJ 0), .int a, .ref aO] (wVM cI aJ J ++ wOut cL aO O) (wVM cI aJ J ++ wOut cL aO O) 1 1 6 sz := by
  refine y_enterW (cc := cL_takeOut) (maxL := 4) (hh := [(0, 9, 12, 13)]) (own := RL) (by decide) rfl (lv0 := [(0, .ref (aJ 0)), (1, .int a), (2, .ref aO)]) rfl (Nat.le_of_ble_eq_true rfl) ?_
  intro p e s m args below meth c A Z X hT hr hlk
  refine y_aload_n Z dL_takeOut_0 2 rfl rfl ?_
  refine y_iconst (v := 0) Z dL_takeOut_1 (by decide) ?_
  refine y_aload_n Z dL_takeOut_2 0 rfl rfl ?_
  refine y_iload_n Z dL_takeOut_3 1 rfl rfl ?_
  refine y_VBw (rest := [.int 0, .ref aO]) Z X (k_X5_takeOut_b0 l htr D ht0 aJ J a h_bad) (y_cwV 1 Z ml_RL_80 im_X5_takeOut se_X5_takeOut in_X5 co_X5_takeOut rfl rfl hd_X5_takeOut ⟨Nat.le_of_ble_eq_true rfl, Nat.le_of_ble_eq_true rfl⟩) List.nil (wOut cL aO O) rfl 5 0 rfl rfl rfl rfl (Nat.le_of_ble_eq_true rfl) dL_takeOut_4 ⟨Nat.le_of_ble_eq_true rfl, Nat.le_of_ble_eq_true rfl⟩ ?_
  refine y_catch Z hT [] ⟨0, 9, 12, 13⟩ [] rfl (fun z hz => nomatch hz) (by decide) (by decide) cl_RL_13 (List.mem_of_getElem? (i := 19) rfl) (fun qE => ?_)
  refine y_astore_n Z [(3, .ref qE), (0, .ref (aJ 0)), (1, .int a), (2, .ref aO)] dL_takeOut_12 rfl (by decide) rfl ?_
  refine y_iconst (v := 1) Z dL_takeOut_13 (by decide) ?_
  exact y_retI Z hr hlk dL_takeOut_14 rfl rfl
set_option maxHeartbeats 4000000 in
set_option maxRecDepth 100000 in
theorem k_L_undo (l : Launch) (htr : l.stackTraces = false) (D : va_G) {cI cL : ClassId} {tys : List (ClassId × FieldType)} (ht0 : tys[0]? = some (cI, .int)) (ht1 : tys[1]? = some (cL, .long)) (aJ : Nat → Nat) (J : Nat → Nat → Nat → Int32) (aO : Nat) (O : Nat → Int64) (h_n2 : gt_lrem (J 3) (J 3 0 0 - 1) 0 0 ≤ 100) (h_rs : rmStop (J 3) (J 3 0 0 - 1)) (h_u : okU J) (sz : Nat) : kW l yL_undo cL_undo 3 [(0, 8, 11, 15)] { frames := 8, cells := 0, slots := 0, locals := 174 } D tys [.ref (aJ 0), .ref aO] (wVM cI aJ J ++ wOut cL aO O) (wVM cI aJ (vm_tk J (J 3 0 0 - 1)) ++ wOut cL aO (vp_updL O 0 (Int32.toInt64 (vm_tk J (J 3 0 0 - 1) 3 0 0)))) 0 0 0 sz := by
  refine y_enterW (cc := cL_undo) (maxL := 3) (hh := [(0, 8, 11, 15)]) (own := RL) (by decide) rfl (lv0 := [(0, .ref (aJ 0)), (1, .ref aO)]) rfl (Nat.le_of_ble_eq_true rfl) ?_
  intro p e s m args below meth c A Z X hT hr hlk
  refine y_aload_n Z dL_undo_0 1 rfl rfl ?_
  refine y_iconst (v := 0) Z dL_undo_1 (by decide) ?_
  refine y_aload_n Z dL_undo_2 0 rfl rfl ?_
  refine y_VIw (rest := [.int 0, .ref aO]) Z (k_X5_undo l D ht0 aJ J h_n2 h_rs h_u) (y_cwV 0 Z ml_RL_83 im_X5_undo se_X5_undo in_X5 co_X5_undo rfl rfl hd_X5_undo ⟨Nat.le_of_ble_eq_true rfl, Nat.le_of_ble_eq_true rfl⟩) List.nil (wOut cL aO O) rfl 5 0 rfl rfl rfl rfl (Nat.le_of_ble_eq_true rfl) dL_undo_3 ⟨Nat.le_of_ble_eq_true rfl, Nat.le_of_ble_eq_true rfl⟩ (wVM cI aJ (vm_tk J (J 3 0 0 - 1)) ++ wOut cL aO O) rfl ?_
  refine y_i2l Z dL_undo_6 ?_
  refine y_last Z 27 1 rfl ht1 (vpd (by decide) (by decide)) 0 (by decide) (wVM cI aJ (vm_tk J (J 3 0 0 - 1)) ++ wOut cL aO (vp_updL O 0 (Int32.toInt64 (vm_tk J (J 3 0 0 - 1) 3 0 0)))) rfl dL_undo_7 ?_
  refine y_goto (tgt := 14) Z dL_undo_8 (by decide) ?_
  refine y_iconst (v := 0) Z dL_undo_14 (by decide) ?_
  exact y_retI Z hr hlk dL_undo_15 rfl rfl
set_option maxHeartbeats 4000000 in
set_option maxRecDepth 100000 in
theorem k_L_undo_b0 (l : Launch) (htr : l.stackTraces = false) (D : va_G) {cI cL : ClassId} {tys : List (ClassId × FieldType)} (ht0 : tys[0]? = some (cI, .int)) (ht1 : tys[1]? = some (cL, .long)) (aJ : Nat → Nat) (J : Nat → Nat → Nat → Int32) (aO : Nat) (O : Nat → Int64)  (h_bad : ¬ (okU J)) (sz : Nat) : kW l yL_undo cL_undo 3 [(0, 8, 11, 15)] { frames := 8, cells := 1, slots := 6, locals := 174 } D tys [.ref (aJ 0), .ref aO] (wVM cI aJ J ++ wOut cL aO O) (wVM cI aJ J ++ wOut cL aO O) 1 1 6 sz := by
  refine y_enterW (cc := cL_undo) (maxL := 3) (hh := [(0, 8, 11, 15)]) (own := RL) (by decide) rfl (lv0 := [(0, .ref (aJ 0)), (1, .ref aO)]) rfl (Nat.le_of_ble_eq_true rfl) ?_
  intro p e s m args below meth c A Z X hT hr hlk
  refine y_aload_n Z dL_undo_0 1 rfl rfl ?_
  refine y_iconst (v := 0) Z dL_undo_1 (by decide) ?_
  refine y_aload_n Z dL_undo_2 0 rfl rfl ?_
  refine y_VBw (rest := [.int 0, .ref aO]) Z X (k_X5_undo_b0 l htr D ht0 aJ J h_bad) (y_cwV 0 Z ml_RL_83 im_X5_undo se_X5_undo in_X5 co_X5_undo rfl rfl hd_X5_undo ⟨Nat.le_of_ble_eq_true rfl, Nat.le_of_ble_eq_true rfl⟩) List.nil (wOut cL aO O) rfl 5 0 rfl rfl rfl rfl (Nat.le_of_ble_eq_true rfl) dL_undo_3 ⟨Nat.le_of_ble_eq_true rfl, Nat.le_of_ble_eq_true rfl⟩ ?_
  refine y_catch Z hT [] ⟨0, 8, 11, 15⟩ [] rfl (fun z hz => nomatch hz) (by decide) (by decide) cl_RL_15 (List.mem_of_getElem? (i := 20) rfl) (fun qE => ?_)
  refine y_astore_n Z [(2, .ref qE), (0, .ref (aJ 0)), (1, .ref aO)] dL_undo_11 rfl (by decide) rfl ?_
  refine y_iconst (v := 1) Z dL_undo_12 (by decide) ?_
  exact y_retI Z hr hlk dL_undo_13 rfl rfl
set_option maxHeartbeats 4000000 in
set_option maxRecDepth 100000 in
theorem k_L_redWithout (l : Launch) (htr : l.stackTraces = false) (D : va_G) {cI cL : ClassId} {tys : List (ClassId × FieldType)} (ht0 : tys[0]? = some (cI, .int)) (ht1 : tys[1]? = some (cL, .long)) (aJ : Nat → Nat) (J : Nat → Nat → Nat → Int32) (aO : Nat) (O : Nat → Int64) (a : Int32) (h_n : J 3 0 0 ≤ 100) (h_a : okA J a) (sz : Nat) : kW l yL_redWithout cL_redWithout 4 [(0, 9, 12, 13)] { frames := 8, cells := 0, slots := 0, locals := 177 } D tys [.ref (aJ 0), .int a, .ref aO] (wVM cI aJ J ++ wOut cL aO O) (wVM cI aJ (vm_rp J (J 0 0 7) a) ++ wOut cL aO (vp_updL O 0 (Int32.toInt64 (rdF (vm_rp J (J 0 0 7) a 6))))) 0 0 0 sz := by
  refine y_enterW (cc := cL_redWithout) (maxL := 4) (hh := [(0, 9, 12, 13)]) (own := RL) (by decide) rfl (lv0 := [(0, .ref (aJ 0)), (1, .int a), (2, .ref aO)]) rfl (Nat.le_of_ble_eq_true rfl) ?_
  intro p e s m args below meth c A Z X hT hr hlk
  refine y_aload_n Z dL_redWithout_0 2 rfl rfl ?_
  refine y_iconst (v := 0) Z dL_redWithout_1 (by decide) ?_
  refine y_aload_n Z dL_redWithout_2 0 rfl rfl ?_
  refine y_iload_n Z dL_redWithout_3 1 rfl rfl ?_
  refine y_VIw (rest := [.int 0, .ref aO]) Z (k_X5_redWithout l D ht0 aJ J a h_n h_a) (y_cwV 1 Z ml_RL_86 im_X5_redWithout se_X5_redWithout in_X5 co_X5_redWithout rfl rfl hd_X5_redWithout ⟨Nat.le_of_ble_eq_true rfl, Nat.le_of_ble_eq_true rfl⟩) List.nil (wOut cL aO O) rfl 5 0 rfl rfl rfl rfl (Nat.le_of_ble_eq_true rfl) dL_redWithout_4 ⟨Nat.le_of_ble_eq_true rfl, Nat.le_of_ble_eq_true rfl⟩ (wVM cI aJ (vm_rp J (J 0 0 7) a) ++ wOut cL aO O) rfl ?_
  refine y_i2l Z dL_redWithout_7 ?_
  refine y_last Z 27 1 rfl ht1 (vpd (by decide) (by decide)) 0 (by decide) (wVM cI aJ (vm_rp J (J 0 0 7) a) ++ wOut cL aO (vp_updL O 0 (Int32.toInt64 (rdF (vm_rp J (J 0 0 7) a 6))))) rfl dL_redWithout_8 ?_
  refine y_goto (tgt := 15) Z dL_redWithout_9 (by decide) ?_
  refine y_iconst (v := 0) Z dL_redWithout_15 (by decide) ?_
  exact y_retI Z hr hlk dL_redWithout_16 rfl rfl
set_option maxHeartbeats 4000000 in
set_option maxRecDepth 100000 in
theorem k_L_redWithout_b0 (l : Launch) (htr : l.stackTraces = false) (D : va_G) {cI cL : ClassId} {tys : List (ClassId × FieldType)} (ht0 : tys[0]? = some (cI, .int)) (ht1 : tys[1]? = some (cL, .long)) (aJ : Nat → Nat) (J : Nat → Nat → Nat → Int32) (aO : Nat) (O : Nat → Int64) (a : Int32)  (h_bad : ¬ (okA J a)) (sz : Nat) : kW l yL_redWithout cL_redWithout 4 [(0, 9, 12, 13)] { frames := 8, cells := 1, slots := 6, locals := 177 } D tys [.ref (aJ 0), .int a, .ref aO] (wVM cI aJ J ++ wOut cL aO O) (wVM cI aJ J ++ wOut cL aO O) 1 1 6 sz := by
  refine y_enterW (cc := cL_redWithout) (maxL := 4) (hh := [(0, 9, 12, 13)]) (own := RL) (by decide) rfl (lv0 := [(0, .ref (aJ 0)), (1, .int a), (2, .ref aO)]) rfl (Nat.le_of_ble_eq_true rfl) ?_
  intro p e s m args below meth c A Z X hT hr hlk
  refine y_aload_n Z dL_redWithout_0 2 rfl rfl ?_
  refine y_iconst (v := 0) Z dL_redWithout_1 (by decide) ?_
  refine y_aload_n Z dL_redWithout_2 0 rfl rfl ?_
  refine y_iload_n Z dL_redWithout_3 1 rfl rfl ?_
  refine y_VBw (rest := [.int 0, .ref aO]) Z X (k_X5_redWithout_b0 l htr D ht0 aJ J a h_bad) (y_cwV 1 Z ml_RL_86 im_X5_redWithout se_X5_redWithout in_X5 co_X5_redWithout rfl rfl hd_X5_redWithout ⟨Nat.le_of_ble_eq_true rfl, Nat.le_of_ble_eq_true rfl⟩) List.nil (wOut cL aO O) rfl 5 0 rfl rfl rfl rfl (Nat.le_of_ble_eq_true rfl) dL_redWithout_4 ⟨Nat.le_of_ble_eq_true rfl, Nat.le_of_ble_eq_true rfl⟩ ?_
  refine y_catch Z hT [] ⟨0, 9, 12, 13⟩ [] rfl (fun z hz => nomatch hz) (by decide) (by decide) cl_RL_13 (List.mem_of_getElem? (i := 19) rfl) (fun qE => ?_)
  refine y_astore_n Z [(3, .ref qE), (0, .ref (aJ 0)), (1, .int a), (2, .ref aO)] dL_redWithout_12 rfl (by decide) rfl ?_
  refine y_iconst (v := 1) Z dL_redWithout_13 (by decide) ?_
  exact y_retI Z hr hlk dL_redWithout_14 rfl rfl
set_option maxHeartbeats 4000000 in
set_option maxRecDepth 100000 in
theorem k_L_append (l : Launch) (htr : l.stackTraces = false) (D : va_G) {cI cL : ClassId} {tys : List (ClassId × FieldType)} (ht0 : tys[0]? = some (cI, .int)) (ht1 : tys[1]? = some (cL, .long)) (aJ : Nat → Nat) (J : Nat → Nat → Nat → Int32) (aO : Nat) (O : Nat → Int64) (v : Int32)  (h_v : okR v 0 127) (h_w : okW J) (sz : Nat) : kW l yL_append cL_append 4 [(0, 9, 12, 24), (0, 9, 15, 15)] { frames := 8, cells := 0, slots := 0, locals := 150 } D tys [.ref (aJ 0), .int v, .ref aO] (wVM cI aJ J ++ wOut cL aO O) (wVM cI aJ (vm_ap J v) ++ wOut cL aO (vp_updL O 0 (Int32.toInt64 (gt_sadd (J 7) v 0 0)))) 0 0 0 sz := by
  refine y_enterW (cc := cL_append) (maxL := 4) (hh := [(0, 9, 12, 24), (0, 9, 15, 15)]) (own := RL) (by decide) rfl (lv0 := [(0, .ref (aJ 0)), (1, .int v), (2, .ref aO)]) rfl (Nat.le_of_ble_eq_true rfl) ?_
  intro p e s m args below meth c A Z X hT hr hlk
  refine y_aload_n Z dL_append_0 2 rfl rfl ?_
  refine y_iconst (v := 0) Z dL_append_1 (by decide) ?_
  refine y_aload_n Z dL_append_2 0 rfl rfl ?_
  refine y_iload_n Z dL_append_3 1 rfl rfl ?_
  refine y_VIw (rest := [.int 0, .ref aO]) Z (k_X5_append l D ht0 aJ J v h_v h_w) (y_cwV 1 Z ml_RL_89 im_X5_append se_X5_append in_X5 co_X5_append rfl rfl hd_X5_append ⟨Nat.le_of_ble_eq_true rfl, Nat.le_of_ble_eq_true rfl⟩) List.nil (wOut cL aO O) rfl 5 0 rfl rfl rfl rfl (Nat.le_of_ble_eq_true rfl) dL_append_4 ⟨Nat.le_of_ble_eq_true rfl, Nat.le_of_ble_eq_true rfl⟩ (wVM cI aJ (vm_ap J v) ++ wOut cL aO O) rfl ?_
  refine y_i2l Z dL_append_7 ?_
  refine y_last Z 27 1 rfl ht1 (vpd (by decide) (by decide)) 0 (by decide) (wVM cI aJ (vm_ap J v) ++ wOut cL aO (vp_updL O 0 (Int32.toInt64 (gt_sadd (J 7) v 0 0)))) rfl dL_append_8 ?_
  refine y_goto (tgt := 18) Z dL_append_9 (by decide) ?_
  refine y_iconst (v := 0) Z dL_append_18 (by decide) ?_
  exact y_retI Z hr hlk dL_append_19 rfl rfl
set_option maxHeartbeats 4000000 in
set_option maxRecDepth 100000 in
theorem k_L_append_b0 (l : Launch) (htr : l.stackTraces = false) (D : va_G) {cI cL : ClassId} {tys : List (ClassId × FieldType)} (ht0 : tys[0]? = some (cI, .int)) (ht1 : tys[1]? = some (cL, .long)) (aJ : Nat → Nat) (J : Nat → Nat → Nat → Int32) (aO : Nat) (O : Nat → Int64) (v : Int32)  (h_bad : ¬ (okR v 0 127)) (sz : Nat) : kW l yL_append cL_append 4 [(0, 9, 12, 24), (0, 9, 15, 15)] { frames := 8, cells := 1, slots := 6, locals := 150 } D tys [.ref (aJ 0), .int v, .ref aO] (wVM cI aJ J ++ wOut cL aO O) (wVM cI aJ J ++ wOut cL aO O) 1 1 6 sz := by
  refine y_enterW (cc := cL_append) (maxL := 4) (hh := [(0, 9, 12, 24), (0, 9, 15, 15)]) (own := RL) (by decide) rfl (lv0 := [(0, .ref (aJ 0)), (1, .int v), (2, .ref aO)]) rfl (Nat.le_of_ble_eq_true rfl) ?_
  intro p e s m args below meth c A Z X hT hr hlk
  refine y_aload_n Z dL_append_0 2 rfl rfl ?_
  refine y_iconst (v := 0) Z dL_append_1 (by decide) ?_
  refine y_aload_n Z dL_append_2 0 rfl rfl ?_
  refine y_iload_n Z dL_append_3 1 rfl rfl ?_
  refine y_VBw (rest := [.int 0, .ref aO]) Z X (k_X5_append_b0 l htr D ht0 aJ J v h_bad) (y_cwV 1 Z ml_RL_89 im_X5_append se_X5_append in_X5 co_X5_append rfl rfl hd_X5_append ⟨Nat.le_of_ble_eq_true rfl, Nat.le_of_ble_eq_true rfl⟩) List.nil (wOut cL aO O) rfl 5 0 rfl rfl rfl rfl (Nat.le_of_ble_eq_true rfl) dL_append_4 ⟨Nat.le_of_ble_eq_true rfl, Nat.le_of_ble_eq_true rfl⟩ ?_
  refine y_catch Z hT [] ⟨0, 9, 12, 24⟩ [⟨0, 9, 15, 15⟩] rfl (fun z hz => nomatch hz) (by decide) (by decide) cl_RL_24 (List.mem_of_getElem? (i := 21) rfl) (fun qE => ?_)
  refine y_astore_n Z [(3, .ref qE), (0, .ref (aJ 0)), (1, .int v), (2, .ref aO)] dL_append_12 rfl (by decide) rfl ?_
  refine y_iconst (v := 1) Z dL_append_13 (by decide) ?_
  exact y_retI Z hr hlk dL_append_14 rfl rfl
set_option maxHeartbeats 4000000 in
set_option maxRecDepth 100000 in
theorem k_L_append_b1 (l : Launch) (htr : l.stackTraces = false) (D : va_G) {cI cL : ClassId} {tys : List (ClassId × FieldType)} (ht0 : tys[0]? = some (cI, .int)) (ht1 : tys[1]? = some (cL, .long)) (aJ : Nat → Nat) (J : Nat → Nat → Nat → Int32) (aO : Nat) (O : Nat → Int64) (v : Int32) (h_v : okR v 0 127) (h_bad : ¬ (okW J)) (sz : Nat) : kW l yL_append cL_append 4 [(0, 9, 12, 24), (0, 9, 15, 15)] { frames := 8, cells := 1, slots := 6, locals := 150 } D tys [.ref (aJ 0), .int v, .ref aO] (wVM cI aJ J ++ wOut cL aO O) (wVM cI aJ J ++ wOut cL aO O) 2 1 6 sz := by
  refine y_enterW (cc := cL_append) (maxL := 4) (hh := [(0, 9, 12, 24), (0, 9, 15, 15)]) (own := RL) (by decide) rfl (lv0 := [(0, .ref (aJ 0)), (1, .int v), (2, .ref aO)]) rfl (Nat.le_of_ble_eq_true rfl) ?_
  intro p e s m args below meth c A Z X hT hr hlk
  refine y_aload_n Z dL_append_0 2 rfl rfl ?_
  refine y_iconst (v := 0) Z dL_append_1 (by decide) ?_
  refine y_aload_n Z dL_append_2 0 rfl rfl ?_
  refine y_iload_n Z dL_append_3 1 rfl rfl ?_
  refine y_VBw (rest := [.int 0, .ref aO]) Z X (k_X5_append_b1 l htr D ht0 aJ J v h_v h_bad) (y_cwV 1 Z ml_RL_89 im_X5_append se_X5_append in_X5 co_X5_append rfl rfl hd_X5_append ⟨Nat.le_of_ble_eq_true rfl, Nat.le_of_ble_eq_true rfl⟩) List.nil (wOut cL aO O) rfl 5 0 rfl rfl rfl rfl (Nat.le_of_ble_eq_true rfl) dL_append_4 ⟨Nat.le_of_ble_eq_true rfl, Nat.le_of_ble_eq_true rfl⟩ ?_
  refine y_catch Z hT [⟨0, 9, 12, 24⟩] ⟨0, 9, 15, 15⟩ [] rfl (fun z hz => by
      simp only [List.mem_cons, List.not_mem_nil, or_false] at hz
      rcases hz with rfl
      · exact Or.inr ⟨by decide, "java/lang/IllegalArgumentException", cl_RL_24, Z.2.2.2.2.2.1⟩) (by decide) (by decide) cl_RL_15 (List.mem_of_getElem? (i := 20) rfl) (fun qE => ?_)
  refine y_astore_n Z [(3, .ref qE), (0, .ref (aJ 0)), (1, .int v), (2, .ref aO)] dL_append_15 rfl (by decide) rfl ?_
  refine y_iconst (v := 2) Z dL_append_16 (by decide) ?_
  exact y_retI Z hr hlk dL_append_17 rfl rfl
