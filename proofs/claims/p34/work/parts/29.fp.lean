abbrev qD (D : va_G) (tys : List (ClassId × FieldType)) (A : Nat → Prop) (w1 : va_W) (r : UInt64) : Array Value → State → Outcome → State → Prop := va_Qd (fun x (_ : Unit) => x = r) (fun _ t => yEnd D tys A w1 t) A
def kD (l : Launch) (y : MethodName) (cc : ByteArray) (maxL : Nat) (ret : Option FieldType) (rm : Room) (D : va_G) (tys : List (ClassId × FieldType)) (av : List Value) (w0 w1 : va_W) (r : UInt64) (mc ms sz : Nat) : Prop := Met l y (Cond.code y cc maxL ret :: wsL_law) rm (va_Pc av (yPre D tys w0 sz)) (qD D tys (va_A w0 sz) w1 r) mc ms (va_A w0 sz)
def QD (D : va_G) (tys : List (ClassId × FieldType)) (A : Nat → Prop) (w1 : va_W) (r : UInt64) (below : List Frame) (args : Array Value) (s : State) (mc ms : Nat) : State → Prop := MQ below (qD D tys A w1 r) args s mc ms A
theorem y_enterD {l : Launch} {y : MethodName} {rm : Room} {cc : ByteArray} {maxL : Nat} {ret : Option FieldType} {own : String} {D : va_G} {tys : List (ClassId × FieldType)} {av : List Value} {w0 w1 : va_W} {r : UInt64} {mc ms sz : Nat} {lv0 : List (Nat × Value)} (hy : plainName y.cls = true) (ho : y.cls = own) (hlv : lv_args 0 av = lv0) (hle : (lg_sl av).length ≤ maxL)
    (body : yBody l y rm cc maxL ret own D tys w0 lv0 (fun A below args s => QD D tys A w1 r below args s mc ms)) : kD l y cc maxL ret rm D tys av w0 w1 r mc ms sz := by
  refine Met.ofW (cc := cc) (maxL := maxL) (ret := ret) hy rfl ?_
  intro p e s m args below meth c s₁ B hml hv
  obtain ⟨rfl, hsz, hP, hK, hD0, hN⟩ := hv
  subst hsz
  exact y_entry hlv hle hP hD0.self (body p e s m _ below meth c _ (y_zz B.exec B.bytes hml (ho ▸ findClass_of_methodNamed B.named) (fun w hw => atoms_spec (ws := Cond.code y cc maxL ret :: wsL_law) B.pre w (List.mem_cons_of_mem _ hw)) hK hN) B.returns B.notSynchronized (name_of_methodNamed B.named B.method).1)
section YD
variable {p : Program} {l : Launch} {e : Env} {R : Room} {s : State} {m : MethodId} {args : Array Value} {below : List Frame} {meth : Method} {c : Code} {Q : State → Prop} {D : va_G} {A : Nat → Prop} {nL cells slots : Nat} {ws : va_W} {lv : List (Nat × Value)} {st : List Value} {pc : Nat}
variable {cc : ByteArray} {Ts : List Cond} {own : String} {tys : List (ClassId × FieldType)} {w1 : va_W}
theorem y_retD (Z : Zz p m c cc nL s args Ts own D tys A) (hr : meth.sig.returnType = some .double) (hlk : meth.locks = false) {v r : UInt64} (hdg : decode cc pc = .ok (.dreturn, 1)) (hv : v = r) (hw : ws = w1) : Yy p l e R s m args below meth c (QD D tys A w1 r below args s cells slots) D A nL cells slots ws lv [.double v] pc := by
  intro H locs ls hP hD hS hl
  subst hv; subst hw
  exact W.dret (v := v) Z.1.1 Z.1.2.1 hr (fun t ht hW => ⟨⟨v, (), rfl, rfl, by rw [ht]; exact hP, va_K.moved hW.alike Z.2.1, hD⟩, hS.F ht⟩) hS.2.2 hdg hlk
theorem y_ddiv (Z : Zz p m c cc nL s args Ts own D tys A) {x y : UInt64} (hdg : decode cc pc = .ok (.ddiv, 1)) (hne : vf_n64 (FP.ddiv x y)) (k : Yy p l e R s m args below meth c Q D A nL cells slots ws lv (.double (FP.ddiv x y) :: st) (pc + 1)) : Yy p l e R s m args below meth c Q D A nL cells slots ws lv (.double y :: .double x :: st) pc := fun H locs ls hP hD hS hl => lv_ddiv Z.1.1 Z.1.2.1 hdg hne (k H locs ls hP hD hS hl)
end YD
section YDw
variable {p : Program} {l : Launch} {e : Env} {R : Room} {s : State} {m : MethodId} {args : Array Value} {below : List Frame} {meth : Method} {c : Code} {Q : State → Prop} {D : va_G} {A : Nat → Prop} {nL cells slots : Nat} {lv : List (Nat × Value)} {st : List Value} {pc : Nat}
variable {cc : ByteArray} {Ts : List Cond} {own : String} {tys : List (ClassId × FieldType)} {w1 : va_W}
theorem y_VDw {y : MethodName} {bytes : ByteArray} {maxL n index mc ms : Nat} {ret : Option FieldType} {rm : Room} {C : String} {b : Addr} {As rest : List Value} {ws wc : va_W} {r : UInt64}
    (Z : Zz p m c cc nL s args Ts own D tys A) (hM : ∀ sz, kD l y bytes maxL ret rm D tys (.ref b :: As) wc w1 r mc ms sz) (cw : CallW R s args own C index y bytes maxL ret (Cond.code y bytes maxL ret :: wsL_law) rm mc ms n) (wl : va_W) (wr : va_W) (hws : ws = wl ++ (wc ++ wr))
    (ci q0 : Nat) {fs : List Value} {T : u_T} {N : Nat} (hc : vwCl[ci]? = some (C, T, N)) (he : wc[q0]? = some (b, .inr (ci, fs))) (hst : st = As.reverse ++ .ref b :: rest) (hn : As.length = n) (hW : (rest.map fun v => v.category).sum ≤ 8) (hdg : decode cc pc = .ok (.invokevirtual index, 3)) (hf : cells + mc ≤ R.cells ∧ slots + ms ≤ R.slots) (ws2 : va_W) (hn2 : wl ++ (w1 ++ wr) = ws2)
    (k : Yy p l e R s m args below meth c Q D A nL (cells + mc) (slots + ms) ws2 lv (.double r :: rest) (pc + 3)) : Yy p l e R s m args below meth c Q D A nL cells slots ws lv st pc := by
  subst hws; subst hn2
  exact fun H locs ls hP hD hS hl =>
    have hF := y_freeW hD hS Z.2.2.1
    va_calld (y_runVw (wl := wl) (wr := wr) (Qc := fun B => qD D tys B w1 r) Z (fun sz => hM sz) cw ci q0 hc he hst hn hW hdg hf H locs ls hP hD hl) hS (fun q _ h => hF q h) hF (fun x _ t H1 locs1 ht _ hx hB _ hk hS1 => by
      subst hx
      have hj := y_joinW hP hD hk hF (ht ▸ hB.1) hB.2.2
      exact k H1 locs1 ls hj.1 hj.2 hS1 hl)
end YDw
/-! no quotient here is a NaN -/
theorem fp_bits (r : UInt64) : vf_n64 r ↔ r.toNat % 9223372036854775808 ≤ 9218868437227405312 := by
  unfold vf_n64
  rw [UInt64.le_iff_toNat_le, UInt64.toNat_and]
  show r.toNat &&& (2 ^ 63 - 1) ≤ 9218868437227405312 ↔ _
  rw [Nat.and_two_pow_sub_one_eq_mod]
theorem fp_tails : FP.Core.Fmt.tails FP.Core.b64 = 4503599627370496 := by decide +kernel
theorem fp_exps : FP.Core.Fmt.exps FP.Core.b64 = 2048 := by decide +kernel
theorem fp_qmin : FP.Core.Fmt.qmin FP.Core.b64 = -1074 := by decide +kernel
theorem fp_qmax : FP.Core.Fmt.qmax FP.Core.b64 = 971 := by decide +kernel
theorem fp_asm (s : Bool) (e t : Nat) : FP.Core.assemble FP.Core.b64 s e t = (s.toNat * 2048 + e) * 4503599627370496 + t := by
  unfold FP.Core.assemble; rw [fp_tails, fp_exps]
def fpG (n : Nat) : Prop := n < 18446744073709551616 ∧ n % 9223372036854775808 ≤ 9218868437227405312
theorem fp_g {s : Bool} {e t : Nat} (he : e < 2047) (ht : t < 4503599627370496) : fpG ((s.toNat * 2048 + e) * 4503599627370496 + t) := by
  unfold fpG
  cases s <;> simp only [Bool.toNat_false, Bool.toNat_true] <;> omega
theorem fp_inf (s : Bool) : fpG (FP.Core.encode FP.Core.b64 (.inf s)) := by
  show fpG (FP.Core.assemble FP.Core.b64 s (FP.Core.Fmt.exps FP.Core.b64 - 1) 0)
  rw [fp_asm, fp_exps]
  unfold fpG
  cases s <;> simp only [Bool.toNat_false, Bool.toNat_true] <;> omega
theorem fp_fin (s : Bool) {c : Nat} {q : Int} (hc : c < 9007199254740992) (hq : q ≤ 971) : fpG (FP.Core.encode FP.Core.b64 (.fin s c q)) := by
  show fpG (if c < FP.Core.Fmt.tails FP.Core.b64 then FP.Core.assemble FP.Core.b64 s 0 c else FP.Core.assemble FP.Core.b64 s ((q - FP.Core.Fmt.qmin FP.Core.b64).toNat + 1) (c - FP.Core.Fmt.tails FP.Core.b64))
  rw [fp_tails, fp_qmin]
  split
  · rename_i h; rw [fp_asm]; exact fp_g (by omega) h
  · rw [fp_asm]; exact fp_g (by omega) (by omega)
theorem fp_bound (s : Bool) {c : Nat} (q : Int) (hc : c < 9007199254740992) : fpG (FP.Core.encode FP.Core.b64 (FP.Core.bound FP.Core.b64 s c q)) := by
  unfold FP.Core.bound
  rw [fp_qmax]
  split
  · exact fp_fin s hc (by assumption)
  · exact fp_inf s
theorem fp_ratio (s : Bool) (a b : Nat) (e : Int) : fpG (FP.Core.encode FP.Core.b64 (FP.Core.roundRatio FP.Core.b64 s a b e)) := by
  unfold FP.Core.roundRatio
  split
  · rw [fp_qmin]; exact fp_fin s (by omega) (by omega)
  · unfold FP.Core.roundAt FP.Core.settle
    split
    · rename_i h; exact fp_bound s _ (by have e2 : (2 : Nat) ^ FP.Core.b64.p = 9007199254740992 := by decide +kernel
                                         omega)
    · rw [fp_tails]; exact fp_bound s _ (by omega)
theorem fp_dec {n : Nat} (h : fpG n) : ¬ FP.Core.decode FP.Core.b64 n = .nan := by
  unfold fpG at h
  unfold FP.Core.decode FP.Core.fieldE FP.Core.fieldT
  rw [fp_tails, fp_exps]
  split
  · split
    · intro e; cases e
    · exfalso; omega
  · split <;> (intro e; cases e)
theorem fp_to {n : Nat} (h : fpG n) : (UInt64.ofNat n).toNat = n := UInt64.toNat_ofNat_of_lt' h.1
theorem fp_k : FP.Core.decode FP.Core.b64 (4696837146684686336 : UInt64).toNat = .fin false 8589934592000000 (-33) := by decide +kernel
theorem fp_div (x : Int32) : fpG (FP.Core.div FP.Core.b64 (FP.i2d x).toNat (4696837146684686336 : UInt64).toNat) := by
  have h1 : fpG (FP.i2d x).toNat := by
    have h2 : fpG (FP.Core.fromInt FP.Core.b64 x.toInt) := fp_ratio _ _ _ _
    show fpG (UInt64.ofNat (FP.Core.fromInt FP.Core.b64 x.toInt)).toNat
    rw [fp_to h2]; exact h2
  have h3 := fp_dec h1
  unfold FP.Core.div
  rw [fp_k]
  cases hd : FP.Core.decode FP.Core.b64 (FP.i2d x).toNat with
  | nan => exact absurd hd h3
  | inf s => exact fp_inf _
  | fin s c q =>
    have e : FP.Core.quotient FP.Core.b64 (.fin s c q) (.fin false 8589934592000000 (-33)) = FP.Core.roundRatio FP.Core.b64 (s != false) c 8589934592000000 (q - -33) := by
      unfold FP.Core.quotient
      exact if_neg (by decide)
    rw [e]
    exact fp_ratio _ _ _ _
def fyF (x : Int32) : UInt64 := FP.ddiv (FP.i2d x) 4696837146684686336
theorem fy_to (x : Int32) : (fyF x).toNat = FP.Core.div FP.Core.b64 (FP.i2d x).toNat (4696837146684686336 : UInt64).toNat := fp_to (fp_div x)
theorem fy_n (x : Int32) : vf_n64 (FP.ddiv (FP.i2d x) 4696837146684686336) := (fp_bits _).mpr (by rw [show (FP.ddiv (FP.i2d x) 4696837146684686336).toNat = _ from fy_to x]; exact (fp_div x).2)
theorem fp_ord (i : Int) : compare i i = .eq := by
  show compareOfLessAndEq i i = .eq
  unfold compareOfLessAndEq
  rw [if_neg (Int.lt_irrefl i), if_pos rfl]
theorem fy_cmp (x : Int32) : FP.dcmp (fyF x) (fyF x) = some .eq := by
  have h : ¬ FP.Core.decode FP.Core.b64 (fyF x).toNat = .nan := by rw [fy_to]; exact fp_dec (fp_div x)
  show FP.Core.order (FP.Core.decode FP.Core.b64 (fyF x).toNat) (FP.Core.decode FP.Core.b64 (fyF x).toNat) = some .eq
  cases hd : FP.Core.decode FP.Core.b64 (fyF x).toNat with
  | nan => exact absurd hd h
  | inf s => show some (compare (FP.Core.signed s 1) (FP.Core.signed s 1)) = _; exact congrArg some (fp_ord _)
  | fin s c q => show some (compare (FP.Core.signed s (FP.Core.inUnits c q (min q q))) (FP.Core.signed s (FP.Core.inUnits c q (min q q)))) = _; exact congrArg some (fp_ord _)
def mv_fb (m s : Nat → Int32) (k : Nat) (x : Int32) : Int32 := if mv_bt (m 19) (nI (k + 1)) = 1 then x + s (k + 1) else x + 0
def mv_fy (m s : Nat → Int32) : Int32 := it (mv_fb m s) 9 0
set_option maxHeartbeats 4000000 in
set_option maxRecDepth 100000 in
theorem k_X5_faulty (l : Launch) (D : va_G) {cI : ClassId} {tys : List (ClassId × FieldType)} (ht0 : tys[0]? = some (cI, .int)) (aJ : Nat → Nat) (J : Nat → Nat → Nat → Int32) (sz : Nat) : kD l yX5_faulty cX5_faulty 1 (some .double) { frames := 4, cells := 0, slots := 0, locals := 91 } D tys [.ref (aJ 0)] (wVM cI aJ J) (wVM cI aJ (vm_pP J)) (fyF (fpF (gt_paint (J 0) (J 5)) (J 0 0 9))) 0 0 sz := by
  refine y_enterD (cc := cX5_faulty) (maxL := 1) (ret := (some .double)) (own := RX5) (by decide) rfl (lv0 := [(0, .ref (aJ 0))]) rfl (Nat.le_of_ble_eq_true rfl) ?_
  intro p e s m args below meth c A Z hr hlk _
  refine y_aload_n Z dX5_faulty_0 0 rfl rfl ?_
  refine y_get (C := RX5) (T := TX5) (N := 8) Z 5 inlX5 rfl 0 rfl 5 (by decide) fl_RX5_39 rfl dX5_faulty_1 ?_
  refine y_aload_n Z dX5_faulty_4 0 rfl rfl ?_
  refine y_get (C := RX5) (T := TX5) (N := 8) Z 5 inlX5 rfl 0 rfl 0 (by decide) fl_RX5_10 rfl dX5_faulty_5 ?_
  refine y_VV Z (k_X2_paint l D ht0 (fun k => aJ (20 + k)) (J 5) (fun k => aJ (1 + k)) (J 0)) (y_cwV 1 Z ml_RX5_89 im_X2_paint se_X2_paint in_X2 co_X2_paint rfl rfl hd_X2_paint ⟨Nat.le_of_ble_eq_true rfl, Nat.le_of_ble_eq_true rfl⟩) [20, 21, 1, 2, 3, 4] rfl (by decide) 2 20 rfl rfl rfl rfl (Nat.le_of_ble_eq_true rfl) dX5_faulty_8 ⟨Nat.le_of_ble_eq_true rfl, Nat.le_of_ble_eq_true rfl⟩ [(aJ 20), (aJ 21), (aJ 1), (aJ 2), (aJ 3), (aJ 4)] rfl rfl (wVMR cI aJ (J 0) (J 1) (J 2) (J 3) (J 4) (gt_paint (J 0) (J 5)) (J 6) (J 7)) rfl ?_
  refine y_aload_n Z dX5_faulty_11 0 rfl rfl ?_
  refine y_get (C := RX5) (T := TX5) (N := 8) Z 5 inlX5 rfl 0 rfl 5 (by decide) fl_RX5_39 rfl dX5_faulty_12 ?_
  refine y_aload_n Z dX5_faulty_15 0 rfl rfl ?_
  refine y_get (C := RX5) (T := TX5) (N := 8) Z 5 inlX5 rfl 0 rfl 0 (by decide) fl_RX5_10 rfl dX5_faulty_16 ?_
  refine y_getN (host := RX5) (C := RX1) (T := TX1) (N := 14) Z 1 inlX1 rfl 1 rfl 9 (by decide) nl_RX5_93 rfl dX5_faulty_19 ?_
  refine y_VI Z (k_X2_faultyParts l D ht0 (fun k => aJ (20 + k)) (gt_paint (J 0) (J 5)) ((J 0) 0 9)) (y_cwV 1 Z ml_RX5_108 im_X2_faultyParts se_X2_faultyParts in_X2 co_X2_faultyParts rfl rfl hd_X2_faultyParts ⟨Nat.le_of_ble_eq_true rfl, Nat.le_of_ble_eq_true rfl⟩) [20, 21] rfl (by decide) 2 20 rfl rfl rfl rfl (Nat.le_of_ble_eq_true rfl) dX5_faulty_22 ⟨Nat.le_of_ble_eq_true rfl, Nat.le_of_ble_eq_true rfl⟩ [(aJ 20), (aJ 21)] rfl rfl (wVMR cI aJ (J 0) (J 1) (J 2) (J 3) (J 4) (gt_paint (J 0) (J 5)) (J 6) (J 7)) rfl ?_
  refine y_i2d Z dX5_faulty_25 ?_
  refine y_ldc2d Z (4696837146684686336) ct_RX5_111 dX5_faulty_26 ?_
  refine y_ddiv Z dX5_faulty_29 (fy_n _) ?_
  exact y_retD Z hr hlk dX5_faulty_30 (by first | (simp only [vm_pP, fyF, if_true, if_false, not_false_eq_true, not_true_eq_false, ↓reduceIte]; done) | (simp only [vm_pP, fyF, if_true, if_false, not_false_eq_true, not_true_eq_false, ↓reduceIte, wMix, wLog, wPic, wRep, wScr, wVM, wMd, sR_eq, sR_ne, sF_eq, sF_ne, upd_eq, upd_ne, gs_eq, gs_ne, gm_4, gm_ne, Nat.reduceBEq]; done) | (with_reducible rfl) | contradiction | (simp only [vm_pP, fyF, if_true, if_false, not_false_eq_true, not_true_eq_false, ↓reduceIte]; rfl) | rfl) (by first | (simp only [vm_pP, fyF, if_true, if_false, not_false_eq_true, not_true_eq_false, ↓reduceIte]; done) | (simp only [vm_pP, fyF, if_true, if_false, not_false_eq_true, not_true_eq_false, ↓reduceIte, wMix, wLog, wPic, wRep, wScr, wVM, wMd, sR_eq, sR_ne, sF_eq, sF_ne, upd_eq, upd_ne, gs_eq, gs_ne, gm_4, gm_ne, Nat.reduceBEq]; done) | (with_reducible rfl) | contradiction | (simp only [vm_pP, fyF, if_true, if_false, not_false_eq_true, not_true_eq_false, ↓reduceIte]; rfl) | rfl)
