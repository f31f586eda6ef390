section YRem
variable {p : Program} {l : Launch} {e : Env} {R : Room} {s : State} {m : MethodId} {args : Array Value} {below : List Frame} {meth : Method} {c : Code} {Q : State → Prop} {D : va_G} {A : Nat → Prop} {nL cells slots : Nat} {ws : va_W} {lv : List (Nat × Value)} {st : List Value} {pc : Nat}
variable {cc : ByteArray} {Ts : List Cond} {own : String} {tys : List (ClassId × FieldType)} {w1 : va_W}
theorem y_irem (Z : Zz p m c cc nL s args Ts own D tys A) {x y : Int32} (hdg : decode cc pc = .ok (.irem, 1)) (hne : ¬ y = 0) (k : Yy p l e R s m args below meth c Q D A nL cells slots ws lv (.int (x % y) :: st) (pc + 1)) : Yy p l e R s m args below meth c Q D A nL cells slots ws lv (.int y :: .int x :: st) pc := fun H locs ls hP hD hS hl =>
  lv_irem Z.1.1 Z.1.2.1 hdg hne (by rw [irem_eq_mod]; exact k H locs ls hP hD hS hl)
theorem y_dconst1 (Z : Zz p m c cc nL s args Ts own D tys A) (hdg : decode cc pc = .ok (.dconst 1, 1)) (k : Yy p l e R s m args below meth c Q D A nL cells slots ws lv (.double FP.dconst1 :: st) (pc + 1)) : Yy p l e R s m args below meth c Q D A nL cells slots ws lv st pc := fun H locs ls hP hD hS hl =>
  lv_dconst1 Z.1.1 Z.1.2.1 hdg (k H locs ls hP hD hS hl)
theorem y_runSw {y : MethodName} {bytes : ByteArray} {maxL n index mc ms : Nat} {ret : Option FieldType} {ws' : List Cond} {rm : Room} {As rest : List Value} {wl wc wr : va_W} {Qc : (Nat → Prop) → Array Value → State → Outcome → State → Prop}
    (Z : Zz p m c cc nL s args Ts own D tys A) (hM : ∀ sz, Met l y ws' rm (va_Pc As (yPre D tys wc sz)) (Qc (va_A wc sz)) mc ms (va_A wc sz)) (cw : CallB R s args own index y bytes maxL ret ws' rm mc ms n ∧ (Cond.static y).before args s = true)
    (hst : st = As.reverse ++ rest) (hn : As.length = n) (hW : (rest.map fun v => v.category).sum ≤ 8) (hdg : decode cc pc = .ok (.invokestatic index, 3)) (hf : cells + mc ≤ R.cells ∧ slots + ms ≤ R.slots) :
    yRunW p l e R s m args below meth c D A nL cells slots mc ms wl wc wr lv st rest pc (fun B => Qc B As.toArray) := fun H locs ls hP hD hl =>
  va_runS Z.1 (hM H.size) cw ⟨y_blind, fun U hU hW9 => ⟨rfl, by rw [hU], by rw [hU]; exact (y_appP hP).2.1, va_K.moved hW9.alike Z.2.1, (y_appD hD).2.1.weaken (fun _ _ _ _ => trivial), Z.2.2.2.warm hW9⟩⟩ rfl hn hl.1 hst (lv_room hW) hdg hf
/-- a static call whose callee has a whole stretch of the world -/
theorem y_SIw {y : MethodName} {bytes : ByteArray} {maxL n index mc ms : Nat} {ret : Option FieldType} {rm : Room} {As rest : List Value} {ws wc : va_W} {r : Int32}
    (Z : Zz p m c cc nL s args Ts own D tys A) (hM : ∀ sz, kI l y bytes maxL ret rm D tys As wc w1 r mc ms sz) (cw : CallB R s args own index y bytes maxL ret (Cond.code y bytes maxL ret :: wsL_law) rm mc ms n ∧ (Cond.static y).before args s = true) (wl : va_W) (wr : va_W) (hws : ws = wl ++ (wc ++ wr))
    (hst : st = As.reverse ++ rest) (hn : As.length = n) (hW : (rest.map fun v => v.category).sum ≤ 8) (hdg : decode cc pc = .ok (.invokestatic index, 3)) (hf : cells + mc ≤ R.cells ∧ slots + ms ≤ R.slots) (ws2 : va_W) (hn2 : wl ++ (w1 ++ wr) = ws2)
    (k : Yy p l e R s m args below meth c Q D A nL (cells + mc) (slots + ms) ws2 lv (.int r :: rest) (pc + 3)) : Yy p l e R s m args below meth c Q D A nL cells slots ws lv st pc := by
  subst hws; subst hn2
  exact fun H locs ls hP hD hS hl =>
    have hF := y_freeW hD hS Z.2.2.1
    va_calli (y_runSw (wl := wl) (wr := wr) (Qc := fun B => qI D tys B w1 r) Z (fun sz => hM sz) cw hst hn hW hdg hf H locs ls hP hD hl) hS (fun q _ h => hF q h) hF (fun x _ t H1 locs1 ht _ hx hB _ hk hS1 => by
      subst hx
      have hj := y_joinW hP hD hk hF (ht ▸ hB.1) hB.2.2
      exact k H1 locs1 ls hj.1 hj.2 hS1 hl)
end YRem
