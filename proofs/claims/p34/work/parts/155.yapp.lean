/-! calls whose callee has a whole stretch of the world: ws = wl ++ (wc ++ wr) -/
theorem y_appP {D : va_G} {wl wc wr : va_W} {H : Heap} (h : va_P D vwCl (wl ++ (wc ++ wr)) H) : va_P D vwCl wl H ∧ va_P D vwCl wc H ∧ va_P D vwCl wr H := by
  refine ⟨fun k q hq => h k q ?_, fun k q hq => h (wl.length + k) q ?_, fun k q hq => h (wl.length + (wc.length + k)) q ?_⟩
  · rw [List.getElem?_append_left (List.getElem?_eq_some_iff.mp hq).1]; exact hq
  · rw [List.getElem?_append_right (by omega), Nat.add_sub_cancel_left, List.getElem?_append_left (List.getElem?_eq_some_iff.mp hq).1]; exact hq
  · rw [List.getElem?_append_right (by omega), Nat.add_sub_cancel_left, List.getElem?_append_right (by omega), Nat.add_sub_cancel_left]; exact hq
theorem y_appD {A : Nat → Prop} {wl wc wr : va_W} (h : va_D A (wl ++ (wc ++ wr))) : va_D A wl ∧ va_D A wc ∧ va_D A wr ∧ (∀ (i j : Nat) (p q : Nat × va_E), wl[i]? = some p → wc[j]? = some q → p.1 ≠ q.1) ∧ (∀ (i j : Nat) (p q : Nat × va_E), wr[i]? = some p → wc[j]? = some q → p.1 ≠ q.1) ∧ (∀ (i j : Nat) (p q : Nat × va_E), wl[i]? = some p → wr[j]? = some q → p.1 ≠ q.1) := by
  have a1 : ∀ (k : Nat) (q : Nat × va_E), wl[k]? = some q → (wl ++ (wc ++ wr))[k]? = some q := fun k q hq => by
    rw [List.getElem?_append_left (List.getElem?_eq_some_iff.mp hq).1]; exact hq
  have a2 : ∀ (k : Nat) (q : Nat × va_E), wc[k]? = some q → (wl ++ (wc ++ wr))[wl.length + k]? = some q := fun k q hq => by
    rw [List.getElem?_append_right (by omega), Nat.add_sub_cancel_left, List.getElem?_append_left (List.getElem?_eq_some_iff.mp hq).1]; exact hq
  have a3 : ∀ (k : Nat) (q : Nat × va_E), wr[k]? = some q → (wl ++ (wc ++ wr))[wl.length + (wc.length + k)]? = some q := fun k q hq => by
    rw [List.getElem?_append_right (by omega), Nat.add_sub_cancel_left, List.getElem?_append_right (by omega), Nat.add_sub_cancel_left]; exact hq
  refine ⟨⟨fun i j p q hi hj e => h.1 i j p q (a1 i p hi) (a1 j q hj) e, fun k q hq => h.2 k q (a1 k q hq)⟩, ⟨fun i j p q hi hj e => ?_, fun k q hq => h.2 _ q (a2 k q hq)⟩, ⟨fun i j p q hi hj e => ?_, fun k q hq => h.2 _ q (a3 k q hq)⟩, fun i j p q hi hj e => ?_, fun i j p q hi hj e => ?_, fun i j p q hi hj e => ?_⟩
  · have := h.1 _ _ p q (a2 i p hi) (a2 j q hj) e; omega
  · have := h.1 _ _ p q (a3 i p hi) (a3 j q hj) e; omega
  · have h1 := h.1 _ _ p q (a1 i p hi) (a2 j q hj) e
    have h2 := (List.getElem?_eq_some_iff.mp hi).1
    omega
  · have h1 := h.1 _ _ p q (a3 i p hi) (a2 j q hj) e
    have h2 := (List.getElem?_eq_some_iff.mp hj).1
    omega
  · have h1 := h.1 _ _ p q (a1 i p hi) (a3 j q hj) e
    have h2 := (List.getElem?_eq_some_iff.mp hi).1
    omega
theorem y_freeW {A : Nat → Prop} {wl wc wr : va_W} {H0 H : Heap} {locs : List Loc} (hD : va_D A (wl ++ (wc ++ wr))) (hS : va_S A H0 H locs) (hA : ∀ q, H0.size ≤ q → A q) : ∀ q, va_A wc H.size q → A q := by
  intro q h
  rcases h with ⟨k, e, h⟩ | h
  · exact (y_appD hD).2.1.2 k (q, e) h
  · exact hA q (Nat.le_trans hS.1 h)
theorem y_joinW {D : va_G} {A0 : Nat → Prop} {wl wc wr w1 : va_W} {H H1 : Heap} (hP : va_P D vwCl (wl ++ (wc ++ wr)) H) (hD : va_D A0 (wl ++ (wc ++ wr))) (hk : ∀ q : Nat, q < H.size → ¬ va_A wc H.size q → H1[q]? = H[q]?) (hF : ∀ q, va_A wc H.size q → A0 q) (hP1 : va_P D vwCl w1 H1) (hD1 : va_D (va_A wc H.size) w1) : va_P D vwCl (wl ++ (w1 ++ wr)) H1 ∧ va_D A0 (wl ++ (w1 ++ wr)) := by
  obtain ⟨p1, p2, p3⟩ := y_appP hP
  obtain ⟨d1, d2, d3, x1, x2, x3⟩ := y_appD hD
  have kl : ∀ (k : Nat) (q : Nat × va_E), wl[k]? = some q → ¬ va_A wc H.size q.1 := by
    rintro k q hq (⟨j, e, hj⟩ | hz)
    · exact x1 k j q _ hq hj rfl
    · have := (p1 k q hq).lt; omega
  have kr : ∀ (k : Nat) (q : Nat × va_E), wr[k]? = some q → ¬ va_A wc H.size q.1 := by
    rintro k q hq (⟨j, e, hj⟩ | hz)
    · exact x2 k j q _ hq hj rfl
    · have := (p3 k q hq).lt; omega
  refine ⟨va_P.app (p1.kept fun k q hq => hk q.1 (p1 k q hq).lt (kl k q hq)) (va_P.app hP1 (p3.kept fun k q hq => hk q.1 (p3 k q hq).lt (kr k q hq))), va_D.app d1 (va_D.app (hD1.weaken fun k q _ h => hF q.1 h) d3 (fun i j p q hi hj e => kr j q hj (e ▸ hD1.2 i p hi))) (fun i j p q hi hj e => ?_)⟩
  rcases List.mem_append.mp (List.mem_of_getElem? hj) with hm | hm
  · obtain ⟨j2, hj2⟩ := List.getElem?_of_mem hm
    exact kl i p hi (e ▸ hD1.2 j2 q hj2)
  · obtain ⟨j2, hj2⟩ := List.getElem?_of_mem hm
    exact x3 i j2 p q hi hj2 e
section YW
variable {p : Program} {l : Launch} {e : Env} {R : Room} {s : State} {m : MethodId} {args : Array Value} {below : List Frame} {meth : Method} {c : Code} {Q : State → Prop} {D : va_G} {A : Nat → Prop} {nL cells slots : Nat} {lv : List (Nat × Value)} {st : List Value} {pc : Nat}
variable {cc : ByteArray} {Ts : List Cond} {own : String} {tys : List (ClassId × FieldType)} {w1 : va_W}
def yRunW (p : Program) (l : Launch) (e : Env) (R : Room) (s : State) (m : MethodId) (args : Array Value) (below : List Frame) (meth : Method) (c : Code) (D : va_G) (A : Nat → Prop) (nL cells slots mc ms : Nat) (wl wc wr : va_W) (lv : List (Nat × Value)) (st rest : List Value) (pc : Nat) (Qa : (Nat → Prop) → State → Outcome → State → Prop) : Prop :=
  ∀ (H : Heap) (locs : List Loc) (ls : Array Slot), va_P D vwCl (wl ++ (wc ++ wr)) H → va_D A (wl ++ (wc ++ wr)) → lv_has ls nL lv → va_Run p l e R s m args below meth c H locs cells slots mc ms (F0 m pc ls st) rest (Qa (va_A wc H.size)) (va_A wc H.size)
theorem y_runVw {y : MethodName} {bytes : ByteArray} {maxL n index mc ms : Nat} {ret : Option FieldType} {ws' : List Cond} {rm : Room} {C : String} {b : Addr} {As rest : List Value} {wl wc wr : va_W} {Qc : (Nat → Prop) → Array Value → State → Outcome → State → Prop}
    (Z : Zz p m c cc nL s args Ts own D tys A) (hM : ∀ sz, Met l y ws' rm (va_Pc (.ref b :: As) (yPre D tys wc sz)) (Qc (va_A wc sz)) mc ms (va_A wc sz)) (cw : CallW R s args own C index y bytes maxL ret ws' rm mc ms n)
    (ci q0 : Nat) {fs : List Value} {T : u_T} {N : Nat} (hc : vwCl[ci]? = some (C, T, N)) (he : wc[q0]? = some (b, .inr (ci, fs)))
    (hst : st = As.reverse ++ .ref b :: rest) (hn : As.length = n) (hW : (rest.map fun v => v.category).sum ≤ 8) (hdg : decode cc pc = .ok (.invokevirtual index, 3)) (hf : cells + mc ≤ R.cells ∧ slots + ms ≤ R.slots) :
    yRunW p l e R s m args below meth c D A nL cells slots mc ms wl wc wr lv st rest pc (fun B => Qc B (Value.ref b :: As).toArray) := fun H locs ls hP hD hl =>
  va_runV Z.1 (hM H.size) cw ⟨y_blind, va_recv Z.2.1 (y_appP hP).2.1 hc he, fun U hU hW9 => ⟨rfl, by rw [hU], by rw [hU]; exact (y_appP hP).2.1, va_K.moved hW9.alike Z.2.1, (y_appD hD).2.1.weaken (fun _ _ _ _ => trivial), Z.2.2.2.warm hW9⟩⟩ rfl hn hl.1 hst (lv_room hW) hdg hf
theorem y_VIw {y : MethodName} {bytes : ByteArray} {maxL n index mc ms : Nat} {ret : Option FieldType} {rm : Room} {C : String} {b : Addr} {As rest : List Value} {ws wc : va_W} {r : Int32}
    (Z : Zz p m c cc nL s args Ts own D tys A) (hM : ∀ sz, kI l y bytes maxL ret rm D tys (.ref b :: As) wc w1 r mc ms sz) (cw : CallW R s args own C index y bytes maxL ret (Cond.code y bytes maxL ret :: wsL_law) rm mc ms n) (wl : va_W) (wr : va_W) (hws : ws = wl ++ (wc ++ wr))
    (ci q0 : Nat) {fs : List Value} {T : u_T} {N : Nat} (hc : vwCl[ci]? = some (C, T, N)) (he : wc[q0]? = some (b, .inr (ci, fs))) (hst : st = As.reverse ++ .ref b :: rest) (hn : As.length = n) (hW : (rest.map fun v => v.category).sum ≤ 8) (hdg : decode cc pc = .ok (.invokevirtual index, 3)) (hf : cells + mc ≤ R.cells ∧ slots + ms ≤ R.slots) (ws2 : va_W) (hn2 : wl ++ (w1 ++ wr) = ws2)
    (k : Yy p l e R s m args below meth c Q D A nL (cells + mc) (slots + ms) ws2 lv (.int r :: rest) (pc + 3)) : Yy p l e R s m args below meth c Q D A nL cells slots ws lv st pc := by
  subst hws; subst hn2
  exact fun H locs ls hP hD hS hl =>
    have hF := y_freeW hD hS Z.2.2.1
    va_calli (y_runVw (wl := wl) (wr := wr) (Qc := fun B => qI D tys B w1 r) Z (fun sz => hM sz) cw ci q0 hc he hst hn hW hdg hf H locs ls hP hD hl) hS (fun q _ h => hF q h) hF (fun x _ t H1 locs1 ht _ hx hB _ hk hS1 => by
      subst hx
      have hj := y_joinW hP hD hk hF (ht ▸ hB.1) hB.2.2
      exact k H1 locs1 ls hj.1 hj.2 hS1 hl)
theorem y_VLw {y : MethodName} {bytes : ByteArray} {maxL n index mc ms : Nat} {ret : Option FieldType} {rm : Room} {C : String} {b : Addr} {As rest : List Value} {ws wc : va_W} {r : Int64}
    (Z : Zz p m c cc nL s args Ts own D tys A) (hM : ∀ sz, kL l y bytes maxL ret rm D tys (.ref b :: As) wc w1 r mc ms sz) (cw : CallW R s args own C index y bytes maxL ret (Cond.code y bytes maxL ret :: wsL_law) rm mc ms n) (wl : va_W) (wr : va_W) (hws : ws = wl ++ (wc ++ wr))
    (ci q0 : Nat) {fs : List Value} {T : u_T} {N : Nat} (hc : vwCl[ci]? = some (C, T, N)) (he : wc[q0]? = some (b, .inr (ci, fs))) (hst : st = As.reverse ++ .ref b :: rest) (hn : As.length = n) (hW : (rest.map fun v => v.category).sum ≤ 8) (hdg : decode cc pc = .ok (.invokevirtual index, 3)) (hf : cells + mc ≤ R.cells ∧ slots + ms ≤ R.slots) (ws2 : va_W) (hn2 : wl ++ (w1 ++ wr) = ws2)
    (k : Yy p l e R s m args below meth c Q D A nL (cells + mc) (slots + ms) ws2 lv (.long r :: rest) (pc + 3)) : Yy p l e R s m args below meth c Q D A nL cells slots ws lv st pc := by
  subst hws; subst hn2
  exact fun H locs ls hP hD hS hl =>
    have hF := y_freeW hD hS Z.2.2.1
    va_calll (y_runVw (wl := wl) (wr := wr) (Qc := fun B => qL D tys B w1 r) Z (fun sz => hM sz) cw ci q0 hc he hst hn hW hdg hf H locs ls hP hD hl) hS (fun q _ h => hF q h) hF (fun x _ t H1 locs1 ht _ hx hB _ hk hS1 => by
      subst hx
      have hj := y_joinW hP hD hk hF (ht ▸ hB.1) hB.2.2
      exact k H1 locs1 ls hj.1 hj.2 hS1 hl)
theorem y_VVw {y : MethodName} {bytes : ByteArray} {maxL n index mc ms : Nat} {ret : Option FieldType} {rm : Room} {C : String} {b : Addr} {As rest : List Value} {ws wc : va_W}
    (Z : Zz p m c cc nL s args Ts own D tys A) (hM : ∀ sz, kV l y bytes maxL ret rm D tys (.ref b :: As) wc w1 mc ms sz) (cw : CallW R s args own C index y bytes maxL ret (Cond.code y bytes maxL ret :: wsL_law) rm mc ms n) (wl : va_W) (wr : va_W) (hws : ws = wl ++ (wc ++ wr))
    (ci q0 : Nat) {fs : List Value} {T : u_T} {N : Nat} (hc : vwCl[ci]? = some (C, T, N)) (he : wc[q0]? = some (b, .inr (ci, fs))) (hst : st = As.reverse ++ .ref b :: rest) (hn : As.length = n) (hW : (rest.map fun v => v.category).sum ≤ 8) (hdg : decode cc pc = .ok (.invokevirtual index, 3)) (hf : cells + mc ≤ R.cells ∧ slots + ms ≤ R.slots) (ws2 : va_W) (hn2 : wl ++ (w1 ++ wr) = ws2)
    (k : Yy p l e R s m args below meth c Q D A nL (cells + mc) (slots + ms) ws2 lv rest (pc + 3)) : Yy p l e R s m args below meth c Q D A nL cells slots ws lv st pc := by
  subst hws; subst hn2
  exact fun H locs ls hP hD hS hl =>
    have hF := y_freeW hD hS Z.2.2.1
    va_callv (y_runVw (wl := wl) (wr := wr) (Qc := fun B => qV D tys B w1) Z (fun sz => hM sz) cw ci q0 hc he hst hn hW hdg hf H locs ls hP hD hl) hS (fun q _ h => hF q h) hF (fun _ t H1 locs1 ht _ _ hB _ hk hS1 => by
      have hj := y_joinW hP hD hk hF (ht ▸ hB.1) hB.2.2
      exact k H1 locs1 ls hj.1 hj.2 hS1 hl)
theorem y_preXw {w0 wl wr : va_W} {H : Heap} {locs : List Loc} {av : List Value} {U : State} (Z : Zz p m c cc nL s args Ts own D tys A) (X : Xz s A) (hP : va_P D vwCl (wl ++ (w0 ++ wr)) H) (hD : va_D A (wl ++ (w0 ++ wr))) (hS : va_S A s.heap H locs) (hU : U.heap = H) (hW9 : s.WarmedH U.vm) : va_Pc av (yPreX D tys w0 H.size) av.toArray U := by
  have hF := y_freeW hD hS Z.2.2.1
  have z1 := ((X.1.kept (fun a h1 h2 => hS.2.1 a h1 h2)).narrow hF).moved hW9.alike
  have z2 := ((X.2.kept (fun a h1 h2 => hS.2.1 a h1 h2)).narrow hF).moved hW9.alike
  subst hU
  exact ⟨rfl, ⟨rfl, (y_appP hP).2.1, va_K.moved hW9.alike Z.2.1, (y_appD hD).2.1.weaken (fun _ _ _ _ => trivial), Z.2.2.2.warm hW9⟩, z1, z2⟩
theorem y_VBw {y : MethodName} {bytes : ByteArray} {maxL n index : Nat} {ret : Option FieldType} {rm : Room} {C : String} {b : Addr} {As rest : List Value} {ws wc : va_W} {E : String} (Z : Zz p m c cc nL s args wsL_law own D tys A) (X : Xz s A) (hM : ∀ sz, kB l y bytes maxL ret rm D tys (.ref b :: As) wc E sz) (cw : CallW R s args own C index y bytes maxL ret (Cond.code y bytes maxL ret :: wsL_law) rm 1 6 n) (wl wr : va_W) (hws : ws = wl ++ (wc ++ wr))
    (ci q0 : Nat) {fs : List Value} {T : u_T} {N : Nat} (hc : vwCl[ci]? = some (C, T, N)) (he : wc[q0]? = some (b, .inr (ci, fs))) (hst : st = As.reverse ++ .ref b :: rest) (hn : As.length = n) (hW : (rest.map fun v => v.category).sum ≤ 8) (hdg : decode cc pc = .ok (.invokevirtual index, 3)) (hf : cells + 1 ≤ R.cells ∧ slots + 6 ≤ R.slots)
    (k : yCatch p l e R s m args below meth c Q D A nL cells slots ws lv rest pc E) : Yy p l e R s m args below meth c Q D A nL cells slots ws lv st pc := by
  intro H locs ls hP hD hS hl T hT XS
  subst hws
  have hF := y_freeW hD hS Z.2.2.1
  have hr := vx_runV (locs := locs) (cells := cells) (slots := slots) (meth := meth) (below := below) (e := e) Z.1 (hM H.size) cw ⟨y_blindX, va_recv Z.2.1 (y_appP hP).2.1 hc he, fun U hU hW9 => y_preXw Z X hP hD hS hU hW9⟩ (g := F0 m pc ls st) rfl hn hl.1 hst (lv_room hW) hdg hf
  rcases hr T hT XS with ⟨v, st₀, t, T', L, h0, X', hL, e1, e2, hq, st9⟩ | ⟨q, st₀, t, T', L, E', ce, h0, X', hL, e1, e2, hx, hce, hcv, hcl, st9⟩
  · exact hq.elim
  · obtain ⟨u, -, ⟨rfl, hP1, hK1, hD1⟩, hF1⟩ := hx
    obtain ⟨hz, hk, hS1⟩ := vx_keep h0 e1 hS (fun q _ h => hF q h) hF hL hF1
    have hj := y_joinW hP hD hk hF (e1 ▸ hP1) (h0 ▸ hD1)
    obtain ⟨t2, a1, b1⟩ := k T'.heap (locs ++ L) ls q ce hj.1 hj.2 hS1 hl (e1 ▸ hce) hcv hcl T' rfl X'
    exact ⟨t2, st9.trans a1, b1⟩
end YW
