/-! the law's script -/
section YLaw
variable {p : Program} {l : Launch} {e : Env} {R : Room} {s : State} {m : MethodId} {args : Array Value} {below : List Frame} {meth : Method} {c : Code} {Q : State → Prop} {D : va_G} {A : Nat → Prop} {nL cells slots : Nat} {ws : va_W} {lv : List (Nat × Value)} {st : List Value} {pc : Nat}
variable {cc : ByteArray} {Ts : List Cond} {own : String} {tys : List (ClassId × FieldType)}
theorem y_sld (Z : Zz p m c cc nL s args Ts own D tys A) {b L : Nat} {xs : Nat → Int32} (hX : va_X b L xs s s.heap) (hbl : b < s.heap.size) (hbA : ¬ A b) {i : Int32} (hin : vp_in i L) (k0 : Nat) (hk : i.toNatClampNeg = k0) (hdg : decode cc pc = .ok (.iaload, 1)) (k : Yy p l e R s m args below meth c Q D A nL cells slots ws lv (.int (xs k0) :: st) (pc + 1)) : Yy p l e R s m args below meth c Q D A nL cells slots ws lv (.int i :: .ref b :: st) pc := fun H locs ls hP hD hS hl =>
  va_sld Z.1.1 Z.1.2.1 hX hbl hbA hS hin hdg (by subst hk; exact k H locs ls hP hD hS hl)
theorem y_slen (Z : Zz p m c cc nL s args Ts own D tys A) {b L : Nat} {xs : Nat → Int32} (hX : va_X b L xs s s.heap) (hbl : b < s.heap.size) (hbA : ¬ A b) (hdg : decode cc pc = .ok (.arraylength, 1)) (k : Yy p l e R s m args below meth c Q D A nL cells slots ws lv (.int (nI L) :: st) (pc + 1)) : Yy p l e R s m args below meth c Q D A nL cells slots ws lv (.ref b :: st) pc := fun H locs ls hP hD hS hl =>
  va_slen Z.1.1 Z.1.2.1 hX hbl hbA hS hdg (k H locs ls hP hD hS hl)
end YLaw
def ceF (xs : Nat → Int32) (L : Nat) (k : Int32) : Int32 := if nI L ≤ k then 1103515245 * (k + 521) else xs k.toNatClampNeg
abbrev yPreS (D : va_G) (tys : List (ClassId × FieldType)) (b L : Nat) (xs : Nat → Int32) (sz : Nat) (U : State) : Prop := yPre D tys [] sz U ∧ va_X b L xs U U.heap ∧ b < sz
theorem y_blindS {D : va_G} {tys : List (ClassId × FieldType)} {b L : Nat} {xs : Nat → Int32} {sz : Nat} {av : List Value} : FrameBlind (va_Pc av (yPreS D tys b L xs sz)) := fun a U g mk q => by
  obtain ⟨q0, ⟨q1, qP, qK, qD, qN⟩, qX, qb⟩ := q
  exact ⟨q0, ⟨q1, qP, va_K.moved (u := U) (U := U.calling g mk a) (Vm.Alike.refl U.vm) qK, qD, yNst.same (u := U) (U := U.calling g mk a) rfl qN⟩, va_X.moved (u := U) (U := U.calling g mk a) (Vm.Alike.refl U.vm) qX, qb⟩
theorem va_A0 {sz q : Nat} (h : va_A ([] : va_W) sz q) : sz ≤ q := by
  rcases h with ⟨k, e, h⟩ | h
  · simp at h
  · exact h
set_option maxHeartbeats 4000000 in
theorem k_L_cell (l : Launch) (D : va_G) {tys : List (ClassId × FieldType)} {b L : Nat} {xs : Nat → Int32} (hL : L ≤ 260) {k : Int32} (hk : ¬ k < 0) (sz : Nat) : Met l yL_cell (Cond.code yL_cell cL_cell 2 (some .int) :: wsL_law) { frames := 0, cells := 0, slots := 0, locals := 0 } (va_Pc [.ref b, .int k] (yPreS D tys b L xs sz)) (qI D tys (va_A [] sz) [] (ceF xs L k)) 0 0 (va_A [] sz) := by
  refine Met.ofW (cc := cL_cell) (maxL := 2) (ret := some .int) (by decide) rfl ?_
  intro p e s m args below meth c s₁ B hml hv
  obtain ⟨rfl, ⟨hsz, hP, hK, hD0, hN⟩, hX, hb⟩ := hv
  subst hsz
  have Z : Zz p m c cL_cell 2 s (List.toArray [Value.ref b, Value.int k]) wsL_law RL D tys (va_A [] s.heap.size) := y_zz B.exec B.bytes hml (findClass_of_methodNamed B.named) (fun w hw => atoms_spec (ws := Cond.code yL_cell cL_cell 2 (some .int) :: wsL_law) B.pre w (List.mem_cons_of_mem _ hw)) hK hN
  have hr := B.returns
  have hlk := B.notSynchronized
  have hbA : ¬ va_A ([] : va_W) s.heap.size b := fun h => absurd (va_A0 h) (Nat.not_le.mpr hb)
  refine y_entry (A := va_A [] s.heap.size) (Q := QI D tys (va_A [] s.heap.size) [] (ceF xs L k) below (List.toArray [Value.ref b, Value.int k]) s 0 0) (lv0 := [(0, .ref b), (1, .int k)]) rfl (Nat.le_of_ble_eq_true rfl) hP hD0.self ?_
  refine y_iload_n Z dL_cell_0 1 rfl rfl ?_
  refine y_aload_n Z dL_cell_1 0 rfl rfl ?_
  refine y_slen Z hX hb hbA dL_cell_2 ?_
  refine y_icmp_ge (tgt := 12) Z dL_cell_3 (by decide) (fun h1 => ?_) (fun h2 => ?_)
  · refine y_ldc Z (1103515245) ct_RL_7 dL_cell_12 ?_
    refine y_iload_n Z dL_cell_14 1 rfl rfl ?_
    refine y_sipush (v := 521) Z dL_cell_15 (by decide) ?_
    refine y_iadd Z dL_cell_18 ?_
    refine y_imul Z dL_cell_19 ?_
    exact y_retI Z hr hlk dL_cell_20 (by unfold ceF; rw [if_pos h1]) rfl
  · refine y_aload_n Z dL_cell_6 0 rfl rfl ?_
    refine y_iload_n Z dL_cell_7 1 rfl rfl ?_
    refine y_sld Z hX hb hbA (y_vin (by omega) hk h2) k.toNatClampNeg rfl dL_cell_8 ?_
    refine y_goto (tgt := 20) Z dL_cell_9 (by decide) ?_
    exact y_retI Z hr hlk dL_cell_20 (by unfold ceF; rw [if_neg h2]) rfl
theorem y_cellS {p : Program} {l : Launch} {e : Env} {R : Room} {s : State} {m : MethodId} {args : Array Value} {below : List Frame} {meth : Method} {c : Code} {Q : State → Prop} {D : va_G} {A : Nat → Prop} {nL cells slots : Nat} {ws : va_W} {lv : List (Nat × Value)} {pc : Nat} {cc : ByteArray} {own : String} {tys : List (ClassId × FieldType)}
    (Z : Zz p m c cc nL s args wsL_law own D tys A) {b L : Nat} {xs : Nat → Int32} (hX : va_X b L xs s s.heap) (hbl : b < s.heap.size) (hbA : ¬ A b) (hL : L ≤ 260) {k : Int32} (hk : ¬ k < 0) {index : Nat} {rest : List Value} (h1 : Cond.methodLink own index yL_cell ∈ wsL_law) (hW : (rest.map fun v => v.category).sum ≤ 8) (hdg : decode cc pc = .ok (.invokestatic index, 3)) (hf : cells + 0 ≤ R.cells ∧ slots + 0 ≤ R.slots) (hR : 0 + 1 ≤ R.frames ∧ 8 + (2 + 11) + 0 ≤ R.locals)
    (kk : Yy p l e R s m args below meth c Q D A nL cells slots ws lv (.int (ceF xs L k) :: rest) (pc + 3)) : Yy p l e R s m args below meth c Q D A nL cells slots ws lv (.int k :: .ref b :: rest) pc := fun H locs ls hP hD hS hl =>
  have hF : ∀ q, va_A ([] : va_W) H.size q → A q := fun q h => Z.2.2.1 q (Nat.le_trans hS.1 (va_A0 h))
  va_calli (va_runS Z.1 (k_L_cell l D (tys := tys) (b := b) (xs := xs) hL hk H.size) (y_cwS 2 Z h1 st_L_cell in_L co_L_cell rfl rfl hs_L_cell hR) ⟨y_blindS, fun U hU hW9 => ⟨rfl, ⟨by rw [hU], fun k q h => by simp at h, va_K.moved hW9.alike Z.2.1, ⟨fun i j p q h => by simp at h, fun k q h => by simp at h⟩, Z.2.2.2.warm hW9⟩, (va_X.moved hW9.alike hX).kept (by rw [hU]; exact hS.2.1 b hbl hbA), Nat.lt_of_lt_of_le hbl hS.1⟩⟩ rfl rfl hl.1 rfl (lv_room hW) hdg hf) hS (fun q _ h => hF q h) hF (fun x _ t H1 locs1 ht _ hx hB _ hk2 hS1 => by
      subst hx
      exact kk H1 locs1 ls (hP.kept (fun k q hq => hk2 q.1 (hP k q hq).lt (fun z => absurd (va_A0 z) (Nat.not_le.mpr (hP k q hq).lt)))) hD hS1 hl)
