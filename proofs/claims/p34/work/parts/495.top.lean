set_option maxHeartbeats 4000000 in
set_option maxRecDepth 100000 in
theorem law_loop {p : Program} {l : Launch} {e : Env} {s : State} {m : MethodId} {args : Array Value} {below : List Frame} {meth : Method} {c : Code} {Q : State → Prop} {D : va_G} {A : Nat → Prop} {tys : List (ClassId × FieldType)} {cI : ClassId} (Z : Zz p m c cL_law 7 s args wsL_law RL D tys A) (ht0 : tys[0]? = some (cI, .int)) {b L : Nat} {xs : Nat → Int32} (hX : va_X b L xs s s.heap) (hbl : b < s.heap.size) (hbA : ¬ A b) (hL : L ≤ 260) {cells slots : Nat} (hc : cells ≤ 166) (hs : slots ≤ 2944) {aJ aN : Nat → Nat} (K : ∀ J N : Nat → Nat → Nat → Int32, RR J N 45 1200 → Yy p l e room_1 s m args below meth c Q D A 7 cells slots (wVM cI aJ J ++ (wVM cI aN N)) [(0, .ref b), (1, .ref (aJ 0)), (2, .ref (aN 0)), (3, .int 1)] [] 173) : ∀ (n k : Nat) (J N : Nat → Nat → Nat → Int32), k + n = 40 → RR J N (5 + k) (30 * k) → Yy p l e room_1 s m args below meth c Q D A 7 cells slots (wVM cI aJ J ++ (wVM cI aN N)) [(0, .ref b), (1, .ref (aJ 0)), (2, .ref (aN 0)), (3, .int 1), (4, .int (nI k))] [] 128 := by
  intro n
  induction n with
  | zero =>
    intro k J N hk hR
    have hk2 : k = 40 := by omega
    subst hk2
    refine y_iload Z dL_law_128 4 rfl ?_
    refine y_bipush (v := 40) Z dL_law_130 (by decide) ?_
    refine y_icmp_ge (tgt := 173) Z dL_law_132 (by decide) (fun _ => ?_) (fun h => absurd (show (40 : Int32) ≤ nI 40 from Int32.le_refl _) h)
    refine y_lv [0, 1, 2, 3] (lv' := [(0, .ref b), (1, .ref (aJ 0)), (2, .ref (aN 0)), (3, .int 1)]) rfl ?_
    exact K J N hR
  | succ n ih =>
    intro k J N hk hR
    refine y_iload Z dL_law_128 4 rfl ?_
    refine y_bipush (v := 40) Z dL_law_130 (by decide) ?_
    refine y_icmp_ge (tgt := 173) Z dL_law_132 (by decide) (fun h => absurd h (nI_ge (a := k) (b := 40) (by omega) (by omega))) (fun _ => ?_)
    refine y_iload_n Z dL_law_135 3 rfl rfl ?_
    refine y_if_eq (tgt := 173) Z dL_law_136 (by decide) (fun h => absurd h (by decide)) (fun _ => ?_)
    refine y_aload_n Z dL_law_139 1 rfl rfl ?_
    refine y_aload_n Z dL_law_140 2 rfl rfl ?_
    refine y_aload_n Z dL_law_141 0 rfl rfl ?_
    refine y_iload Z dL_law_142 4 rfl ?_
    refine y_cellS Z hX hbl hbA hL (nI_pos (by omega)) ml_RL_94 (Nat.le_of_ble_eq_true rfl) dL_law_144 ⟨hc, hs⟩ ⟨Nat.le_of_ble_eq_true rfl, Nat.le_of_ble_eq_true rfl⟩ ?_
    obtain ⟨J1, N1, hR1, hK⟩ := step_all l D ht0 aJ J aN N (ceF xs L (nI k)) hR (by omega) (by omega)
    refine y_SIw (rest := []) Z hK (y_cwS 3 Z ml_RL_98 st_L_isStep in_L co_L_isStep rfl rfl hs_L_isStep ⟨Nat.le_of_ble_eq_true rfl, Nat.le_of_ble_eq_true rfl⟩) List.nil List.nil (by simp only [List.nil_append, List.append_nil]) rfl rfl (Nat.le_of_ble_eq_true rfl) dL_law_147 ⟨hc, hs⟩ (wVM cI aJ J1 ++ (wVM cI aN N1)) (by simp only [List.nil_append, List.append_nil]) ?_
    refine y_if_eq (tgt := 165) Z dL_law_150 (by decide) (fun h => absurd h (by decide)) (fun _ => ?_)
    refine y_aload_n Z dL_law_153 1 rfl rfl ?_
    refine y_aload_n Z dL_law_154 2 rfl rfl ?_
    refine y_SIw (rest := []) Z (k_L_areAlike l D ht0 aJ J1 aN N1 hR1) (y_cwS 2 Z ml_RL_102 st_L_areAlike in_L co_L_areAlike rfl rfl hs_L_areAlike ⟨Nat.le_of_ble_eq_true rfl, Nat.le_of_ble_eq_true rfl⟩) List.nil List.nil (by simp only [List.nil_append, List.append_nil]) rfl rfl (Nat.le_of_ble_eq_true rfl) dL_law_155 ⟨hc, hs⟩ (wVM cI aJ (it alO 10 (al0 J1)) ++ (wVM cI aN (it alP 10 (al0 N1)))) (by simp only [List.nil_append, List.append_nil]) ?_
    refine y_if_eq (tgt := 165) Z dL_law_158 (by decide) (fun h => absurd h (by decide)) (fun _ => ?_)
    refine y_iconst (v := 1) Z dL_law_161 (by decide) ?_
    refine y_goto (tgt := 166) Z dL_law_162 (by decide) ?_
    refine y_istore_n Z [(3, .int 1), (0, .ref b), (1, .ref (aJ 0)), (2, .ref (aN 0)), (4, .int (nI k))] dL_law_166 rfl (by decide) rfl ?_
    refine y_iinc Z [(4, .int (nI (k + 1))), (3, .int 1), (0, .ref b), (1, .ref (aJ 0)), (2, .ref (aN 0))] dL_law_167 4 rfl (nI_1 _) (by decide) rfl ?_
    refine y_goto (tgt := 128) Z dL_law_170 (by decide) ?_
    refine y_lv [2, 3, 4, 1, 0] (lv' := [(0, .ref b), (1, .ref (aJ 0)), (2, .ref (aN 0)), (3, .int 1), (4, .int (nI (k + 1)))]) rfl ?_
    exact ih (k + 1) _ _ (by omega) (rr_mo (rr_al hR1 10) (by omega) (by omega))
set_option maxHeartbeats 4000000 in
theorem law_Z7 {p : Program} {l : Launch} {e : Env} {s : State} {m : MethodId} {args : Array Value} {below : List Frame} {meth : Method} {c : Code} {Q : State → Prop} {D : va_G} {A : Nat → Prop} {tys : List (ClassId × FieldType)} {cI : ClassId} (Z : Zz p m c cL_law 7 s args wsL_law RL D tys A) (ht0 : tys[0]? = some (cI, .int)) {b L : Nat} {xs : Nat → Int32} (hX : va_X b L xs s s.heap) (hbl : b < s.heap.size) (hbA : ¬ A b) (hL : L ≤ 260) {cells slots : Nat} (hc : cells ≤ 166) (hs : slots ≤ 2944) {aJ aN : Nat → Nat} {J1 J N : Nat → Nat → Nat → Int32} {E F : Nat → Int32} {a t : Nat} {d0 : Int64} (k1 : KV J1 E a t) (k7 : KV J F a t) (g : ∀ i, i < 6 * a → F i = E i) (hd : d0 = (haX (J1 3) (dgH J1)).1) (K : ∀ (J' N' : Nat → Nat → Nat → Int32) (lv : List (Nat × Value)), Yy p l e room_1 s m args below meth c Q D A 7 cells slots (wVM cI aJ J' ++ (wVM cI aN N')) lv [.int 1] 307) : Yy p l e room_1 s m args below meth c Q D A 7 cells slots (wVM cI aJ J ++ (wVM cI aN N)) [(0, .ref b), (1, .ref (aJ 0)), (2, .ref (aN 0)), (3, .int 1), (4, .long d0), (6, .int (nI a))] [] 275 := by
  subst hd
  refine law_E Z ht0 hX hbl hbA hL hc hs (a := a) ⟨F, a, t, k7⟩ (kv_dg k1 k7 g).symm ?_
  exact K _ _ _
set_option maxHeartbeats 4000000 in
theorem law_Z5 {p : Program} {l : Launch} {e : Env} {s : State} {m : MethodId} {args : Array Value} {below : List Frame} {meth : Method} {c : Code} {Q : State → Prop} {D : va_G} {A : Nat → Prop} {tys : List (ClassId × FieldType)} {cI : ClassId} (Z : Zz p m c cL_law 7 s args wsL_law RL D tys A) (ht0 : tys[0]? = some (cI, .int)) {b L : Nat} {xs : Nat → Int32} (hX : va_X b L xs s s.heap) (hbl : b < s.heap.size) (hbA : ¬ A b) (hL : L ≤ 260) {cells slots : Nat} (hc : cells ≤ 166) (hs : slots ≤ 2944) {aJ aN : Nat → Nat} {J1 J N : Nat → Nat → Nat → Int32} {E F : Nat → Int32} {a t : Nat} {d0 : Int64} (k1 : KV J1 E a t) (k5 : KV J F a t) (g : ∀ i, i < 6 * a → F i = E i) (hd : d0 = (haX (J1 3) (dgH J1)).1) (ha : a < 99) (K : ∀ (J' N' : Nat → Nat → Nat → Int32) (lv : List (Nat × Value)), Yy p l e room_1 s m args below meth c Q D A 7 cells slots (wVM cI aJ J' ++ (wVM cI aN N')) lv [.int 1] 307) : Yy p l e room_1 s m args below meth c Q D A 7 cells slots (wVM cI aJ J ++ (wVM cI aN N)) [(0, .ref b), (1, .ref (aJ 0)), (2, .ref (aN 0)), (3, .int 1), (4, .long d0), (6, .int (nI a))] [] 257 := by
  have hM6 : okM J 6 := kv_okM k5 (by omega) (ps_1 _ (by decide) (by decide) (by decide))
  have k6 : KV (vm_enact J 6 (-1) (-1) (-1) (-1)) (mr_la F a (nI t) (nI 6) (-1) (-1) (-1) (-1)) (a + 1) t := (kv_en k5 (w := 6) (Or.inr (Or.inr (Or.inr (Or.inr (Or.inr (Or.inr (Or.inl rfl))))))) hM6 (by omega)).2
  obtain ⟨r0, r1, r2, r3, F7, r4, k7⟩ := kv_tk k6
  refine law_D Z ht0 hX hbl hbA hL hc hs (a := a) (d0 := d0) ⟨F, a, t, k5⟩ hM6 r0 r1 r2 r3 ?_
  exact law_Z7 Z ht0 hX hbl hbA hL hc hs k1 k7 (fun i hi => (r4 i hi).trans ((la_lo F a _ _ _ _ _ _ hi).trans (g i hi))) hd K
set_option maxHeartbeats 4000000 in
theorem law_Z3 {p : Program} {l : Launch} {e : Env} {s : State} {m : MethodId} {args : Array Value} {below : List Frame} {meth : Method} {c : Code} {Q : State → Prop} {D : va_G} {A : Nat → Prop} {tys : List (ClassId × FieldType)} {cI : ClassId} (Z : Zz p m c cL_law 7 s args wsL_law RL D tys A) (ht0 : tys[0]? = some (cI, .int)) {b L : Nat} {xs : Nat → Int32} (hX : va_X b L xs s s.heap) (hbl : b < s.heap.size) (hbA : ¬ A b) (hL : L ≤ 260) {cells slots : Nat} (hc : cells ≤ 166) (hs : slots ≤ 2944) {aJ aN : Nat → Nat} {J1 J N : Nat → Nat → Nat → Int32} {E F : Nat → Int32} {a t : Nat} {d0 : Int64} (k1 : KV J1 E a t) (k3 : KV J F (a + 1) t) (g : ∀ i, i < 6 * a → F i = E i) (hd : d0 = (haX (J1 3) (dgH J1)).1) (ha : a < 99) (K : ∀ (J' N' : Nat → Nat → Nat → Int32) (lv : List (Nat × Value)), Yy p l e room_1 s m args below meth c Q D A 7 cells slots (wVM cI aJ J' ++ (wVM cI aN N')) lv [.int 1] 307) : Yy p l e room_1 s m args below meth c Q D A 7 cells slots (wVM cI aJ J ++ (wVM cI aN N)) [(0, .ref b), (1, .ref (aJ 0)), (2, .ref (aN 0)), (3, .int 1), (4, .long d0), (6, .int (nI a))] [] 238 := by
  obtain ⟨q0, q1, q2, q3, F4, q4, k4⟩ := kv_tk k3
  have hL3 := (kv_d k3).2.2.2.2.1.1
  have e3 : J 3 0 0 - 1 = nI a := by
    rw [hL3, show (1 : Int32) = nI 1 from rfl, nI_sub (by omega) (by omega)]; rfl
  have hu : okU J := fun z => by
    rw [hL3] at z
    exact absurd ((nI_z (by omega)).mp z) (by omega)
  have g4 : ∀ i, i < 6 * a → F4 i = E i := fun i hi => (q4 i hi).trans (g i hi)
  rw [← e3] at q1 q2 q3 k4
  refine law_C Z ht0 hX hbl hbA hL hc hs (d0 := d0) (a := a) hu q1 q2 (q3.trans e3) ⟨F4, a, t, k4⟩ (by rw [hd]; exact (kv_dg k1 k4 g4).symm) ?_
  generalize vm_tk J (J 3 0 0 - 1) = J4 at k4 ⊢
  exact law_Z5 Z ht0 hX hbl hbA hL hc hs k1 (J := vm_tal J4) (kv_cg k4 rfl rfl rfl) g4 hd ha K
set_option maxHeartbeats 4000000 in
theorem law_Z1 {p : Program} {l : Launch} {e : Env} {s : State} {m : MethodId} {args : Array Value} {below : List Frame} {meth : Method} {c : Code} {Q : State → Prop} {D : va_G} {A : Nat → Prop} {tys : List (ClassId × FieldType)} {cI : ClassId} (Z : Zz p m c cL_law 7 s args wsL_law RL D tys A) (ht0 : tys[0]? = some (cI, .int)) {b L : Nat} {xs : Nat → Int32} (hX : va_X b L xs s s.heap) (hbl : b < s.heap.size) (hbA : ¬ A b) (hL : L ≤ 260) {cells slots : Nat} (hc : cells ≤ 166) (hs : slots ≤ 2944) {aJ aN : Nat → Nat} {J1 J N : Nat → Nat → Nat → Int32} {E F : Nat → Int32} {a t : Nat} (k1 : KV J E a t) (ha : a < 99) (K : ∀ (J' N' : Nat → Nat → Nat → Int32) (lv : List (Nat × Value)), Yy p l e room_1 s m args below meth c Q D A 7 cells slots (wVM cI aJ J' ++ (wVM cI aN N')) lv [.int 1] 307) : Yy p l e room_1 s m args below meth c Q D A 7 cells slots (wVM cI aJ J ++ (wVM cI aN N)) [(0, .ref b), (1, .ref (aJ 0)), (2, .ref (aN 0)), (3, .int 1)] [] 203 := by
  have k2 : KV (vm_tal J) E a t := kv_cg k1 rfl rfl rfl
  have hM5 : okM (vm_tal J) 5 := kv_okM k2 (by omega) (ps_1 _ (by decide) (by decide) (by decide))
  refine law_B Z ht0 hX hbl hbA hL hc hs (a := a) ⟨E, a, t, k1⟩ ((psF_8 _).trans (kv_d k2).2.2.2.2.1.1) hM5 ?_
  have k3 : KV (vm_enact (vm_tal J) 5 (upF (ceF xs L 41) 3) (-1) (-1) (-1)) (mr_la E a (nI t) (nI 5) (upF (ceF xs L 41) 3) (-1) (-1) (-1)) (a + 1) t := (kv_en k2 (w := 5) (Or.inr (Or.inr (Or.inr (Or.inr (Or.inr (Or.inl ⟨rfl, okK_rg (up_K _)⟩)))))) hM5 (by omega)).2
  exact law_Z3 Z ht0 hX hbl hbA hL hc hs k1 k3 (fun i hi => la_lo E a _ _ _ _ _ _ hi) rfl ha K
set_option maxHeartbeats 4000000 in
theorem law_Z {p : Program} {l : Launch} {e : Env} {s : State} {m : MethodId} {args : Array Value} {below : List Frame} {meth : Method} {c : Code} {Q : State → Prop} {D : va_G} {A : Nat → Prop} {tys : List (ClassId × FieldType)} {cI : ClassId} (Z : Zz p m c cL_law 7 s args wsL_law RL D tys A) (ht0 : tys[0]? = some (cI, .int)) {b L : Nat} {xs : Nat → Int32} (hX : va_X b L xs s s.heap) (hbl : b < s.heap.size) (hbA : ¬ A b) (hL : L ≤ 260) {cells slots : Nat} (hc : cells ≤ 166) (hs : slots ≤ 2944) {aJ aN : Nat → Nat} {J N : Nat → Nat → Nat → Int32} {n τ : Nat} (hR : RR J N n τ) (hn : n < 98) (K : ∀ (J' N' : Nat → Nat → Nat → Int32) (lv : List (Nat × Value)), Yy p l e room_1 s m args below meth c Q D A 7 cells slots (wVM cI aJ J' ++ (wVM cI aN N')) lv [.int 1] 307) : Yy p l e room_1 s m args below meth c Q D A 7 cells slots (wVM cI aJ J ++ (wVM cI aN N)) [(0, .ref b), (1, .ref (aJ 0)), (2, .ref (aN 0)), (3, .int 1)] [] 173 := by
  refine law_A Z ht0 hX hbl hbA hL hc hs hR ?_
  obtain ⟨E, F, a, t, h1, -, -, -, -, han, -⟩ := hR
  exact law_Z1 Z ht0 hX hbl hbA hL hc hs (J1 := J) (F := F) (J := soE (it soS 10 J)) (kv_cgs h1 ⟨(se_o (it soS 10 J)).1.trans (it_o so_o J 10).1, (se_o (it soS 10 J)).2.1.trans (it_o so_o J 10).2.1, (se_o (it soS 10 J)).2.2.trans (it_o so_o J 10).2.2⟩) (by omega) K
