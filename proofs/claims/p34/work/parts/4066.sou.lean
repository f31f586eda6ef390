/-! one mixer: its shares are the whole picture -/
def sumN (a : Nat → Nat) : Nat → Nat
  | 0 => 0
  | n + 1 => sumN a n + a n
def NN (s : Nat → Int32) : Prop := ∃ a : Nat → Nat, (∀ k, k < 10 → s k = nI (a k)) ∧ sumN a 10 = 1000000
theorem sumN_c {a b : Nat → Nat} : ∀ n : Nat, (∀ k, k < n → a k = b k) → sumN a n = sumN b n
  | 0, _ => rfl
  | n + 1, h => by
    show sumN a n + a n = sumN b n + b n
    rw [sumN_c n (fun k hk => h k (by omega)), h n (by omega)]
theorem sumN_z : ∀ n : Nat, sumN (fun _ => 0) n = 0
  | 0 => rfl
  | n + 1 => by show sumN _ n + 0 = 0; rw [sumN_z n]
theorem sumN_u (a : Nat → Nat) (p v : Nat) : ∀ n : Nat, sumN (fun k => if k = p then a k + v else a k) n = sumN a n + if p < n then v else 0
  | 0 => rfl
  | n + 1 => by
    show sumN _ n + (if n = p then a n + v else a n) = sumN a n + a n + _
    rw [sumN_u a p v n]
    by_cases e : n = p
    · rw [if_pos e, if_neg (by omega), if_pos (by omega)]; omega
    · rw [if_neg e]
      by_cases f : p < n
      · rw [if_pos f, if_pos (by omega)]; omega
      · rw [if_neg f, if_neg (by omega)]; omega
theorem sumN_d (a b : Nat → Nat) : ∀ n : Nat, (∀ k, k < n → b k ≤ a k) → sumN (fun k => a k - b k) n + sumN b n = sumN a n
  | 0, _ => rfl
  | n + 1, h => by
    have q := sumN_d a b n (fun k hk => h k (by omega))
    have z := h n (by omega)
    show sumN (fun k => a k - b k) n + (a n - b n) + (sumN b n + b n) = sumN a n + a n
    omega
theorem sumN_1 (a : Nat → Nat) {k : Nat} : ∀ n : Nat, k < n → a k ≤ sumN a n
  | 0, h => by omega
  | n + 1, h => by
    show a k ≤ sumN a n + a n
    by_cases e : k = n
    · subst e; omega
    · have := sumN_1 a (k := k) n (by omega); omega
theorem sumN_m (a b : Nat → Nat) : ∀ n : Nat, (∀ k, k < n → b k ≤ a k) → sumN b n ≤ sumN a n
  | 0, _ => Nat.le_refl _
  | n + 1, h => by
    have q := sumN_m a b n (fun k hk => h k (by omega))
    have z := h n (by omega)
    show sumN b n + b n ≤ sumN a n + a n
    omega
theorem sm_n {s : Nat → Int32} {a : Nat → Nat} : ∀ n : Nat, (∀ k, k < n → s k = nI (a k)) → sm s n = nI (sumN a n)
  | 0, _ => rfl
  | n + 1, h => by
    show sm s n + s n = nI (sumN a n + a n)
    rw [sm_n n (fun k hk => h k (by omega)), h n (by omega), nI_add]
/-- the background -/
theorem sb_n {m : Nat → Int32} (o : mOk m) (s : Nat → Int32) : NN (mr_sb m (it mr_z 10 s)) := by
  obtain ⟨p, -, hp, ep⟩ := o.1
  obtain ⟨q, -, hq, eq⟩ := o.2.1
  obtain ⟨t, -, ht, et⟩ := o.2.2.2.2.2.1
  have hz : ∀ k, k < 10 → it mr_z 10 s k = nI 0 := fun k hk => by rw [z_at, if_pos hk]; rfl
  have one : ∀ {r : Nat → Int32} {a : Nat → Nat} {p v : Nat}, (∀ k, k < 10 → r k = nI (a k)) → p < 10 → ∀ k, k < 10 → mr_ad r p (nI v) k = nI (if k = p then a k + v else a k) := fun {r a p v} h hp k hk => by
    unfold mr_ad
    rw [upd_at]
    by_cases e : k = p
    · subst e; rw [if_pos rfl, if_pos rfl, h k hk, nI_add]
    · rw [if_neg e, if_neg e, h k hk]
  have two : ∀ {x y u v : Nat}, x < 10 → y < 10 → u + v = 1000000 → NN (mr_ad (mr_ad (it mr_z 10 s) x (nI u)) y (nI v)) := fun {x y u v} hx hy h => by
    refine ⟨_, one (one hz hx) hy, ?_⟩
    rw [sumN_u _ y v 10, if_pos hy]
    rw [sumN_u (fun _ => 0) x u 10, if_pos hx, sumN_z]; omega
  unfold mr_sb
  rw [ep, eq, et, cl_k (show p < 2 ^ 31 by omega), cl_k (show q < 2 ^ 31 by omega)]
  obtain ⟨b1, b2, b3, b4, b5⟩ := bg_a t (by omega)
  split
  · refine ⟨_, one (v := 1000000) hz (show p < 10 by omega), ?_⟩
    rw [sumN_u (fun _ => 0) p 1000000 10, if_pos (by omega), sumN_z]
  · split
    · rw [← b2, ← b3]
      split
      · rename_i h5
        have h500 : 500 < t := (nI_ltI (a := 500) (b := t) (by omega) (by omega)).mp h5
        have e1 : (2000000 : Int32) - 2 * (nI t * 1000) = nI (2000000 - 2 * (t * 1000)) := by
          rw [show (1000 : Int32) = nI 1000 from rfl, show (2 : Int32) = nI 2 from rfl, show (2000000 : Int32) = nI 2000000 from rfl, nI_muln, nI_muln, nI_sub (by omega) (by omega)]
        have e2 : 2 * (nI t * 1000) - (1000000 : Int32) = nI (2 * (t * 1000) - 1000000) := by
          rw [show (1000 : Int32) = nI 1000 from rfl, show (2 : Int32) = nI 2 from rfl, show (1000000 : Int32) = nI 1000000 from rfl, nI_muln, nI_muln, nI_sub (by omega) (by omega)]
        rw [e1, e2]; exact two (by omega) (by omega) (by omega)
      · rename_i h5
        have h500 : t ≤ 500 := by
          have := mt (nI_ltI (a := 500) (b := t) (by omega) (by omega)).mpr h5
          omega
        rw [← b4, ← b5]
        have e1 : (1000000 : Int32) - 2 * (nI t * 1000) = nI (1000000 - 2 * (t * 1000)) := by
          rw [show (1000 : Int32) = nI 1000 from rfl, show (2 : Int32) = nI 2 from rfl, show (1000000 : Int32) = nI 1000000 from rfl, nI_muln, nI_muln, nI_sub (by omega) (by omega)]
        have e2 : 2 * (nI t * 1000) = nI (2 * (t * 1000)) := by
          rw [show (1000 : Int32) = nI 1000 from rfl, show (2 : Int32) = nI 2 from rfl, nI_muln, nI_muln]
        rw [e1, e2]; exact two (by omega) (by omega) (by omega)
    · rw [← b1]
      have e1 : (1000000 : Int32) - nI t * 1000 = nI (1000000 - t * 1000) := by
        rw [show (1000 : Int32) = nI 1000 from rfl, show (1000000 : Int32) = nI 1000000 from rfl, nI_muln, nI_sub (by omega) (by omega)]
      have e2 : nI t * 1000 = nI (t * 1000) := by rw [show (1000 : Int32) = nI 1000 from rfl, nI_muln]
      rw [e1, e2]; exact two (by omega) (by omega) (by omega)
/-- what a keyer takes -/
theorem tk_n {a c : Nat} (ha : a ≤ 1000000) (hc : c ≤ 10000) : tkx (nI c) (nI a) = nI (a * c / 10000) ∧ a * c / 10000 ≤ a := by
  have hm : a * c ≤ 1000000 * 10000 := Nat.mul_le_mul ha hc
  have hd : a * c / 10000 ≤ a := by
    have : a * c ≤ a * 10000 := Nat.mul_le_mul_left a hc
    omega
  refine ⟨?_, hd⟩
  have e1 : ∀ {n : Nat}, n < 2 ^ 31 → (Int32.toInt64 (nI n)).toInt = (n : Int) := fun {n} h => by rw [Int32.toInt_toInt64, nI_toInt h]
  have e2 : (Int32.toInt64 (nI a) * Int32.toInt64 (nI c)).toInt = ((a * c : Nat) : Int) := by
    rw [Int64.toInt_mul, e1 (by omega), e1 (by omega), ← Int.natCast_mul, Int.bmod_eq_of_le (by omega) (by omega)]
  have e3 : (Int32.toInt64 (nI a) * Int32.toInt64 (nI c) / 10000).toInt = ((a * c / 10000 : Nat) : Int) := by
    rw [Int64.toInt_div, e2, show ((10000 : Int64)).toInt = ((10000 : Nat) : Int) from by decide]
    rw [← Int.ofNat_tdiv, Int.bmod_eq_of_le (by omega) (by omega)]
  unfold tkx
  apply Int32.toInt_inj.mp
  rw [Int64.toInt_toInt32, e3, nI_toInt (by omega), Int.bmod_eq_of_le (by omega) (by omega)]
theorem cv_n {m s : Nat → Int32} (o : mOk m) (h : NN s) {j : Nat} (hj : j < 3) {c : Nat} (hc : c ≤ 10000) : NN (mr_cv m (nI j) (nI c) s) := by
  obtain ⟨a, ha, hs⟩ := h
  obtain ⟨p, -, hp, ep⟩ := (o.2.2.2.2.2.2.2.1 j hj).1
  have hA : ∀ k, k < 10 → a k ≤ 1000000 := fun k hk => by have := sumN_1 a (k := k) 10 hk; omega
  have hB : ∀ k, k < 10 → a k * c / 10000 ≤ a k := fun k hk => (tk_n (hA k hk) hc).2
  have t1 : ∀ k, k < 10 → (it (mr_ts (nI c)) 10 (s, 0)).1 k = nI (a k - a k * c / 10000) := fun k hk => by
    rw [(ta_at (nI c) s 10).1, if_pos hk, ha k hk, (tk_n (hA k hk) hc).1, nI_sub (hB k hk) (by have := hA k hk; omega)]
  have t2 : (it (mr_ts (nI c)) 10 (s, 0)).2 = nI (sumN (fun k => a k * c / 10000) 10) := by
    rw [(ta_at (nI c) s 10).2]
    exact sm_n 10 (fun k hk => by rw [ha k hk]; exact (tk_n (hA k hk) hc).1)
  unfold mr_cv mr_ta
  rw [kx0 hj, ep, cl_k (show p < 2 ^ 31 by omega)]
  refine ⟨fun k => if k = p then (a k - a k * c / 10000) + sumN (fun k => a k * c / 10000) 10 else a k - a k * c / 10000, fun k hk => ?_, ?_⟩
  · rw [upd_at]
    by_cases e : k = p
    · subst e; rw [if_pos rfl]; show _ = nI (if k = k then _ else _); rw [if_pos rfl, t1 k hk, t2, nI_add]
    · rw [if_neg e]; show _ = nI (if k = p then _ else _); rw [if_neg e, t1 k hk]
  · rw [sumN_u (fun k => a k - a k * c / 10000) p _ 10, if_pos (show p < 10 by omega), sumN_d a (fun k => a k * c / 10000) 10 hB]
    exact hs
theorem co_n {m : Nat → Int32} (o : mOk m) {j : Nat} (hj : j < 3) : ∃ c : Nat, c ≤ 10000 ∧ mv_co m (nI j) (m 5) = nI c := by
  obtain ⟨-, ⟨x, -, hx, ex⟩, ⟨y, -, hy, ey⟩, ⟨z, -, hz, ez⟩⟩ := o.2.2.2.2.2.2.2.1 j hj
  obtain ⟨t, -, ht, et⟩ := o.2.2.2.2.2.1
  have hxy : x * y ≤ 100 * 100 := Nat.mul_le_mul hx hy
  unfold mv_co
  rw [kx1 hj, kx2 hj, kx3 hj, ex, ey, ez, et]
  split
  · refine ⟨x * y * z, ?_, by rw [nI_muln, nI_muln]⟩
    have : x * y * z ≤ x * y * 1 := Nat.mul_le_mul_left _ hz
    omega
  · have key : ∀ w : Nat, w ≤ 1000 → ∃ c : Nat, c ≤ 10000 ∧ nI x * nI y * nI w / 1000 = nI c := fun w hw => by
      have h1 : x * y * w ≤ 10000 * 1000 := Nat.mul_le_mul hxy hw
      have h2 : x * y * w ≤ x * y * 1000 := Nat.mul_le_mul_left _ hw
      refine ⟨x * y * w / 1000, by omega, ?_⟩
      rw [nI_muln, nI_muln, show (1000 : Int32) = nI 1000 from rfl, nI_div (by omega) (by omega) (by omega)]
    split
    · rw [show (1000 : Int32) - nI t = nI (1000 - t) from nI_sub (a := 1000) (by omega) (by omega)]
      exact key _ (by omega)
    · exact key t ht
theorem ls_n {m : Nat → Int32} (o : mOk m) (s : Nat → Int32) : NN (mr_ls m s) := by
  have st : ∀ j, j < 3 → ∀ s, NN s → NN (mr_cvs m j s) := fun j hj s h => by
    obtain ⟨c, hc, e⟩ := co_n o hj
    show NN (mr_cv m (nI j) (mv_co m (nI j) (m 5)) s)
    rw [e]; exact cv_n o h hj hc
  show NN (it (mr_cvs m) 3 (mr_sb m (it mr_z 10 s)))
  rw [it_s, it_s, it_s, it_0]
  exact st 2 (by omega) _ (st 1 (by omega) _ (st 0 (by omega) _ (sb_n o s)))
theorem nn_sum {s : Nat → Int32} (h : NN s) : sm s 10 = 1000000 := by
  obtain ⟨a, ha, hs⟩ := h
  rw [sm_n 10 ha, hs]; rfl
theorem nn_fy {s : Nat → Int32} (h : NN s) (b : Nat → Int32) : ∃ f : Nat, f ≤ 1000000 ∧ sm (fun k => if b k = 0 then 0 else s k) 10 = nI f := by
  obtain ⟨a, ha, hs⟩ := h
  refine ⟨sumN (fun k => if b k = 0 then 0 else a k) 10, ?_, sm_n 10 (fun k hk => ?_)⟩
  · rw [← hs]
    refine sumN_m _ _ 10 (fun k hk => ?_)
    show (if b k = 0 then 0 else a k) ≤ a k
    split <;> omega
  · show (if b k = 0 then 0 else s k) = nI (if b k = 0 then 0 else a k)
    split
    · rfl
    · exact ha k hk
theorem sm_2 (f g : Nat → Int32) : ∀ n : Nat, sm f n + sm g n = sm (fun k => f k + g k) n
  | 0 => rfl
  | n + 1 => by
    show sm f n + f n + (sm g n + g n) = sm (fun k => f k + g k) n + (f n + g n)
    rw [← sm_2 f g n]
    ac_rfl
theorem sm_c {f g : Nat → Int32} : ∀ n : Nat, (∀ k, k < n → f k = g k) → sm f n = sm g n
  | 0, _ => rfl
  | n + 1, h => by
    show sm f n + f n = sm g n + g n
    rw [sm_c n (fun k hk => h k (by omega)), h n (by omega)]
theorem smz (x : Int32) : ∀ n : Nat, sm (fun k => if k = 0 then x else 0) (n + 1) = x
  | 0 => by show 0 + x = x; rw [Int32.zero_add]
  | n + 1 => by show sm _ (n + 1) + 0 = x; rw [smz x n, Int32.add_zero]
theorem it_sm {f : Nat → Int32 → Int32} {g : Nat → Int32} : ∀ n : Nat, (∀ k, k < n → ∀ a, f k a = a + g k) → it f n 0 = sm g n
  | 0, _ => rfl
  | n + 1, h => by
    rw [it_s, it_sm n (fun k hk => h k (by omega)), h n (by omega)]; rfl
theorem so_sum {J : Nat → Nat → Nat → Int32} (h : PJ J) : it (soP J) 10 0 = 1000000 ∧ it (soQ J) 10 0 = 1000000 := by
  obtain ⟨E, N, t, h⟩ := h
  have hs : ∀ k, KV (it soS k J) E N t := fun k => kv_cg h (it_o so_o J k).1 (it_o so_o J k).2.1 (it_o so_o J k).2.2
  have hn := ls_n (kv_ok h) (fun _ => 0)
  have c1 : ∀ {X : Nat → Nat → Nat → Int32}, KV X E N t → ∀ k, k < 10 → cellF (gt_paint (X 0) (X 5) 1) 10 (nI k) = mr_ls (rp E N (-1) t).1 (fun _ => 0) k := fun {X} hx k hk => by
    rw [cellF_k _ hk (by decide), kv_pt hx (X 5) k hk]
  have z := ft0 (kv_ok h)
  constructor
  · rw [it_sm (g := mr_ls (rp E N (-1) t).1 (fun _ => 0)) 10 (fun k hk a => by
      show a + (if (0 : Int32) = 0 then _ else _) = _
      rw [if_pos (show (0 : Int32) = 0 from rfl), c1 (hs k) k hk])]
    exact nn_sum hn
  · have q := it_sm (f := soQ J) (g := fun k => (if bt ((rp E N (-1) t).1 19) k = 0 then mr_ls (rp E N (-1) t).1 (fun _ => 0) k else 0) + (if k = 0 then sm (fun k => if bt ((rp E N (-1) t).1 19) k = 0 then 0 else mr_ls (rp E N (-1) t).1 (fun _ => 0) k) 10 else 0)) 10 (fun k hk a => by
      have hx : KV (vm_pP (it soS k J)) E N t := kv_cg (hs k) rfl rfl rfl
      show a + (if (1 : Int32) = 0 then _ else seenF (gt_paint (vm_pP (it soS k J) 0) (vm_pP (it soS k J) 5)) (nI k) (vm_pP (it soS k J) 0 0 9)) = _
      rw [if_neg (show ¬ (1 : Int32) = 0 by decide)]
      unfold seenF
      by_cases e : k = 0
      · subst e
        rw [if_pos (show nI 0 = 0 from rfl), kv_fp hx, if_pos z, if_pos rfl]
        have z2 : cellF (gt_paint (vm_pP (it soS 0 J) 0) (vm_pP (it soS 0 J) 5) 1) 10 0 = mr_ls (rp E N (-1) t).1 (fun _ => 0) 0 := c1 hx 0 (by omega)
        rw [z2]
      · rw [if_neg (fun y => e ((nI_z (by omega)).mp y)), bitF_bt, (kv_f hx).2.1, if_neg e, Int32.add_zero, c1 hx k hk])
    rw [q, ← sm_2, smz _ 9, sm_2]
    rw [sm_c (g := mr_ls (rp E N (-1) t).1 (fun _ => 0)) 10 (fun k hk => by
      show (if bt ((rp E N (-1) t).1 19) k = 0 then mr_ls (rp E N (-1) t).1 (fun _ => 0) k else 0) + (if bt ((rp E N (-1) t).1 19) k = 0 then 0 else mr_ls (rp E N (-1) t).1 (fun _ => 0) k) = _
      split
      · rw [Int32.add_zero]
      · rw [Int32.zero_add])]
    exact nn_sum hn
theorem kv_cgs {J X : Nat → Nat → Nat → Int32} {E : Nat → Int32} {N t : Nat} (h : KV J E N t) (h0 : X 0 = J 0 ∧ X 3 = J 3 ∧ X 7 = J 7) : KV X E N t := kv_cg h h0.1 h0.2.1 h0.2.2
theorem so_ts {J : Nat → Nat → Nat → Int32} (h : PJ J) {k : Nat} (hk : k < 10) : tpF (vm_tal J) (nI k) = 2 ↔ 0 < shF (vm_tal J) (nI k) 0 := by
  obtain ⟨E, N, t, h⟩ := h
  have hx : KV (vm_tal J) E N t := kv_cg h rfl rfl rfl
  have e : shF (vm_tal J) (nI k) 0 = mr_ls (rp E N (-1) t).1 (fun _ => 0) k := by
    show (if (0 : Int32) = 0 then cellF (gt_paint (vm_tal J 0) (vm_tal J 5) 1) 10 (nI k) else _) = _
    rw [if_pos (show (0 : Int32) = 0 from rfl), cellF_k _ hk (by decide), kv_pt hx _ k hk]
  rw [e, kv_ty h hk]
  constructor
  · intro q
    split at q
    · split at q <;> exact absurd q (by decide)
    · rename_i z; exact Int32.not_le.mp z
  · intro q; rw [if_neg (Int32.not_le.mpr q)]
/-- a source that is red now is red at the last time that is counted -/
theorem kv_red {J : Nat → Nat → Nat → Int32} {E : Nat → Int32} {N t : Nat} (h : KV J E N t) {k : Nat} (hk : k < 10) (hc : ¬ tpF (vm_tal J) (nI k) < 2) : ghI (rdv E N t) (nI k) = 1 := by
  rw [kv_ty h hk] at hc
  rw [ghI_bt]
  show bt (mv_rd (mr_ls (rp E N (-1) t).1 (fun _ => 0))) k = 1
  rw [rd_bt _ hk]
  split at hc
  · split at hc <;> exact absurd (by decide) hc
  · rename_i z; rw [if_neg z]
theorem gq_w1 (E : Nat → Int32) (N : Nat) (q : Int32) : ∀ T : Nat, (∃ c : Nat, c ≤ T ∧ (gq E N q T).1 = nI c ∧ (∀ u, T = u + 1 → ghI (rdv E N u) q = 1 → 1 ≤ c)) ∧ (((gq E N q T).2.1 = -1 ∧ ∀ u, u < T → ¬ ghI (rdv E N u) q = 1) ∨ ∃ v : Nat, v < T ∧ (gq E N q T).2.1 = nI v)
  | 0 => ⟨⟨0, Nat.le_refl _, rfl, fun u h => by omega⟩, Or.inl ⟨rfl, fun u h => by omega⟩⟩
  | T + 1 => by
    obtain ⟨⟨c, hc, e, -⟩, h2⟩ := gq_w1 E N q T
    rw [gq_s]
    rcases gh01 (rdv E N T) q with g | g
    · constructor
      · refine ⟨c, by omega, ?_, fun u hu h => ?_⟩
        · show (gq E N q T).1 + nzF _ = _; rw [g, e]; exact Int32.add_zero _
        · rw [show u = T by omega, g] at h; exact absurd h (by decide)
      · rcases h2 with ⟨h3, h4⟩ | ⟨v, hv, h3⟩
        · refine Or.inl ⟨?_, fun u hu => ?_⟩
          · show ghF _ _ _ = _; unfold ghF; rw [if_pos g]; exact h3
          · by_cases z : u = T
            · rw [z, g]; decide
            · exact h4 u (by omega)
        · refine Or.inr ⟨v, by omega, ?_⟩
          show ghF _ _ _ = _; unfold ghF; rw [if_pos g]; exact h3
    · constructor
      · refine ⟨c + 1, by omega, ?_, fun u hu h => by omega⟩
        show (gq E N q T).1 + nzF _ = _; rw [g, e]; exact nI_1 c
      · rcases h2 with ⟨h3, h4⟩ | ⟨v, hv, h3⟩
        · refine Or.inr ⟨T, by omega, ?_⟩
          show ghF _ _ _ = _; unfold ghF; rw [if_neg (by rw [g]; decide), h3]; exact if_pos rfl
        · by_cases z : nI v = -1
          · refine Or.inr ⟨T, by omega, ?_⟩
            show ghF _ _ _ = _; unfold ghF; rw [if_neg (by rw [g]; decide), h3]; exact if_pos z
          · refine Or.inr ⟨v, by omega, ?_⟩
            show ghF _ _ _ = _; unfold ghF; rw [if_neg (by rw [g]; decide), h3]; exact if_neg z
theorem so_fr {J : Nat → Nat → Nat → Int32} (h : PJ J) {k : Nat} (hk : k < 10) (hc : ¬ tpF (vm_tal J) (nI k) < 2) : ¬ frR (vm_tal J) (nI k) < 0 := by
  obtain ⟨E, N, t, h⟩ := h
  have g := kv_red h hk hc
  have hx : KV (vm_tal J) E N t := kv_cg h rfl rfl rfl
  obtain ⟨hN, ht, hM, h7, hL, ⟨τ, H⟩, hK⟩ := kv_d hx
  rw [(fr_eq H ht hL hN h7 (nI k)).2]
  rcases (gq_w1 E N (nI k) (t + 1)).2 with ⟨-, h4⟩ | ⟨v, hv, h3⟩
  · exact absurd g (h4 t (by omega))
  · rw [h3]; exact nI_pos (by omega)
theorem so_tp {J : Nat → Nat → Nat → Int32} (h : PJ J) {k : Nat} (hk : k < 10) (hc : ¬ tpF (vm_tal J) (nI k) < 2) : 0 < (trX (vm_fr (vm_tal J) (nI k)) (nI k)).2.2.1 := by
  obtain ⟨E, N, t, h⟩ := h
  have g := kv_red h hk hc
  have hx : KV (vm_tal J) E N t := kv_cg h rfl rfl rfl
  have hy : KV (vm_fr (vm_tal J) (nI k)) E N t := kv_cgs hx (vf_o (vm_tal J) (nI k))
  rw [kv_tr hy]
  obtain ⟨c, hc1, e, h2⟩ := (gq_w1 E N (nI k) (t + 1)).1
  rw [e]
  exact (nI_ltI (a := 0) (b := c) (by decide) (by have := h.2.1; omega)).mpr (h2 t rfl g)
theorem so_le {J : Nat → Nat → Nat → Int32} (h : PJ J) {k : Nat} (hk : k < 10) : (trX J (nI k)).2.2.1 ≤ psF (sTr J (nI k)) 7 + 1 := by
  obtain ⟨E, N, t, h⟩ := h
  rw [psF_7]
  show _ ≤ J 0 0 7 + 1
  rw [kv_tr h, (kv_d h).2.2.2.1, nI_1]
  obtain ⟨c, hc1, e, h2⟩ := (gq_w1 E N (nI k) (t + 1)).1
  rw [e]
  exact nI_le hc1 (by have := h.2.1; omega)
theorem kv_ix {J : Nat → Nat → Nat → Int32} {E : Nat → Int32} {N t : Nat} (h : KV J E N t) {x : Int32} (h1 : 1 ≤ x) (h2 : ¬ psF J 8 ≤ x) : ∃ i : Nat, i + 1 < N ∧ x = nI (i + 1) ∧ x - 1 = nI i := by
  have hN := h.1
  rw [psF_8, (kv_d h).2.2.2.2.1.1] at h2
  rcases pk_ix x (n := N) (by omega) with q | q | ⟨j, hj, rfl⟩
  · exact absurd (Int32.lt_of_le_of_lt h1 q) (by decide)
  · exact absurd q h2
  · cases j with
    | zero => exact absurd h1 (by decide)
    | succ i => exact ⟨i, hj, rfl, by rw [show (1 : Int32) = nI 1 from rfl, nI_sub (by omega) (by omega)]; rfl⟩
theorem so_oa {J : Nat → Nat → Nat → Int32} (h : PJ J) {x : Int32} (h1 : 1 ≤ x) (h2 : ¬ psF J 8 ≤ x) : okA J x ∧ okA J (x - 1) := by
  obtain ⟨E, N, t, h⟩ := h
  have hN := h.1
  obtain ⟨i, hi, e1, e2⟩ := kv_ix h h1 h2
  rw [e1] at e2 ⊢
  rw [e2]
  unfold okA
  rw [(kv_d h).2.2.2.2.1.1]
  exact ⟨⟨nI_pos (by omega), (nI_ltI (by omega) (by omega)).mpr hi⟩, nI_pos (by omega), (nI_ltI (by omega) (by omega)).mpr (by omega)⟩
theorem so_ac {J : Nat → Nat → Nat → Int32} (h : PJ J) {x : Int32} (h1 : 1 ≤ x) (h2 : ¬ psF J 8 ≤ x) : lgT (J 3) (x - 1) 0 ≤ lgT (J 3) x 0 ∧ lgT (J 3) x 0 ≤ psF J 7 := by
  obtain ⟨E, N, t, h⟩ := h
  obtain ⟨i, hi, e1, e2⟩ := kv_ix h h1 h2
  obtain ⟨hN, ht, hM, h7, hL, ⟨τ, H⟩, hK⟩ := kv_d h
  have a := H.1 i (by omega)
  have b := H.1 (i + 1) hi
  rw [psF_7, h7]
  rw [e1] at e2 ⊢
  rw [e2, lg_0 hL hN (show i < N by omega), lg_0 hL hN hi, a.1, b.1]
  exact ⟨nI_le (H.2 i (i + 1) (by omega) hi) (by omega), nI_le b.2.1 (by omega)⟩
theorem lw_inv {α : Type} {c : α → Bool} {b : α → α} (I : α → Prop) (hI : ∀ x, I x → c x = true → I (b x)) : ∀ (n : Nat) (x : α), I x → I (lw c b n x)
  | 0, _, h => h
  | n + 1, x, h => by
    cases hc : c x with
    | true => rw [lw_t hc]; exact lw_inv I hI n _ (hI x h hc)
    | false => rw [lw_f hc]; exact h
theorem so_id {J : Nat → Nat → Nat → Int32} (h : PJ J) : (idX J).2.2.1 ≤ psF (vm_id J) 8 := by
  obtain ⟨E, N, t, h⟩ := h
  have hN := h.1
  have hL := (kv_d h).2.2.2.2.1.1
  rw [psF_8]
  show _ ≤ J 3 0 0
  rw [hL]
  have q := lw_inv (c := idC J) (b := idB J) (fun x => ∃ a i : Nat, x.2.2.1 = nI a ∧ x.2.2.2 = nI i ∧ a ≤ i ∧ i ≤ N) (fun x ⟨a, i, e1, e2, h1, h2⟩ hc => by
    unfold idC at hc
    rw [hL, e2] at hc
    have hi : i < N := by
      by_cases z : nI N ≤ nI i
      · rw [if_pos z] at hc; cases hc
      · rcases Nat.lt_or_ge i N with q | q
        · exact q
        · exact absurd (nI_le q (by omega)) z
    obtain ⟨b, e3, h3⟩ : ∃ b : Nat, (idB J x).2.2.1 = nI b ∧ b ≤ a + 1 := by
      unfold idB
      dsimp only
      split
      · exact ⟨a, e1, by omega⟩
      · exact ⟨a + 1, by rw [e1, nI_1], by omega⟩
    exact ⟨b, i + 1, e3, by show x.2.2.2 + 1 = _; rw [e2, nI_1], by omega, hi⟩) 101 (J 4, J 6, 0, 0) ⟨0, 0, rfl, rfl, by omega, by omega⟩
  obtain ⟨a, i, e1, e2, h1, h2⟩ := q
  have e : (idX J).2.2.1 = nI a := e1
  rw [e]; exact nI_le (by omega) (by omega)
theorem so_l1 {J : Nat → Nat → Nat → Int32} (h : PJ J) : 1 ≤ (lsX J).2.2.1 := by
  obtain ⟨E, N, t, h⟩ := h
  obtain ⟨hN, ht, hM, h7, hL, ⟨τ, H⟩, hK⟩ := kv_d h
  rw [(ls_eq2 H ht hL hN h7).2, (gq_w E N 0 (t + 1) (by omega)).2]
  have b := (rwN_b E N 0 (t + 1)).2
  have c : 1 ≤ (rwN E N 0 (t + 1)).2 := by
    rw [rwN_s]
    show 1 ≤ max _ _
    split <;> omega
  exact nI_le (a := 1) c (by omega)
