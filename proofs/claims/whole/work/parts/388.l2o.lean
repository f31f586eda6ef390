/-! level 2: reading one order -/
def dgx (x : Int32) : Int32 := if x < 48 then -1 else if 57 < x then -1 else x - 48
def sgn (x : Int32) : Prop := x = -1 ∨ ∃ b : Nat, b < 128 ∧ x = nI b
theorem dg_n : ∀ b, b < 128 → (b < 48 ∨ 58 ≤ b) → dgx (nI b) = -1 ∧ mv_in (Int32.toInt64 (nI b)) 48 57 = 0 ∧ ∀ mo, mo < 10 → mv_in (Int32.toInt64 (nI b)) 48 (Int32.toInt64 (48 + nI mo)) = 0 := by decide +kernel
theorem dg_y : ∀ d, d < 10 → dgx (nI (d + 48)) = nI d ∧ nI (d + 48) - 48 = nI d ∧ mv_in (Int32.toInt64 (nI (d + 48))) 48 57 = 1 ∧ ∀ mo, mo < 10 → mv_in (Int32.toInt64 (nI (d + 48))) 48 (Int32.toInt64 (48 + nI mo)) = if d ≤ mo then 1 else 0 := by decide +kernel
theorem dg_m : dgx (-1) = -1 ∧ mv_in (Int32.toInt64 (-1)) 48 57 = 0 ∧ ∀ mo, mo < 10 → mv_in (Int32.toInt64 (-1)) 48 (Int32.toInt64 (48 + nI mo)) = 0 := by decide +kernel
theorem dg_s {x : Int32} (h : sgn x) : (dgx x = -1 ∧ mv_in x.toInt64 48 57 = 0 ∧ ∀ mo, mo < 10 → mv_in x.toInt64 48 (48 + nI mo).toInt64 = 0) ∨ ∃ d : Nat, d < 10 ∧ x = nI (d + 48) ∧ dgx x = nI d ∧ x - 48 = nI d ∧ mv_in x.toInt64 48 57 = 1 ∧ ∀ mo, mo < 10 → mv_in x.toInt64 48 (48 + nI mo).toInt64 = if d ≤ mo then 1 else 0 := by
  rcases h with rfl | ⟨b, hb, rfl⟩
  · exact Or.inl dg_m
  · by_cases c : b < 48 ∨ 58 ≤ b
    · exact Or.inl (dg_n b hb c)
    · right
      obtain ⟨d, rfl⟩ : ∃ d, b = d + 48 := ⟨b - 48, by omega⟩
      exact ⟨d, by omega, rfl, dg_y d (by omega)⟩
/-- the text's signs -/
def tx (T : Nat → Int32) (L : Nat) : Prop := ∀ i, i < L → ∃ b : Nat, b < 128 ∧ T i = nI b
def TC (C : Nat → Nat → Int32) (T : Nat → Int32) (L : Nat) : Prop := C 0 0 = nI L ∧ ∀ i, i < L → C 1 i = T i
theorem he_k (T : Nat → Int32) {L p : Nat} (hL : L ≤ 120) (hp : p ≤ 1000) : mv_he T (nI L) (nI p) = if L ≤ p then -1 else T p := by
  unfold mv_he
  by_cases c : L ≤ p
  · rw [if_pos c, if_pos (nI_le c (by omega))]
  · rw [if_neg c, if_neg (nI_ge (by omega) (by omega)), cl_k (by omega)]
theorem he_s {T : Nat → Int32} {L : Nat} (h : tx T L) (hL : L ≤ 120) {p : Nat} (hp : p ≤ 1000) : sgn (mv_he T (nI L) (nI p)) := by
  rw [he_k T hL hp]
  split
  · exact Or.inl rfl
  · exact Or.inr (h p (by omega))
theorem sg_he {C : Nat → Nat → Int32} {T : Nat → Int32} {L : Nat} (h : TC C T L) (hL : L ≤ 120) {p : Nat} (hp : p ≤ 1000) : sgF C (nI p) = mv_he T (nI L) (nI p) := by
  rw [he_k T hL hp]
  unfold sgF
  rw [h.1]
  by_cases c : L ≤ p
  · rw [if_pos c, if_pos (nI_le c (by omega))]
  · rw [if_neg c, if_neg (nI_ge (by omega) (by omega)), cellF_k _ (by omega) (by decide), h.2 p (by omega)]
theorem dg_he {C : Nat → Nat → Int32} {T : Nat → Int32} {L : Nat} (h : TC C T L) (hL : L ≤ 120) {p : Nat} (hp : p ≤ 1000) : dgF C (nI p) = dgx (mv_he T (nI L) (nI p)) := by
  unfold dgF dgx
  rw [sg_he h hL hp]
theorem sF_sF (C : Nat → Nat → Int32) (r i : Nat) (a b : Int32) : sF (sF C r i a) r i b = sF C r i b := by
  funext q
  by_cases h : q = r
  · subst h
    rw [sF_eq, sF_eq, sF_eq]
    funext k
    rw [upd_at, upd_at, upd_at]
    split <;> rfl
  · rw [sF_ne _ _ _ _ (bne h), sF_ne _ _ _ _ (bne h), sF_ne _ _ _ _ (bne h)]
/-- the script at the position p -/
def pC (C : Nat → Nat → Int32) (p : Nat) : Nat → Nat → Int32 := sF C 0 2 (nI p)
theorem pC_2 (C : Nat → Nat → Int32) (p : Nat) : pC C p 0 2 = nI p ∧ pC C p 0 3 = C 0 3 ∧ pC C p 0 1 = C 0 1 ∧ pC C p 0 0 = C 0 0 ∧ pC C p 1 = C 1 ∧ pC C p 2 = C 2 := by
  unfold pC
  simp only [sF_eq, sF_ne, upd_eq, upd_ne, Nat.reduceBEq]
  exact ⟨trivial, trivial, trivial, trivial, trivial, trivial⟩
theorem pC_T {C : Nat → Nat → Int32} {T : Nat → Int32} {L : Nat} (h : TC C T L) (p : Nat) : TC (pC C p) T L := by
  obtain ⟨-, -, -, a, b, -⟩ := pC_2 C p
  unfold TC
  rw [a, b]; exact h
theorem pC_at (C : Nat → Nat → Int32) (p : Nat) : gt_at (pC C p) = pC C (p + 1) := by
  unfold gt_at
  rw [(pC_2 C p).1, nI_1]
  unfold pC
  rw [sF_sF]
theorem ms_3 {X : Nat → Nat → Int32} (h : X 0 3 = -1) (q : Int32) : gt_miss X q 0 3 = q := by
  unfold gt_miss
  rw [if_pos h, sF_eq, upd_eq]
theorem ms_n {X : Nat → Nat → Int32} (h : ¬ X 0 3 = -1) (q : Int32) : gt_miss X q = X := by
  unfold gt_miss
  rw [if_neg h]
theorem at_3 (X : Nat → Nat → Int32) : gt_at X 0 3 = X 0 3 := by
  unfold gt_at
  rw [sF_eq, upd_ne _ _ _ rfl]
theorem keep_3 (X : Nat → Nat → Int32) (w a b : Int32) : gt_keep X w a b 0 3 = X 0 3 := by
  unfold gt_keep gt_cinc gt_kp3 gt_kp2 gt_kp1 gt_cput
  rw [sF_eq, upd_ne _ _ _ rfl, sR_ne _ _ _ rfl, sR_ne _ _ _ rfl, sR_ne _ _ _ rfl]
theorem semi_3 {X : Nat → Nat → Int32} (h : ¬ X 0 3 = -1) : gt_semi X 0 3 = X 0 3 := by
  unfold gt_semi
  split
  · exact at_3 X
  · rw [at_3, ms_n h]
theorem fin_3 {X : Nat → Nat → Int32} (h : ¬ X 0 3 = -1) (w a b : Int32) : gt_fin w a b X 0 3 = X 0 3 := by
  unfold gt_fin
  rw [keep_3, semi_3 h]
theorem rn_3 (mo : Int32) : ∀ (n : Nat) (x : (Nat → Nat → Int32) × Int32 × Int32), (lw (rnC mo) rnB n x).1 0 3 = x.1 0 3
  | 0, x => rfl
  | n + 1, x => by
    cases hc : rnC mo x with
    | false => rw [lw_f hc]
    | true =>
      rw [lw_t hc, rn_3 mo n (rnB x)]
      exact at_3 x.1
theorem rnum_3 {X : Nat → Nat → Int32} (h : ¬ X 0 3 = -1) (mo lo hi : Int32) : gt_rnum X mo lo hi 0 3 = X 0 3 := by
  have e := rn_3 mo 5 (X, 0, 0)
  unfold gt_rnum
  generalize lw (rnC mo) rnB 5 (X, 0, 0) = x at *
  have e2 : x.1 0 3 = X 0 3 := e
  have h2 : ¬ x.1 0 3 = -1 := by rw [e2]; exact h
  unfold gt_rnE
  rw [ms_n h2, ms_n h2]
  split
  · exact e2
  split
  · split
    · exact e2
    split
    · exact e2
    · exact e2
  · exact e2
/-! a digit -/
theorem rdig_eq {C : Nat → Nat → Int32} {T : Nat → Int32} {L : Nat} (h : TC C T L) (hT : tx T L) (hL : L ≤ 120) {p mo : Nat} (hp : p ≤ 900) (hm : mo < 10) (h3 : C 0 3 = -1) : (mv_fi T (nI L) (nI p) (nI mo) = 1 ∧ gt_rdig (pC C p) (nI mo) = pC C (p + 1) ∧ (∃ d : Nat, d ≤ mo ∧ mv_fg T (nI L) (nI p) (nI mo) = nI d ∧ dgF (pC C p) (nI p) = nI d) ∧ mv_fp T (nI L) (nI p) (nI mo) = nI (p + 1)) ∨ (mv_fi T (nI L) (nI p) (nI mo) = 0 ∧ mv_fg T (nI L) (nI p) (nI mo) = -1 ∧ mv_fp T (nI L) (nI p) (nI mo) = nI p ∧ gt_rdig (pC C p) (nI mo) 0 3 = nI p) := by
  have e2 := (pC_2 C p).1
  have e3 : pC C p 0 3 = -1 := (pC_2 C p).2.1.trans h3
  have ed := dg_he (pC_T h p) hL (p := p) (by omega)
  unfold mv_fg mv_fp mv_fi gt_rdig mv_fv
  rw [e2, ed]
  rcases dg_s (he_s hT hL (p := p) (by omega)) with ⟨a, -, c⟩ | ⟨d, hd, a, b, c, -, e⟩
  · right
    rw [a, if_pos rfl, c mo hm, if_pos rfl, at_3, ms_3 e3]
    exact ⟨rfl, rfl, Int32.add_zero _, rfl⟩
  · rw [b, e mo hm, if_neg (nI_ne1 (a := d) (by omega))]
    by_cases q : d ≤ mo
    · left
      rw [if_pos q, if_pos (nI_le q (by omega)), pC_at, if_neg (by decide), c]
      refine ⟨rfl, rfl, ⟨d, q, rfl, rfl⟩, ?_⟩
      show nI p + 1 = _
      rw [nI_1]
    · right
      rw [if_neg q, if_neg (nI_ge (by omega) (by omega)), if_pos rfl, at_3, ms_3 e3]
      exact ⟨rfl, rfl, Int32.add_zero _, rfl⟩
/-! a number -/
theorem rn_eq {C : Nat → Nat → Int32} {T : Nat → Int32} {L : Nat} (h : TC C T L) (hT : tx T L) (hL : L ≤ 120) {b f : Nat} (hb : b ≤ 900) (hf : f ≤ 4) : ∃ (c : Nat) (v : Int32), c ≤ f ∧ rnX (pC C b) (nI f) = (pC C (b + c), v, nI c) ∧ rdX T (nI L) (nI b) (nI f) = (v, nI (b + c)) ∧ (c = f ∨ dgx (mv_he T (nI L) (nI (b + c))) = -1) ∧ True := by
  have key : ∀ (d c : Nat), c + d = f → ∀ g : Nat, d < g → ∀ v : Int32, ∃ (c' : Nat) (v' : Int32), c' ≤ f ∧ lw (rnC (nI f)) rnB g (pC C (b + c), v, nI c) = (pC C (b + c'), v', nI c') ∧ lw (rdC T (nI L) (nI b) (nI f)) (rdB T (nI L)) g (v, nI (b + c)) = (v', nI (b + c')) ∧ (c' = f ∨ dgx (mv_he T (nI L) (nI (b + c'))) = -1) ∧ True := by
    intro d
    induction d with
    | zero =>
      intro c hc g hg v
      have : c = f := by omega
      subst this
      have c1 : rnC (nI c) (pC C (b + c), v, nI c) = false := if_pos (show nI c ≤ nI c from nI_le (Nat.le_refl _) (by omega))
      have c2 : rdC T (nI L) (nI b) (nI c) (v, nI (b + c)) = false := by
        unfold rdC
        rw [nI_add]
        split
        · rfl
        · exact if_pos (nI_le (Nat.le_refl _) (by omega))
      exact ⟨c, v, Nat.le_refl _, lw_f c1, lw_f c2, Or.inl rfl, trivial⟩
    | succ d ih =>
      intro c hc g hg v
      obtain ⟨g', rfl⟩ : ∃ z, g = z + 1 := ⟨g - 1, by omega⟩
      have e2 := (pC_2 C (b + c)).1
      have ed := dg_he (pC_T h (b + c)) hL (p := b + c) (by omega)
      have n1 : ¬ nI f ≤ nI c := nI_ge (by omega) (by omega)
      have n2 : ¬ nI b + nI f ≤ nI (b + c) := by rw [nI_add]; exact nI_ge (by omega) (by omega)
      rcases dg_s (he_s hT hL (p := b + c) (by omega)) with ⟨a1, a2, -⟩ | ⟨dd, hd, -, a1, a3, a2, -⟩
      · have c1 : rnC (nI f) (pC C (b + c), v, nI c) = false := by
          show (if nI f ≤ nI c then false else if dgF (pC C (b + c)) (pC C (b + c) 0 2) = -1 then false else true) = false
          rw [if_neg n1, e2, ed, a1, if_pos rfl]
        have c2 : rdC T (nI L) (nI b) (nI f) (v, nI (b + c)) = false := by
          unfold rdC mv_dg
          rw [a2, if_pos rfl]
        exact ⟨c, v, by omega, lw_f c1, lw_f c2, Or.inr a1, trivial⟩
      · have c1 : rnC (nI f) (pC C (b + c), v, nI c) = true := by
          show (if nI f ≤ nI c then false else if dgF (pC C (b + c)) (pC C (b + c) 0 2) = -1 then false else true) = true
          rw [if_neg n1, e2, ed, a1, if_neg (nI_ne1 (a := dd) (by omega))]
        have c2 : rdC T (nI L) (nI b) (nI f) (v, nI (b + c)) = true := by
          unfold rdC mv_dg
          rw [a2, if_neg (by decide), if_neg n2]
        have b1 : rnB (pC C (b + c), v, nI c) = (pC C (b + (c + 1)), 10 * v + nI dd, nI (c + 1)) := by
          show (gt_at (pC C (b + c)), 10 * v + dgF (pC C (b + c)) (pC C (b + c) 0 2), nI c + 1) = _
          rw [pC_at, e2, ed, a1, nI_1]; rfl
        have b2 : rdB T (nI L) (v, nI (b + c)) = (10 * v + nI dd, nI (b + (c + 1))) := by
          unfold rdB
          rw [Int32.sub_eq_add_neg, Int32.add_assoc, ← Int32.sub_eq_add_neg, a3, nI_1]; rfl
        rw [lw_t c1, lw_t c2, b1, b2]
        exact ih (c + 1) (by omega) g' (by omega) _
  have q := key f 0 (by omega) 5 (by omega) 0
  unfold rnX rdX
  exact q
theorem rnum_eq {C : Nat → Nat → Int32} {T : Nat → Int32} {L : Nat} (h : TC C T L) (hT : tx T L) (hL : L ≤ 120) {b f : Nat} (hb : b ≤ 900) (hf : f ≤ 4) (h3 : C 0 3 = -1) {lo hi : Int32} : (mv_rr T (nI L) (nI b) (nI f) lo hi = 1 ∧ (∃ c : Nat, c ≤ f ∧ gt_rnum (pC C b) (nI f) lo hi = pC C (b + c) ∧ mv_rp T (nI L) (nI b) (nI f) lo hi = nI (b + c)) ∧ (rnX (pC C b) (nI f)).2.1 = (rdX T (nI L) (nI b) (nI f)).1 ∧ okR (rdX T (nI L) (nI b) (nI f)).1 lo hi) ∨ (mv_rr T (nI L) (nI b) (nI f) lo hi = 0 ∧ (∃ q : Nat, q ≤ b + f ∧ mv_rp T (nI L) (nI b) (nI f) lo hi = nI q) ∧ gt_rnum (pC C b) (nI f) lo hi 0 3 = mv_rp T (nI L) (nI b) (nI f) lo hi) := by
  obtain ⟨c, v, hc, e1, e2, e3, -⟩ := rn_eq h hT hL hb hf
  have ed := dg_he (pC_T h (b + c)) hL (p := b + c) (by omega)
  have p2 := (pC_2 C (b + c)).1
  have q3 : pC C (b + c) 0 3 = -1 := (pC_2 C (b + c)).2.1.trans h3
  have er : gt_rnum (pC C b) (nI f) lo hi = gt_rnE (pC C b) lo hi (pC C (b + c), v, nI c) := by
    unfold gt_rnum
    have := e1
    unfold rnX at this
    rw [this]
  unfold mv_rr mv_rp mv_dg
  rw [er, e1, e2]
  unfold gt_rnE
  show (((if nI (b + c) = nI b then 0 else if mv_in (mv_he T (nI L) (nI (b + c))).toInt64 48 57 = 0 then mv_in v.toInt64 lo.toInt64 hi.toInt64 else 0) = (1 : Int32)) ∧ (∃ z : Nat, z ≤ f ∧ (if pC C (b + c) 0 2 = pC C b 0 2 then gt_miss (pC C (b + c)) (pC C (b + c) 0 2) else if dgF (pC C (b + c)) (pC C (b + c) 0 2) = -1 then (if v < lo then gt_miss (pC C (b + c)) (pC C b 0 2) else if v ≤ hi then pC C (b + c) else gt_miss (pC C (b + c)) (pC C b 0 2)) else gt_miss (pC C (b + c)) (pC C (b + c) 0 2)) = pC C (b + z) ∧ (if nI (b + c) = nI b then nI (b + c) else if mv_in (mv_he T (nI L) (nI (b + c))).toInt64 48 57 = 0 then mv_sl (mv_in v.toInt64 lo.toInt64 hi.toInt64) (nI b) (nI (b + c)) else nI (b + c)) = nI (b + z)) ∧ v = v ∧ okR v lo hi) ∨ ((if nI (b + c) = nI b then 0 else if mv_in (mv_he T (nI L) (nI (b + c))).toInt64 48 57 = 0 then mv_in v.toInt64 lo.toInt64 hi.toInt64 else 0) = (0 : Int32) ∧ (∃ q : Nat, q ≤ b + f ∧ (if nI (b + c) = nI b then nI (b + c) else if mv_in (mv_he T (nI L) (nI (b + c))).toInt64 48 57 = 0 then mv_sl (mv_in v.toInt64 lo.toInt64 hi.toInt64) (nI b) (nI (b + c)) else nI (b + c)) = nI q) ∧ (if pC C (b + c) 0 2 = pC C b 0 2 then gt_miss (pC C (b + c)) (pC C (b + c) 0 2) else if dgF (pC C (b + c)) (pC C (b + c) 0 2) = -1 then (if v < lo then gt_miss (pC C (b + c)) (pC C b 0 2) else if v ≤ hi then pC C (b + c) else gt_miss (pC C (b + c)) (pC C b 0 2)) else gt_miss (pC C (b + c)) (pC C (b + c) 0 2)) 0 3 = (if nI (b + c) = nI b then nI (b + c) else if mv_in (mv_he T (nI L) (nI (b + c))).toInt64 48 57 = 0 then mv_sl (mv_in v.toInt64 lo.toInt64 hi.toInt64) (nI b) (nI (b + c)) else nI (b + c)))
  rw [p2, (pC_2 C b).1, ed]
  by_cases z : nI (b + c) = nI b
  · right
    rw [if_pos z, if_pos z, if_pos z, ms_3 q3]
    exact ⟨rfl, ⟨b + c, by omega, rfl⟩, rfl⟩
  · rw [if_neg z, if_neg z, if_neg z]
    rcases dg_s (he_s hT hL (p := b + c) (by omega)) with ⟨a1, a2, -⟩ | ⟨dd, hd, -, a1, a3, a2, -⟩
    · rw [a1, a2, if_pos rfl, if_pos rfl, if_pos rfl]
      unfold mv_sl
      by_cases ok : okR v lo hi
      · left
        rw [in_R1 ok, if_neg ok.1, if_pos ok.2, if_neg (by decide)]
        exact ⟨rfl, ⟨c, hc, rfl, rfl⟩, rfl, ok⟩
      · right
        rw [in_R0 ok, if_pos rfl]
        refine ⟨rfl, ⟨b, by omega, rfl⟩, ?_⟩
        by_cases l : v < lo
        · rw [if_pos l, ms_3 q3]
        · rw [if_neg l, if_neg (fun y => ok ⟨l, y⟩), ms_3 q3]
    · right
      rw [a1, a2, if_neg (nI_ne1 (a := dd) (by omega)), if_neg (by decide), if_neg (by decide), ms_3 q3]
      exact ⟨rfl, ⟨b + c, by omega, rfl⟩, rfl⟩
theorem semi_eq {C : Nat → Nat → Int32} {T : Nat → Int32} {L : Nat} (h : TC C T L) (hL : L ≤ 120) {p : Nat} (hp : p ≤ 900) (h3 : C 0 3 = -1) : (mv_eq (mv_he T (nI L) (nI p)) 59 = 1 ∧ p < L ∧ gt_semi (pC C p) = pC C (p + 1)) ∨ (mv_eq (mv_he T (nI L) (nI p)) 59 = 0 ∧ gt_semi (pC C p) 0 3 = nI p) := by
  have e2 := (pC_2 C p).1
  have e3 : pC C p 0 3 = -1 := (pC_2 C p).2.1.trans h3
  have es := sg_he (pC_T h p) hL (p := p) (by omega)
  unfold mv_eq gt_semi
  rw [e2, es]
  by_cases c : mv_he T (nI L) (nI p) = 59
  · left
    rw [if_pos c, if_pos c, pC_at]
    refine ⟨rfl, ?_, rfl⟩
    rw [he_k T hL (by omega)] at c
    rcases Nat.lt_or_ge p L with z | z
    · exact z
    · rw [if_pos z] at c; exact absurd c (by decide)
  · right
    rw [if_neg c, if_neg c, at_3, ms_3 e3]
    exact ⟨rfl, rfl⟩
