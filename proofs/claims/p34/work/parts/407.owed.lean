/-! owed: what the walks rest on -/
theorem rr_set {J N : Nat → Nat → Nat → Int32} {n τ : Nat} (hR : RR J N n τ) (w : Int32) (hw : w = 5 ∨ w = 6 ∨ w = 8) : psF J w = psF N w := by sorry
theorem rr_fy {J N : Nat → Nat → Nat → Int32} {n τ : Nat} (hR : RR J N n τ) : fpF (gt_paint (J 0) (J 5)) (J 0 0 9) = fpF (gt_paint (N 0) (N 5)) (N 0 0 9) := by sorry
theorem rr_ls {J N : Nat → Nat → Nat → Int32} {n τ : Nat} (hR : RR J N n τ) : (lsX J).2.2.1 = (lsX N).2.2.1 := by sorry
theorem rr_ru {J N : Nat → Nat → Nat → Int32} {n τ : Nat} (hR : RR J N n τ) : vm_replay J (J 0 0 7) (-1) 4 0 8 = vm_replay N (N 0 0 7) (-1) 4 0 8 := by sorry
theorem rr_sh {J N : Nat → Nat → Nat → Int32} {n τ : Nat} (hR : RR J N n τ) {k : Nat} (hk : k < 10) (sn : Int32) : shF J (nI k) sn = shF N (otF (nI k)) sn := by sorry
theorem rr_ty {J N : Nat → Nat → Nat → Int32} {n τ : Nat} (hR : RR J N n τ) {k : Nat} (hk : k < 10) : tpF (vm_tal J) (nI k) = tpF (vm_tal N) (otF (nI k)) := by sorry
theorem rr_tr {J N : Nat → Nat → Nat → Int32} {n τ : Nat} (hR : RR J N n τ) {k : Nat} (hk : k < 10) : (trX J (nI k)).2.2.1 = (trX N (otF (nI k))).2.2.1 := by sorry
theorem rr_okM {J N : Nat → Nat → Nat → Int32} {n τ : Nat} (hR : RR J N n τ) (hn : n < 100) (w : Int32) (h3 : ¬ w = 3) (h7 : ¬ w = 7) (h8 : ¬ w = 8) : okM J w ∧ okM N w := by sorry
theorem rr_ok3 {J N : Nat → Nat → Nat → Int32} {n τ : Nat} (hR : RR J N n τ) (hn : n < 100) (h : ¬ stF0 J = 0) : okM J 3 ∧ okM N 3 := by sorry
theorem rr_ok7 {J N : Nat → Nat → Nat → Int32} {n τ : Nat} (hR : RR J N n τ) (hn : n < 100) (h : ¬ stF0 J = 0) : okM J 7 ∧ okM N 7 := by sorry
theorem rr_ok8 {J N : Nat → Nat → Nat → Int32} {n τ : Nat} (hR : RR J N n τ) (hn : n < 100) (h : ¬ 0 ≤ psF J 6) : okM J 8 ∧ okM N 8 := by sorry
theorem rr_okP {J N : Nat → Nat → Nat → Int32} {n τ : Nat} (hR : RR J N n τ) (ht : τ + 30 ≤ 5000) (v : Int32) : okP J (upF v 30) ∧ okP N (upF v 30) := by sorry
theorem rr_v0 {J N : Nat → Nat → Nat → Int32} {n τ : Nat} (hR : RR J N n τ) (q : Int32) : otF (perfR (J 0) 0 q (-1) (-1) (-1)) = perfR (N 0) 0 (otF q) (-1) (-1) (-1) := by sorry
theorem rr_v1 {J N : Nat → Nat → Nat → Int32} {n τ : Nat} (hR : RR J N n τ) (q : Int32) : otF (perfR (J 0) 1 q (-1) (-1) (-1)) = perfR (N 0) 1 (otF q) (-1) (-1) (-1) := by sorry
theorem rr_v2 {J N : Nat → Nat → Nat → Int32} {n τ : Nat} (hR : RR J N n τ) (k r : Int32) : perfR (J 0) 2 k r (-1) (-1) = perfR (N 0) 2 k r (-1) (-1) := by sorry
theorem rr_v3 {J N : Nat → Nat → Nat → Int32} {n τ : Nat} (hR : RR J N n τ) (q : Int32) : perfR (J 0) 3 q (-1) (-1) (-1) = perfR (N 0) 3 q (-1) (-1) (-1) := by sorry
theorem rr_v4 {J N : Nat → Nat → Nat → Int32} {n τ : Nat} (hR : RR J N n τ) {k : Int32} (hk : okK k) (f o a : Int32) : otF (perfR (J 0) 4 k f o a) = perfR (N 0) 4 k (otF f) o a := by sorry
theorem rr_v5 {J N : Nat → Nat → Nat → Int32} {n τ : Nat} (hR : RR J N n τ) {k : Int32} (hk : okK k) : perfR (J 0) 5 k (-1) (-1) (-1) = perfR (N 0) 5 k (-1) (-1) (-1) := by sorry
theorem rr_v6 {J N : Nat → Nat → Nat → Int32} {n τ : Nat} (hR : RR J N n τ) : otF (perfR (J 0) 6 (-1) (-1) (-1) (-1)) = perfR (N 0) 6 (-1) (-1) (-1) (-1) := by sorry
theorem rr_v7 {J N : Nat → Nat → Nat → Int32} {n τ : Nat} (hR : RR J N n τ) : perfR (J 0) 7 (-1) (-1) (-1) (-1) = perfR (N 0) 7 (-1) (-1) (-1) (-1) := by sorry
theorem rr_v8 {J N : Nat → Nat → Nat → Int32} {n τ : Nat} (hR : RR J N n τ) (b : Int32) : perfR (J 0) 8 b (-1) (-1) (-1) = perfR (N 0) 8 b (-1) (-1) (-1) := by sorry
theorem rr_v9 {J N : Nat → Nat → Nat → Int32} {n τ : Nat} (hR : RR J N n τ) {q : Int32} (hq : okS q) (z : Int32) : perfR (J 0) 9 q z (-1) (-1) = perfR (N 0) 9 (otF q) z (-1) (-1) := by sorry
theorem rr_v10 {J N : Nat → Nat → Nat → Int32} {n τ : Nat} (hR : RR J N n τ) (f : Int32) : gt_letPass f (J 0) 0 7 = gt_letPass f (N 0) 0 7 := by sorry
theorem so_ts {J : Nat → Nat → Nat → Int32} (h : PJ J) {k : Nat} (hk : k < 10) : tpF (vm_tal J) (nI k) = 2 ↔ 0 < shF (vm_tal J) (nI k) 0 := by sorry
theorem so_fr {J : Nat → Nat → Nat → Int32} (h : PJ J) {k : Nat} (hk : k < 10) (hc : ¬ tpF (vm_tal J) (nI k) < 2) : ¬ frR (vm_tal J) (nI k) < 0 := by sorry
theorem so_tp {J : Nat → Nat → Nat → Int32} (h : PJ J) {k : Nat} (hk : k < 10) (hc : ¬ tpF (vm_tal J) (nI k) < 2) : 0 < (trX (vm_fr (vm_tal J) (nI k)) (nI k)).2.2.1 := by sorry
theorem so_le {J : Nat → Nat → Nat → Int32} (h : PJ J) {k : Nat} (hk : k < 10) : (trX J (nI k)).2.2.1 ≤ psF (sTr J (nI k)) 7 + 1 := by sorry
theorem so_sum {J : Nat → Nat → Nat → Int32} (h : PJ J) : it (soP J) 10 0 = 1000000 ∧ it (soQ J) 10 0 = 1000000 := by sorry
theorem so_oa {J : Nat → Nat → Nat → Int32} (h : PJ J) {x : Int32} (h1 : 1 ≤ x) (h2 : ¬ psF J 8 ≤ x) : okA J x ∧ okA J (x - 1) := by sorry
theorem so_ac {J : Nat → Nat → Nat → Int32} (h : PJ J) {x : Int32} (h1 : 1 ≤ x) (h2 : ¬ psF J 8 ≤ x) : lgT (J 3) (x - 1) 0 ≤ lgT (J 3) x 0 ∧ lgT (J 3) x 0 ≤ psF J 7 := by sorry
theorem so_id {J : Nat → Nat → Nat → Int32} (h : PJ J) : (idX J).2.2.1 ≤ psF (vm_id J) 8 := by sorry
theorem so_l1 {J : Nat → Nat → Nat → Int32} (h : PJ J) : 1 ≤ (lsX J).2.2.1 := by sorry
theorem so_f1 {J : Nat → Nat → Nat → Int32} (h : PJ J) : dvF (fyF (fpF (gt_paint (J 0) (J 5)) (J 0 0 9))) ≤ 0 := by sorry
