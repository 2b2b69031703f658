/-! cells that the view doesn't hold: what is made for a while -/
def Off (φ : Nat → Nat) (T : Nat → Nat × Nat) (a : Nat) : Prop := ∀ v, (T v).1 ≠ 0 → φ v ≠ a
section V3
variable {β : Type} {φ : Nat → Nat} {T : Nat → Nat × Nat} {I : Nat → Nat → Int32} {R : Nat → Nat → Option Nat} {τ : Mem} {v ci k t a b c : Nat} {x i n : Int32} {r : Option Nat} {y : Int64} {tt : Nat × Nat}
theorem Off.of (h : live T φ c) (hc : c ≤ a) : Off φ T a := fun v hv e => by have := h v hv; omega
theorem mT_sI : mT (sI τ a k x) = mT τ := rfl
theorem mT_sR : mT (sR τ a k r) = mT τ := rfl
theorem mT_sJ : mT (sJ τ a k y) = mT τ := rfl
theorem mT_sN_at : mT (sN τ tt) (mZ τ) = tt := if_pos rfl
theorem mT_sN_ne (h : a ≠ mZ τ) : mT (sN τ tt) a = mT τ a := if_neg h
theorem mI_sN_ne (h : a ≠ mZ τ) : mI (sN τ tt) a = mI τ a := if_neg h
theorem mR_sN_ne (h : a ≠ mZ τ) : mR (sN τ tt) a = mR τ a := if_neg h
theorem mI_sN_at : mI (sN τ tt) (mZ τ) k = 0 := by simp [sN, mI, rowS]
theorem mR_sN_at : mR (sN τ tt) (mZ τ) k = none := by simp [sN, mR, rowS]
theorem mI_sI : mI (sI τ a k x) = up2 (mI τ) a k x := rfl
theorem mI_sR : mI (sR τ a k r) = mI τ := rfl
theorem mI_sJ : mI (sJ τ a k y) = mI τ := rfl
theorem mR_sI : mR (sI τ a k x) = mR τ := rfl
theorem mR_sR : mR (sR τ a k r) = up2 (mR τ) a k r := rfl
theorem mR_sJ : mR (sJ τ a k y) = mR τ := rfl
theorem mZ_sI : mZ (sI τ a k x) = mZ τ := rfl
theorem mZ_sR : mZ (sR τ a k r) = mZ τ := rfl
theorem mZ_sN : mZ (sN τ tt) = mZ τ + 1 := rfl
theorem mJ_sI : mJ (sI τ a k x) = mJ τ := rfl
theorem mJ_sR : mJ (sR τ a k r) = mJ τ := rfl
theorem mJ_sN (h : b ≠ mZ τ) : mJ (sN τ tt) b = mJ τ b := if_neg h
theorem gI_off {K : Int32 → Option β} (ho : Off φ T a) (h : (mT τ a).1 = ci + 1) : gI ci k (pt φ T I R τ) (some a) K = K (mI τ a k) := by
  simp only [gI, mT_off ho, mI_off ho, h, if_true]
theorem gR_off {K : Option Nat → Option β} (ho : Off φ T a) (h : (mT τ a).1 = ci + 1) : gR ci k (pt φ T I R τ) (some a) K = K (mR τ a k) := by
  simp only [gR, mT_off ho, mR_off ho, h, if_true]
theorem ob_off {K : Nat → Option β} (ho : Off φ T a) (h : (mT τ a).1 = ci + 1) : ob ci (pt φ T I R τ) (some a) K = K a := by
  simp only [ob, mT_off ho, h, if_true]
theorem ck_off {K : Option β} (ho : Off φ T a) (h : (mT τ a).1 = ci) : ck ci (pt φ T I R τ) (some a) K = K := by
  simp only [ck, mT_off ho, h, if_true]
theorem pI_off {K : Mem → Option β} (ho : Off φ T a) (h : (mT τ a).1 = ci + 1) : pI ci k (pt φ T I R τ) (some a) x K = K (pt φ T I R (sI τ a k x)) := by
  simp only [pI, mT_off ho, sI_off ho, h, if_true]
theorem pB_off {K : Mem → Option β} (ho : Off φ T a) (h : (mT τ a).1 = ci + 1) (hx : x = 0 ∨ x = 1) : pB ci k (pt φ T I R τ) (some a) x K = K (pt φ T I R (sI τ a k x)) := by
  simp only [pB, mT_off ho, sI_off ho, h, hx, and_self, if_true]
theorem pR_off {K : Mem → Option β} (ho : Off φ T a) (h : (mT τ a).1 = ci + 1) : pR ci k (pt φ T I R τ) (some a) r K = K (pt φ T I R (sR τ a k r)) := by
  simp only [pR, mT_off ho, sR_off ho, h, if_true]
theorem aI_off {K : Int32 → Option β} (ho : Off φ T a) (h : (mT τ a).1 = 100) (h1 : ¬ i < 0) (h2 : i.toNatClampNeg < (mT τ a).2) : aI (pt φ T I R τ) (some a) i K = K (mI τ a i.toNatClampNeg) := by
  simp only [aI, mT_off ho, mI_off ho, isA, ix, h, h1, h2, not_false_eq_true, true_or, and_self, if_true]
theorem wI_off {K : Mem → Option β} (ho : Off φ T a) (h : (mT τ a).1 = 100) (h1 : ¬ i < 0) (h2 : i.toNatClampNeg < (mT τ a).2) : wI (pt φ T I R τ) (some a) i x K = K (pt φ T I R (sI τ a i.toNatClampNeg x)) := by
  simp only [wI, mT_off ho, sI_off ho, isA, ix, h, h1, h2, not_false_eq_true, true_or, and_self, if_true]
theorem aR_off {K : Option Nat → Option β} (ho : Off φ T a) (h : (mT τ a).1 = 100 + t) (h1 : ¬ i < 0) (h2 : i.toNatClampNeg < (mT τ a).2) : aR t (pt φ T I R τ) (some a) i K = K (mR τ a i.toNatClampNeg) := by
  simp only [aR, mT_off ho, mR_off ho, isA, ix, h, h1, h2, not_false_eq_true, true_or, and_self, if_true]
theorem nA_off {K : Mem → Option Nat → Option β} (ho : Off φ T (mZ τ)) (h1 : ¬ n < 0) (h2 : n.toNatClampNeg ≤ b) : nA t b (pt φ T I R τ) n K = K (pt φ T I R (sN τ (100 + t, n.toNatClampNeg))) (some (mZ τ)) := by
  simp only [nA, h1, h2, not_false_eq_true, and_self, if_true, sN_pt ho, mZ_pt]
theorem nO_off {K : Mem → Option Nat → Option β} (ho : Off φ T (mZ τ)) : nO ci (pt φ T I R τ) K = K (pt φ T I R (sN τ (ci + 1, 0))) (some (mZ τ)) := by
  simp only [nO, sN_pt ho, mZ_pt]
end V3

section Q1
variable {φ : Nat → Nat} {T : Nat → Nat × Nat} {I : Nat → Nat → Int32} {R : Nat → Nat → Option Nat} {τ : Mem} {v w a l e c n i : Nat} {h d p : Int32}
theorem tn_ofNat {k : Nat} (h : k < 2147483648) : (Int32.ofNat k).toNatClampNeg = k := oN_c h
def vSec (s sh : Nat → Int32) (k : Nat) : Int32 := if k < 6 then s k else if k = 10 then s 6 else sh (k - 6)
def vSecM (s sh : Nat → Int32) (k : Nat) : Int32 := if k < 6 then s k else sh (k - 6)
def tSec (s : Nat → Int32) (τ : Mem) : Mem := sI (sI (sI (sI (sI (sI (sN τ (100, 6)) (mZ τ) 0 (s 0)) (mZ τ) 1 (s 1)) (mZ τ) 2 (s 2)) (mZ τ) 3 (s 3)) (mZ τ) 4 (s 4)) (mZ τ) 5 (s 5)
theorem le10 {k : Nat} (h : k ≤ 10) : k = 0 ∨ k = 1 ∨ k = 2 ∨ k = 3 ∨ k = 4 ∨ k = 5 ∨ k = 6 ∨ k = 7 ∨ k = 8 ∨ k = 9 ∨ k = 10 := by omega
theorem x_ofSec (hj : Inj φ T) (h0 : T 0 = (7, 0)) (h1 : R 0 0 = some (φ 1)) (h2 : T 1 = (103, 4)) (h3 : R 1 p.toNatClampNeg = some (φ v)) (h4 : T v = (5, 0)) (h5 : R v 7 = some (φ w)) (h6 : T w = (100, 4)) (k1 : ¬ p < 0) (k2 : p < I 0 1) (k3 : p.toNatClampNeg < 4) {k : Nat} (hk : k ≤ 10) : f_X4_ofSection (φ 0) p (Int32.ofNat k) (pt φ T I R τ) = some (.inl (vSec (I v) (I w) k), pt φ T I R τ) := by
  rcases le10 hk with rfl | rfl | rfl | rfl | rfl | rfl | rfl | rfl | rfl | rfl | rfl <;>
  simp (config := {decide := true}) only [b_X4_ofSection_0, f_X4_ofSection, b_X4_sectionAt_0, f_X4_sectionAt, b_X4_requireIndex_9, b_X4_requireIndex_0, f_X4_requireIndex, b_X4_requireArgument_10, b_X4_requireArgument_0, f_X4_requireArgument, gI_pt hj, gR_pt hj, ob_pt hj, ck_pt hj, pI_pt hj, pB_pt hj, pR_pt hj, aI_pt hj, aR_pt hj, wI_pt hj, wJ_pt hj, aL_pt hj, cl1_s, cl1_n, cl1_i, cx1_s, cx1_x, cx1_n, cx1_i, nul_n, nul_s, nm, dv2, dv3, dv4, dv5, dv8, dv10, dv20, dv40, thr, bo, mI_pt hj, mT_pt hj, sB_pt, mZ_pt, mJ_pt, mJ_sJ, mZ_sJ, tn0, tn1, tn2, tn3, tn4, tn5, tn6, h0, h1, h2, h3, h4, h5, h6, k1, k2, k3, vSec, ii0, ii1, ii2, ii3, ii4, if_true, if_false, ne_eq, not_false_eq_true, not_true_eq_false, true_and, and_true, false_and, and_false, and_self, true_or, or_true, false_or, or_false, or_self, Nat.reduceAdd, Nat.reduceLT, Nat.reduceLeDiff, Nat.succ_ne_zero, reduceIte, reduceCtorEq] <;> rfl
theorem m_ofSec (hj : Inj φ T) (ho : Off φ T (mZ τ)) (h0 : T 124 = (11, 0)) (h1 : R 124 6 = some (φ 125)) (k3 : T 125 = (2, 0)) (k4 : R 125 1 = some (φ 133)) (k5 : T 133 = (106, c)) (k6 : ¬ p < 0) (k7 : p < I 125 2) (k8 : p.toNatClampNeg < c) (k9 : R 133 p.toNatClampNeg = some (φ v)) (h4 : T v = (9, 0)) (h5 : R v 6 = some (φ w)) (h6 : T w = (100, 5)) {k : Nat} (hk : k ≤ 10) : f_X8_ofSectionNow (φ 124) p (Int32.ofNat k) (pt φ T I R τ) = some (vSecM (I v) (I w) k, pt φ T I R (tSec (I v) τ)) := by
  rcases le10 hk with rfl | rfl | rfl | rfl | rfl | rfl | rfl | rfl | rfl | rfl | rfl <;>
  simp (config := {decide := true}) only [b_X8_ofSectionNow_82, b_X8_ofSectionNow_0, f_X8_ofSectionNow, lget hj k3 k4 k5 k6 k7 k8, k9, gI_pt hj, gR_pt hj, ob_pt hj, ck_pt hj, pI_pt hj, pB_pt hj, pR_pt hj, aI_pt hj, aR_pt hj, wI_pt hj, wJ_pt hj, aL_pt hj, cl1_s, cl1_n, cl1_i, cx1_s, cx1_x, cx1_n, cx1_i, nul_n, nul_s, nm, dv2, dv3, dv4, dv5, dv8, dv10, dv20, dv40, thr, bo, gI_off, gR_off, ob_off, ck_off, pI_off, pB_off, pR_off, aI_off, wI_off, aR_off, nA_off, nO_off, mT_sI, mT_sR, mT_sJ, mT_sN_at, mI_sN_at, mR_sN_at, mI_sI, mI_sR, mI_sJ, mR_sI, mR_sR, mR_sJ, mZ_sI, mZ_sR, mZ_sN, mJ_sI, mJ_sR, ho, mI_pt hj, mT_pt hj, sB_pt, mZ_pt, mJ_pt, mJ_sJ, mZ_sJ, tn0, tn1, tn2, tn3, tn4, tn5, tn6, h0, h1, k3, h4, h5, h6, up2, vSecM, tSec, ii0, ii1, ii2, ii3, ii4, if_true, if_false, ne_eq, not_false_eq_true, not_true_eq_false, true_and, and_true, false_and, and_false, and_self, true_or, or_true, false_or, or_false, or_self, Nat.reduceAdd, Nat.reduceLT, Nat.reduceLeDiff, Nat.succ_ne_zero, reduceIte, reduceCtorEq] <;> rfl
end Q1

section Q2
variable {φ : Nat → Nat} {T : Nat → Nat × Nat} {I : Nat → Nat → Int32} {R : Nat → Nat → Option Nat} {τ : Mem} {v w u c n : Nat} {p : Int32}
theorem le17 {k : Nat} (h : k ≤ 17) : k = 0 ∨ k = 1 ∨ k = 2 ∨ k = 3 ∨ k = 4 ∨ k = 5 ∨ k = 6 ∨ k = 7 ∨ k = 8 ∨ k = 9 ∨ k = 10 ∨ k = 11 ∨ k = 12 ∨ k = 13 ∨ k = 14 ∨ k = 15 ∨ k = 16 ∨ k = 17 := by omega
def b01 (x : Int32) : Int32 := if x = 0 then 0 else 1
theorem b01_of {x : Int32} (h : x = 0 ∨ x = 1) : b01 x = x := by rcases h with rfl | rfl <;> rfl
def vLot (x xu xa : Nat → Int32) (k : Nat) : Int32 := if k < 10 then x k else if k < 13 then b01 (x k) else if k = 13 then xa 0 else xu (k - 14)
set_option maxRecDepth 4000 in
theorem x_ofLot (hj : Inj φ T) (h0 : T 0 = (7, 0)) (h1 : R 0 3 = some (φ 2)) (h2 : T 2 = (102, 16)) (h3 : R 2 p.toNatClampNeg = some (φ v)) (h4 : T v = (4, 0)) (h5 : R v 13 = some (φ w)) (h6 : T w = (100, 4)) (h7 : R v 15 = some (φ u)) (h8 : T u = (3, 0)) (k1 : ¬ p < 0) (k2 : p < I 0 4) (k3 : p.toNatClampNeg < 16) {k : Nat} (hk : k ≤ 17) : f_X4_ofLot (φ 0) p (Int32.ofNat k) (pt φ T I R τ) = some (.inl (vLot (I v) (I w) (I u) k), pt φ T I R τ) := by
  by_cases c10 : I v 10 = 0 <;> by_cases c11 : I v 11 = 0 <;> by_cases c12 : I v 12 = 0 <;>
  rcases le17 hk with rfl | rfl | rfl | rfl | rfl | rfl | rfl | rfl | rfl | rfl | rfl | rfl | rfl | rfl | rfl | rfl | rfl | rfl <;>
  simp (config := {decide := true}) only [b_X4_ofLot_146, b_X4_ofLot_159, b_X4_ofLot_172, b_X4_ofLot_0, f_X4_ofLot, b_X4_lotAt_0, f_X4_lotAt, b_X4_requireIndex_9, b_X4_requireIndex_0, f_X4_requireIndex, b_X4_requireArgument_10, b_X4_requireArgument_0, f_X4_requireArgument, gI_pt hj, gR_pt hj, ob_pt hj, ck_pt hj, pI_pt hj, pB_pt hj, pR_pt hj, aI_pt hj, aR_pt hj, wI_pt hj, wJ_pt hj, aL_pt hj, cl1_s, cl1_n, cl1_i, cx1_s, cx1_x, cx1_n, cx1_i, nul_n, nul_s, nm, dv2, dv3, dv4, dv5, dv8, dv10, dv20, dv40, thr, bo, mI_pt hj, mT_pt hj, sB_pt, mZ_pt, mJ_pt, mJ_sJ, mZ_sJ, tn0, tn1, tn2, tn3, tn4, tn5, tn6, h0, h1, h2, h3, h4, h5, h6, h7, h8, k1, k2, k3, c10, c11, c12, vLot, b01, ii0, ii1, ii2, ii3, ii4, if_true, if_false, ne_eq, not_false_eq_true, not_true_eq_false, true_and, and_true, false_and, and_false, and_self, true_or, or_true, false_or, or_false, or_self, Nat.reduceAdd, Nat.reduceLT, Nat.reduceLeDiff, Nat.succ_ne_zero, reduceIte, reduceCtorEq] <;> rfl
def tLot (m mu : Nat → Int32) (mx : Int32) (τ : Mem) : Mem := (sI (sI (sI (sI (sI (sI (sI (sI (sI (sI (sI (sI (sI (sI (sN τ (100, 14)) (mZ τ) 0 (m 0)) (mZ τ) 1 (mu 0 + mu 1 + mu 2 + mu 3)) (mZ τ) 2 (m 2)) (mZ τ) 3 (m 3)) (mZ τ) 4 (m 4)) (mZ τ) 5 (m 5)) (mZ τ) 6 (m 6)) (mZ τ) 7 (m 7)) (mZ τ) 8 (m 8)) (mZ τ) 9 (m 9)) (mZ τ) 10 (m 10)) (mZ τ) 11 (m 11)) (mZ τ) 12 mx) (mZ τ) 13 (m 13))
def vLotM (m mu : Nat → Int32) (mx : Int32) (k : Nat) : Int32 := if k = 1 then mu 0 + mu 1 + mu 2 + mu 3 else if k = 12 then mx else if k < 14 then m k else mu (k - 14)
theorem m105 {x : Int32} (h : x = 0 ∨ x = 1) {a : Int32} {b e f : Option Nat} {d : Int32} {σ : Mem} : (if x = 0 then b_X8_ofLotNow_105 a b 0 d e f σ else b_X8_ofLotNow_105 a b 1 d e f σ) = b_X8_ofLotNow_105 a b x d e f σ := by
  rcases h with rfl | rfl <;> simp
theorem m121 {x : Int32} (h : x = 0 ∨ x = 1) {a : Int32} {b e f : Option Nat} {d : Int32} {σ : Mem} : (if x = 0 then b_X8_ofLotNow_121 a b 0 d e f σ else b_X8_ofLotNow_121 a b 1 d e f σ) = b_X8_ofLotNow_121 a b x d e f σ := by
  rcases h with rfl | rfl <;> simp
theorem m121n {mx : Int32} (h : mx = 0 ∨ mx = 1) {z : Nat} {a : Int32} {b e f : Option Nat} {d : Int32} {σ : Mem} : nul (if mx = 0 then none else some z) (b_X8_ofLotNow_137 a b 0 d e f σ) (b_X8_ofLotNow_137 a b 1 d e f σ) = b_X8_ofLotNow_137 a b mx d e f σ := by
  rcases h with rfl | rfl <;> simp [nul]
theorem tn7 : Int32.toNatClampNeg 7 = 7 := rfl
theorem tn8 : Int32.toNatClampNeg 8 = 8 := rfl
theorem tn9 : Int32.toNatClampNeg 9 = 9 := rfl
theorem tn10 : Int32.toNatClampNeg 10 = 10 := rfl
theorem tn11 : Int32.toNatClampNeg 11 = 11 := rfl
theorem tn12 : Int32.toNatClampNeg 12 = 12 := rfl
theorem tn13 : Int32.toNatClampNeg 13 = 13 := rfl
theorem tn14 : Int32.toNatClampNeg 14 = 14 := rfl
set_option maxRecDepth 4000 in
theorem m_ofLot {mx : Int32} {z : Nat} (hj : Inj φ T) (ho : Off φ T (mZ τ)) (h0 : T 124 = (11, 0)) (h1 : R 124 7 = some (φ 126)) (k3 : T 126 = (2, 0)) (k4 : R 126 1 = some (φ 134)) (k5 : T 134 = (106, c)) (k6 : ¬ p < 0) (k7 : p < I 126 2) (k8 : p.toNatClampNeg < c) (k9 : R 134 p.toNatClampNeg = some (φ v)) (h4 : T v = (8, 0)) (h5 : R v 1 = some (φ w)) (h6 : T w = (100, 4)) (h7 : R v 12 = if mx = 0 then none else some z) (b1 : I v 10 = 0 ∨ I v 10 = 1) (b2 : I v 11 = 0 ∨ I v 11 = 1) (b3 : mx = 0 ∨ mx = 1) {k : Nat} (hk : k ≤ 17) : f_X8_ofLotNow (φ 124) p (Int32.ofNat k) (pt φ T I R τ) = some (vLotM (I v) (I w) mx k, pt φ T I R (tLot (I v) (I w) mx τ)) := by
  simp (config := {decide := true}) only [f_X8_ofLotNow, b_X8_ofLotNow_0, lget hj k3 k4 k5 k6 k7 k8, k9, mdry hj h4 h5 h6, m105 b1, gI_pt hj, gR_pt hj, ob_pt hj, ck_pt hj, pI_pt hj, pB_pt hj, pR_pt hj, aI_pt hj, aR_pt hj, wI_pt hj, wJ_pt hj, aL_pt hj, cl1_s, cl1_n, cl1_i, cx1_s, cx1_x, cx1_n, cx1_i, nul_n, nul_s, nm, dv2, dv3, dv4, dv5, dv8, dv10, dv20, dv40, thr, bo, gI_off, gR_off, ob_off, ck_off, pI_off, pB_off, pR_off, aI_off, wI_off, aR_off, nA_off, nO_off, mT_sI, mT_sR, mT_sJ, mT_sN_at, mI_sN_at, mR_sN_at, mI_sI, mI_sR, mI_sJ, mR_sI, mR_sR, mR_sJ, mZ_sI, mZ_sR, mZ_sN, mJ_sI, mJ_sR, ho, mI_pt hj, mT_pt hj, sB_pt, mZ_pt, mJ_pt, mJ_sJ, mZ_sJ, tn0, tn1, tn2, tn3, tn4, tn5, tn6, tn7, tn8, tn9, tn10, tn11, tn12, tn13, h0, h1, k3, h4, ii0, ii1, ii2, ii3, ii4, if_true, if_false, ne_eq, not_false_eq_true, not_true_eq_false, true_and, and_true, false_and, and_false, and_self, true_or, or_true, false_or, or_false, or_self, Nat.reduceAdd, Nat.reduceLT, Nat.reduceLeDiff, Nat.succ_ne_zero, reduceIte, reduceCtorEq]
  simp (config := {decide := true}) only [b_X8_ofLotNow_105, m121 b2, gI_pt hj, gR_pt hj, ob_pt hj, ck_pt hj, pI_pt hj, pB_pt hj, pR_pt hj, aI_pt hj, aR_pt hj, wI_pt hj, wJ_pt hj, aL_pt hj, cl1_s, cl1_n, cl1_i, cx1_s, cx1_x, cx1_n, cx1_i, nul_n, nul_s, nm, dv2, dv3, dv4, dv5, dv8, dv10, dv20, dv40, thr, bo, gI_off, gR_off, ob_off, ck_off, pI_off, pB_off, pR_off, aI_off, wI_off, aR_off, nA_off, nO_off, mT_sI, mT_sR, mT_sJ, mT_sN_at, mI_sN_at, mR_sN_at, mI_sI, mI_sR, mI_sJ, mR_sI, mR_sR, mR_sJ, mZ_sI, mZ_sR, mZ_sN, mJ_sI, mJ_sR, ho, mI_pt hj, mT_pt hj, sB_pt, mZ_pt, mJ_pt, mJ_sJ, mZ_sJ, tn0, tn1, tn2, tn3, tn4, tn5, tn6, tn7, tn8, tn9, tn10, tn11, tn12, tn13, h4, ii0, ii1, ii2, ii3, ii4, if_true, if_false, ne_eq, not_false_eq_true, not_true_eq_false, true_and, and_true, false_and, and_false, and_self, true_or, or_true, false_or, or_false, or_self, Nat.reduceAdd, Nat.reduceLT, Nat.reduceLeDiff, Nat.succ_ne_zero, reduceIte, reduceCtorEq]
  simp (config := {decide := true}) only [b_X8_ofLotNow_121, h7, m121n b3, gI_pt hj, gR_pt hj, ob_pt hj, ck_pt hj, pI_pt hj, pB_pt hj, pR_pt hj, aI_pt hj, aR_pt hj, wI_pt hj, wJ_pt hj, aL_pt hj, cl1_s, cl1_n, cl1_i, cx1_s, cx1_x, cx1_n, cx1_i, nul_n, nul_s, nm, dv2, dv3, dv4, dv5, dv8, dv10, dv20, dv40, thr, bo, gI_off, gR_off, ob_off, ck_off, pI_off, pB_off, pR_off, aI_off, wI_off, aR_off, nA_off, nO_off, mT_sI, mT_sR, mT_sJ, mT_sN_at, mI_sN_at, mR_sN_at, mI_sI, mI_sR, mI_sJ, mR_sI, mR_sR, mR_sJ, mZ_sI, mZ_sR, mZ_sN, mJ_sI, mJ_sR, ho, mI_pt hj, mT_pt hj, sB_pt, mZ_pt, mJ_pt, mJ_sJ, mZ_sJ, tn0, tn1, tn2, tn3, tn4, tn5, tn6, tn7, tn8, tn9, tn10, tn11, tn12, tn13, h4, ii0, ii1, ii2, ii3, ii4, if_true, if_false, ne_eq, not_false_eq_true, not_true_eq_false, true_and, and_true, false_and, and_false, and_self, true_or, or_true, false_or, or_false, or_self, Nat.reduceAdd, Nat.reduceLT, Nat.reduceLeDiff, Nat.succ_ne_zero, reduceIte, reduceCtorEq]
  rcases le17 hk with rfl | rfl | rfl | rfl | rfl | rfl | rfl | rfl | rfl | rfl | rfl | rfl | rfl | rfl | rfl | rfl | rfl | rfl <;>
  simp (config := {decide := true}) only [b_X8_ofLotNow_137, b_X8_ofLotNow_170, gI_pt hj, gR_pt hj, ob_pt hj, ck_pt hj, pI_pt hj, pB_pt hj, pR_pt hj, aI_pt hj, aR_pt hj, wI_pt hj, wJ_pt hj, aL_pt hj, cl1_s, cl1_n, cl1_i, cx1_s, cx1_x, cx1_n, cx1_i, nul_n, nul_s, nm, dv2, dv3, dv4, dv5, dv8, dv10, dv20, dv40, thr, bo, gI_off, gR_off, ob_off, ck_off, pI_off, pB_off, pR_off, aI_off, wI_off, aR_off, nA_off, nO_off, mT_sI, mT_sR, mT_sJ, mT_sN_at, mI_sN_at, mR_sN_at, mI_sI, mI_sR, mI_sJ, mR_sI, mR_sR, mR_sJ, mZ_sI, mZ_sR, mZ_sN, mJ_sI, mJ_sR, ho, mI_pt hj, mT_pt hj, sB_pt, mZ_pt, mJ_pt, mJ_sJ, mZ_sJ, tn0, tn1, tn2, tn3, tn4, tn5, tn6, tn7, tn8, tn9, tn10, tn11, tn12, tn13, h4, h5, h6, up2, vLotM, tLot, ii0, ii1, ii2, ii3, ii4, if_true, if_false, ne_eq, not_false_eq_true, not_true_eq_false, true_and, and_true, false_and, and_false, and_self, true_or, or_true, false_or, or_false, or_self, Nat.reduceAdd, Nat.reduceLT, Nat.reduceLeDiff, Nat.succ_ne_zero, reduceIte, reduceCtorEq] <;> rfl
end Q2

section Q3
variable {φ : Nat → Nat} {T : Nat → Nat × Nat} {I : Nat → Nat → Int32} {R : Nat → Nat → Option Nat} {τ : Mem} {a v w c : Nat} {p : Int32}
theorem mJ_tSec {s : Nat → Int32} (h : a ≠ mZ τ) : mJ (tSec s τ) a = mJ τ a := mJ_sN h
theorem mJ_tLot {m mu : Nat → Int32} {mx : Int32} (h : a ≠ mZ τ) : mJ (tLot m mu mx τ) a = mJ τ a := mJ_sN h
theorem mZ_tSec {s : Nat → Int32} : mZ (tSec s τ) = mZ τ + 1 := rfl
theorem mZ_tLot {m mu : Nat → Int32} {mx : Int32} : mZ (tLot m mu mx τ) = mZ τ + 1 := rfl
theorem vSec_eq {s sh m mh : Nat → Int32} {n : Nat} (h : SecR s sh m mh n) {k : Nat} (hk : k ≤ 10) : vSecM m mh k = vSec s sh k := by
  obtain ⟨⟨e0, e1, e2, e3, e4, e5, e6⟩, ⟨g0, g1, g2, g3⟩, -⟩ := h
  rcases le10 hk with rfl | rfl | rfl | rfl | rfl | rfl | rfl | rfl | rfl | rfl | rfl <;> simp [vSec, vSecM, *]
theorem vLot_eq {x xu xn xa xp xt m mu mn : Nat → Int32} {mx : Int32} {b : List (Nat × Int32)} {n : Nat} (h : LotR x xu xn xa xp xt m mu mn mx b n) {k : Nat} (hk : k ≤ 17) : vLotM m mu mx k = vLot x xu xa k := by
  obtain ⟨⟨e0, e2, e3, e4, e5, e6, e7, e8, e9, e10, e11, e12, ea⟩, ⟨u0, u1, u2, u3⟩, ⟨d1, -⟩, ⟨m1, -⟩, ⟨b1, b2, -⟩, -⟩ := h
  have c1 := b01_of b1
  have c2 := b01_of b2
  have c3 : b01 mx = mx := b01_of m1
  rw [e10] at c1
  rw [e11] at c2
  rcases le17 hk with rfl | rfl | rfl | rfl | rfl | rfl | rfl | rfl | rfl | rfl | rfl | rfl | rfl | rfl | rfl | rfl | rfl | rfl <;> simp only [vLot, vLotM] <;> simp [*]
theorem m_ofLotE {mx : Int32} {z : Nat} (hj : Inj φ T) (ho : Off φ T (mZ τ)) (h0 : T 124 = (11, 0)) (h1 : R 124 7 = some (φ 126)) (k3 : T 126 = (2, 0)) (k4 : R 126 1 = some (φ 134)) (k5 : T 134 = (106, c)) (k6 : ¬ p < 0) (k7 : p < I 126 2) (k8 : p.toNatClampNeg < c) (k9 : R 134 p.toNatClampNeg = some (φ v)) (h4 : T v = (8, 0)) (h5 : R v 1 = some (φ w)) (h6 : T w = (100, 4)) (h7 : R v 12 = if mx = 0 then none else some z) (b1 : I v 10 = 0 ∨ I v 10 = 1) (b2 : I v 11 = 0 ∨ I v 11 = 1) (b3 : mx = 0 ∨ mx = 1) {k : Nat} (hk : k ≤ 17) : ∃ τ', f_X8_ofLotNow (φ 124) p (Int32.ofNat k) (pt φ T I R τ) = some (vLotM (I v) (I w) mx k, pt φ T I R τ') ∧ mZ τ' = mZ τ + 1 ∧ ∀ a, a ≠ mZ τ → mJ τ' a = mJ τ a := ⟨_, m_ofLot hj ho h0 h1 k3 k4 k5 k6 k7 k8 k9 h4 h5 h6 h7 b1 b2 b3 hk, mZ_tLot, fun a ha => mJ_tLot ha⟩
end Q3

theorem op_ofSection {e0 x m o n : Nat} {σ : Mem} (p : Int32) (a : Int32) (hn : n < 600) (h : Jn e0 x m o n σ) : Agr e0 x m o n (f_L_ofSection (some x) p a (some o) σ) (fun σ => f_X8_ofSection m p a σ) := by
  obtain ⟨φ, T, I, R, τ, nS, nL, cS, cL, mx, cB, bl, rfl, ⟨rfl, rfl, rfl⟩, hj, hl, hx, hm, hr⟩ := h
  have hx' := hx
  have hm' := hm
  have hr' := hr
  obtain ⟨hx0, hx1, hx2, hx3, hx4, hx5, hx6, hx7, hx8, hx9, hx10, hx11, hx12, hx13, hx14, hx15, hx16, hx17, hx18, hx19, hx20, hx21, hx22, hx23, hx24, hx25, hx26, hx27⟩ := hx
  obtain ⟨hm0, hm1, hm2, hm3, hm4, hm5, hm6, hm7, hm8, hm9, hm10, hm11, hm12, hm13, hm14, hm15, hm16, hm17, hm18, hm19, hm20, hm21, hm22, hm23, hm24, hm25, hm26, hm27, hm28, hm29, hm30, hm31, hm32, hm33, hm34, hm35, hm36, hm37, hm38, hm39, hm40⟩ := hm
  obtain ⟨⟨⟨g1, g2⟩, ⟨g3, g4, g5, g6, g7⟩, g8, g9, g10⟩, r1, r2, r3, r4, r5, r6⟩ := hr
  by_cases hvi : ¬ p < 0 ∧ p < Int32.ofNat nS
  · obtain ⟨vi1, vi2⟩ := hvi
    obtain ⟨vi3, vi4, vi5, vi6, vi7⟩ := idxL (q := Int32.ofNat nS) (q1 := Int32.ofNat nS - 1) (n := nS) (by omega) rfl rfl vi1 vi2
    generalize hii : p.toNatClampNeg = i at vi7
    obtain ⟨⟨Fi0, Fi1, Fi2, Fi3, Fi4, Fi5, Fi6⟩, ⟨Gi0, Gi1, Gi2, Gi3⟩, sBi, sCi, sDi⟩ := r3 i vi7
    have hnS : 0 < nS := by omega
    have hnS' : nS ≠ 0 := by omega
    have h4i : i < 4 := by omega
    have hcSi : i < cS := by omega
    have nei0 : 124 ≠ 2 * i + 11 := by omega
    have nei1 : 124 ≠ 2 * i + 12 := by omega
    have nei2 : 125 ≠ 2 * i + 11 := by omega
    have nei3 : 125 ≠ 2 * i + 12 := by omega
    have nei4 : 126 ≠ 2 * i + 11 := by omega
    have nei5 : 126 ≠ 2 * i + 12 := by omega
    have nei6 : 133 ≠ 2 * i + 11 := by omega
    have nei7 : 133 ≠ 2 * i + 12 := by omega
    have nei8 : 2 * i + 135 ≠ 2 * i + 11 := by omega
    have nei9 : 2 * i + 135 ≠ 2 * i + 12 := by omega
    have nei10 : 2 * i + 136 ≠ 2 * i + 11 := by omega
    have nei11 : 2 * i + 136 ≠ 2 * i + 12 := by omega
    have nei12 : 124 ≠ 2 * i + 135 := by omega
    have nei13 : 124 ≠ 2 * i + 136 := by omega
    have nei14 : 2 * i + 135 ≠ 124 := by omega
    have nei15 : 2 * i + 136 ≠ 124 := by omega
    have nei16 : 125 ≠ 2 * i + 135 := by omega
    have nei17 : 125 ≠ 2 * i + 136 := by omega
    by_cases raa : a < 0
    · apply Agr.of
      · simp (config := {decide := true}) only [b_L_ofSection_0, f_L_ofSection, b_X4_ofSection_0, f_X4_ofSection, b_X4_sectionAt_0, f_X4_sectionAt, b_X4_requireIndex_9, b_X4_requireIndex_0, f_X4_requireIndex, b_X4_requireState_0, f_X4_requireState, b_X4_requireArgument_10, b_X4_requireArgument_0, f_X4_requireArgument, gI_pt hj, gR_pt hj, ob_pt hj, ck_pt hj, pI_pt hj, pB_pt hj, pR_pt hj, aI_pt hj, aR_pt hj, wI_pt hj, wJ_pt hj, aL_pt hj, cl1_s, cl1_n, cl1_i, cx1_s, cx1_x, cx1_n, cx1_i, nul_n, nul_s, nm, dv2, dv3, dv4, dv5, dv8, dv10, dv20, dv40, thr, bo, mI_pt hj, mT_pt hj, sB_pt, mZ_pt, mJ_pt, mJ_sJ, mZ_sJ, tn0, tn1, tn2, tn3, tn4, tn5, tn6, hx0, hx1, hx2, hx3, hx4, hx5, hx6, hx7, hx8, hx9, hx10, hx11, hx12, hx13, hx14, hx15, hx16, hx17, hx18, hx19, hx20, hx21, hx22, hx23, hx24, hx25, hx26, hx27, hm9, g1, g2, vi1, vi2, vi3, vi4, vi5, vi6, vi7, hii, hnS, hnS', h4i, hcSi, Fi0, Fi1, Fi2, Fi3, Fi4, Fi5, Fi6, Gi0, Gi1, Gi2, Gi3, raa,  up2, rowS_at, rowS_ne, -Nat.reduceEqDiff, Nat.add_left_cancel_iff, ii0, ii1, ii2, ii3, ii4, if_true, if_false, ne_eq, not_false_eq_true, not_true_eq_false, true_and, and_true, false_and, and_false, and_self, true_or, or_true, false_or, or_false, or_self, Nat.reduceAdd, Nat.reduceLT, Nat.reduceLeDiff, Nat.succ_ne_zero, reduceIte, reduceCtorEq]
        rfl
      · simp (config := {decide := true}) only [b_X8_ofSection_46, b_X8_ofSection_36, b_X8_ofSection_29, b_X8_ofSection_0, f_X8_ofSection, b_X8_isNoSection_22, b_X8_isNoSection_0, f_X8_isNoSection, b_X8_isIn_15, b_X8_isIn_14, b_X8_isIn_0, f_X8_isIn, b_X8_start_0, f_X8_start, b_X8_refuse_28, b_X8_refuse_16, b_X8_refuse_0, f_X8_refuse, b_Jx4a65c_size_8abf5_0, f_Jx4a65c_size_8abf5, b_J3_checkIndex_8e157_9, b_J3_checkIndex_8e157_0, f_J3_checkIndex_8e157, b_J15_checkIndex_7cf53_0, f_J15_checkIndex_7cf53, b_Jx4a65c_elementData_915e3_0, f_Jx4a65c_elementData_915e3, b_Jx4a65c_get_915e3_0, f_Jx4a65c_get_915e3, gI_pt hj, gR_pt hj, ob_pt hj, ck_pt hj, pI_pt hj, pB_pt hj, pR_pt hj, aI_pt hj, aR_pt hj, wI_pt hj, wJ_pt hj, aL_pt hj, cl1_s, cl1_n, cl1_i, cx1_s, cx1_x, cx1_n, cx1_i, nul_n, nul_s, nm, dv2, dv3, dv4, dv5, dv8, dv10, dv20, dv40, thr, bo, mI_pt hj, mT_pt hj, sB_pt, mZ_pt, mJ_pt, mJ_sJ, mZ_sJ, tn0, tn1, tn2, tn3, tn4, tn5, tn6, hm0, hm1, hm2, hm3, hm4, hm5, hm6, hm7, hm8, hm9, hm10, hm11, hm12, hm13, hm14, hm15, hm16, hm17, hm18, hm19, hm20, hm21, hm22, hm23, hm24, hm25, hm26, hm27, hm28, hm29, hm30, hm31, hm32, hm33, hm34, hm35, hm36, hm37, hm38, hm39, vi1, vi2, vi3, vi4, vi5, vi6, vi7, hii, hnS, hnS', h4i, hcSi, Fi0, Fi1, Fi2, Fi3, Fi4, Fi5, Fi6, Gi0, Gi1, Gi2, Gi3, raa, nei0, nei1, nei2, nei3, nei4, nei5, nei6, nei7, nei8, nei9, nei10, nei11, nei12, nei13, nei14, nei15, nei16, nei17,  up2, rowS_at, rowS_ne, -Nat.reduceEqDiff, Nat.add_left_cancel_iff, ii0, ii1, ii2, ii3, ii4, if_true, if_false, ne_eq, not_false_eq_true, not_true_eq_false, true_and, and_true, false_and, and_false, and_self, true_or, or_true, false_or, or_false, or_self, Nat.reduceAdd, Nat.reduceLT, Nat.reduceLeDiff, Nat.succ_ne_zero, reduceIte, reduceCtorEq]
        rfl
      · refine Jn.put hj hl.B hx' hm' ?_ (hr'.thr hm23 hm22 ?_ ?_)
        · rintro v (rfl | rfl | ⟨i', k, h1, h2, h3, rfl⟩) <;> simp (disch := omega) only [up2_row, rowS_ne]
        · intro v h1; simp (disch := omega) only [up2_row, rowS_ne]
        · intro k h1 h2; simp (disch := omega) only [up2_row, up2_k, rowS_ne]
      · simp (config := {decide := true}) only [mI_pt hj, mT_pt hj, sB_pt, mZ_pt, mJ_pt, mJ_sJ, mZ_sJ, tn0, tn1, tn2, tn3, tn4, tn5, tn6, hm0, hm1, hm2, hm3, hm4, hm5, hm6, hm7, hm8, hm9, hm10, hm11, hm12, hm13, hm14, hm15, hm16, hm17, hm18, hm19, hm20, hm21, hm22, hm23, hm24, hm25, hm26, hm27, hm28, hm29, hm30, hm31, hm32, hm33, hm34, hm35, hm36, hm37, hm38, hm39, up2, rowS_at, rowS_ne, nei0, nei1, nei2, nei3, nei4, nei5, nei6, nei7, nei8, nei9, nei10, nei11, nei12, nei13, nei14, nei15, nei16, nei17, -Nat.reduceEqDiff, ii0, ii1, ii2, ii3, ii4, if_true, if_false, ne_eq, not_false_eq_true, not_true_eq_false, true_and, and_true, false_and, and_false, and_self, true_or, or_true, false_or, or_false, or_self, Nat.reduceAdd, Nat.reduceLT, Nat.reduceLeDiff, Nat.succ_ne_zero, reduceIte, reduceCtorEq]
      · intro q; exact absurd q (by decide)
    · by_cases rab : 10 < a
      · have rac : ¬ a ≤ 10 := Int32.not_le.mpr rab
        apply Agr.of
        · simp (config := {decide := true}) only [b_L_ofSection_0, f_L_ofSection, b_X4_ofSection_0, f_X4_ofSection, b_X4_sectionAt_0, f_X4_sectionAt, b_X4_requireIndex_9, b_X4_requireIndex_0, f_X4_requireIndex, b_X4_requireState_0, f_X4_requireState, b_X4_requireArgument_10, b_X4_requireArgument_0, f_X4_requireArgument, gI_pt hj, gR_pt hj, ob_pt hj, ck_pt hj, pI_pt hj, pB_pt hj, pR_pt hj, aI_pt hj, aR_pt hj, wI_pt hj, wJ_pt hj, aL_pt hj, cl1_s, cl1_n, cl1_i, cx1_s, cx1_x, cx1_n, cx1_i, nul_n, nul_s, nm, dv2, dv3, dv4, dv5, dv8, dv10, dv20, dv40, thr, bo, mI_pt hj, mT_pt hj, sB_pt, mZ_pt, mJ_pt, mJ_sJ, mZ_sJ, tn0, tn1, tn2, tn3, tn4, tn5, tn6, hx0, hx1, hx2, hx3, hx4, hx5, hx6, hx7, hx8, hx9, hx10, hx11, hx12, hx13, hx14, hx15, hx16, hx17, hx18, hx19, hx20, hx21, hx22, hx23, hx24, hx25, hx26, hx27, hm9, g1, g2, vi1, vi2, vi3, vi4, vi5, vi6, vi7, hii, hnS, hnS', h4i, hcSi, Fi0, Fi1, Fi2, Fi3, Fi4, Fi5, Fi6, Gi0, Gi1, Gi2, Gi3, raa, rab, rac,  up2, rowS_at, rowS_ne, -Nat.reduceEqDiff, Nat.add_left_cancel_iff, ii0, ii1, ii2, ii3, ii4, if_true, if_false, ne_eq, not_false_eq_true, not_true_eq_false, true_and, and_true, false_and, and_false, and_self, true_or, or_true, false_or, or_false, or_self, Nat.reduceAdd, Nat.reduceLT, Nat.reduceLeDiff, Nat.succ_ne_zero, reduceIte, reduceCtorEq]
          rfl
        · simp (config := {decide := true}) only [b_X8_ofSection_46, b_X8_ofSection_36, b_X8_ofSection_29, b_X8_ofSection_0, f_X8_ofSection, b_X8_isNoSection_22, b_X8_isNoSection_0, f_X8_isNoSection, b_X8_isIn_15, b_X8_isIn_14, b_X8_isIn_0, f_X8_isIn, b_X8_start_0, f_X8_start, b_X8_refuse_28, b_X8_refuse_16, b_X8_refuse_0, f_X8_refuse, b_Jx4a65c_size_8abf5_0, f_Jx4a65c_size_8abf5, b_J3_checkIndex_8e157_9, b_J3_checkIndex_8e157_0, f_J3_checkIndex_8e157, b_J15_checkIndex_7cf53_0, f_J15_checkIndex_7cf53, b_Jx4a65c_elementData_915e3_0, f_Jx4a65c_elementData_915e3, b_Jx4a65c_get_915e3_0, f_Jx4a65c_get_915e3, gI_pt hj, gR_pt hj, ob_pt hj, ck_pt hj, pI_pt hj, pB_pt hj, pR_pt hj, aI_pt hj, aR_pt hj, wI_pt hj, wJ_pt hj, aL_pt hj, cl1_s, cl1_n, cl1_i, cx1_s, cx1_x, cx1_n, cx1_i, nul_n, nul_s, nm, dv2, dv3, dv4, dv5, dv8, dv10, dv20, dv40, thr, bo, mI_pt hj, mT_pt hj, sB_pt, mZ_pt, mJ_pt, mJ_sJ, mZ_sJ, tn0, tn1, tn2, tn3, tn4, tn5, tn6, hm0, hm1, hm2, hm3, hm4, hm5, hm6, hm7, hm8, hm9, hm10, hm11, hm12, hm13, hm14, hm15, hm16, hm17, hm18, hm19, hm20, hm21, hm22, hm23, hm24, hm25, hm26, hm27, hm28, hm29, hm30, hm31, hm32, hm33, hm34, hm35, hm36, hm37, hm38, hm39, vi1, vi2, vi3, vi4, vi5, vi6, vi7, hii, hnS, hnS', h4i, hcSi, Fi0, Fi1, Fi2, Fi3, Fi4, Fi5, Fi6, Gi0, Gi1, Gi2, Gi3, raa, rab, rac, nei0, nei1, nei2, nei3, nei4, nei5, nei6, nei7, nei8, nei9, nei10, nei11, nei12, nei13, nei14, nei15, nei16, nei17,  up2, rowS_at, rowS_ne, -Nat.reduceEqDiff, Nat.add_left_cancel_iff, ii0, ii1, ii2, ii3, ii4, if_true, if_false, ne_eq, not_false_eq_true, not_true_eq_false, true_and, and_true, false_and, and_false, and_self, true_or, or_true, false_or, or_false, or_self, Nat.reduceAdd, Nat.reduceLT, Nat.reduceLeDiff, Nat.succ_ne_zero, reduceIte, reduceCtorEq]
          rfl
        · refine Jn.put hj hl.B hx' hm' ?_ (hr'.thr hm23 hm22 ?_ ?_)
          · rintro v (rfl | rfl | ⟨i', k, h1, h2, h3, rfl⟩) <;> simp (disch := omega) only [up2_row, rowS_ne]
          · intro v h1; simp (disch := omega) only [up2_row, rowS_ne]
          · intro k h1 h2; simp (disch := omega) only [up2_row, up2_k, rowS_ne]
        · simp (config := {decide := true}) only [mI_pt hj, mT_pt hj, sB_pt, mZ_pt, mJ_pt, mJ_sJ, mZ_sJ, tn0, tn1, tn2, tn3, tn4, tn5, tn6, hm0, hm1, hm2, hm3, hm4, hm5, hm6, hm7, hm8, hm9, hm10, hm11, hm12, hm13, hm14, hm15, hm16, hm17, hm18, hm19, hm20, hm21, hm22, hm23, hm24, hm25, hm26, hm27, hm28, hm29, hm30, hm31, hm32, hm33, hm34, hm35, hm36, hm37, hm38, hm39, up2, rowS_at, rowS_ne, nei0, nei1, nei2, nei3, nei4, nei5, nei6, nei7, nei8, nei9, nei10, nei11, nei12, nei13, nei14, nei15, nei16, nei17, -Nat.reduceEqDiff, ii0, ii1, ii2, ii3, ii4, if_true, if_false, ne_eq, not_false_eq_true, not_true_eq_false, true_and, and_true, false_and, and_false, and_self, true_or, or_true, false_or, or_false, or_self, Nat.reduceAdd, Nat.reduceLT, Nat.reduceLeDiff, Nat.succ_ne_zero, reduceIte, reduceCtorEq]
        · intro q; exact absurd q (by decide)
      · obtain ⟨rac, rad⟩ := rngI raa rab
        obtain ⟨k, -, rfl, hk1, -⟩ := natOf rac rad (by decide)
        have hk : k ≤ 10 := by have : (10 : Int32).toInt = 10 := rfl
                               omega
        have ho : Off φ T (mZ τ) := Off.of hl (Nat.le_refl _)
        have hne : φ 132 ≠ mZ τ := ho 132 (by rw [hm9]; decide)
        have XX1 : R 125 1 = some (φ 133) := by rw [hm14, if_neg hnS']
        have XX2 := hm16 hnS
        have XX3 : R 133 p.toNatClampNeg = some (φ (2 * i + 135)) := by rw [hii]; exact hm24 i vi7
        have XX4 : R 1 p.toNatClampNeg = some (φ (2 * i + 11)) := by rw [hii]; exact hx10 i h4i
        have hcp : p.toNatClampNeg < cS := by omega
        have hp4 : p.toNatClampNeg < 4 := by omega
        have g1' : p < I 0 1 := by rw [g1]; exact vi2
        have VE := vSec_eq (r3 i vi7) hk
        have XM : ∀ (J : Nat → Nat → Int32) (y : Int64), J 125 2 = Int32.ofNat nS → f_X8_ofSectionNow (φ 124) p (Int32.ofNat k) (pt φ T J R (sJ τ (φ 132) 0 y)) = some (vSecM (J (2 * i + 135)) (J (2 * i + 136)) k, pt φ T J R (tSec (J (2 * i + 135)) (sJ τ (φ 132) 0 y)))   := fun J y hJ => m_ofSec (I := J) (τ := sJ τ (φ 132) 0 y) (v := 2 * i + 135) (w := 2 * i + 136) (c := cS) (R := R) (T := T) hj (show Off φ T (mZ (sJ τ (φ 132) 0 y)) from ho) hm0 hm1 hm5 XX1 XX2 vi1 (by rw [hJ]; exact vi2) hcp XX3 (hm25 i vi7) (hm26 i vi7) (hm27 i vi7) hk
        apply Agr.of
        · simp (config := {decide := true}) only [b_L_ofSection_0, f_L_ofSection, b_X4_sectionAt_0, f_X4_sectionAt, b_X4_requireIndex_9, b_X4_requireIndex_0, f_X4_requireIndex, b_X4_requireState_0, f_X4_requireState, b_X4_requireArgument_10, b_X4_requireArgument_0, f_X4_requireArgument, gI_pt hj, gR_pt hj, ob_pt hj, ck_pt hj, pI_pt hj, pB_pt hj, pR_pt hj, aI_pt hj, aR_pt hj, wI_pt hj, wJ_pt hj, aL_pt hj, cl1_s, cl1_n, cl1_i, cx1_s, cx1_x, cx1_n, cx1_i, nul_n, nul_s, nm, dv2, dv3, dv4, dv5, dv8, dv10, dv20, dv40, thr, bo, mI_pt hj, mT_pt hj, sB_pt, mZ_pt, mJ_pt, mJ_sJ, mZ_sJ, tn0, tn1, tn2, tn3, tn4, tn5, tn6, hx0, hx1, hx2, hx3, hx4, hx5, hx6, hx7, hx8, hx9, hx10, hx11, hx12, hx13, hx14, hx15, hx16, hx17, hx18, hx19, hx20, hx21, hx22, hx23, hx24, hx25, hx26, hx27, hm9, g1, g2, vi1, vi2, vi3, vi4, vi5, vi6, vi7, hii, hnS, hnS', h4i, hcSi, Fi0, Fi1, Fi2, Fi3, Fi4, Fi5, Fi6, Gi0, Gi1, Gi2, Gi3, raa, rab, rac, rad, x_ofSec hj hx0 hx1 hx6 XX4 (hx11 i h4i) (hx12 i h4i) (hx13 i h4i) vi1 g1' hp4 hk,  up2, rowS_at, rowS_ne, -Nat.reduceEqDiff, Nat.add_left_cancel_iff, ii0, ii1, ii2, ii3, ii4, if_true, if_false, ne_eq, not_false_eq_true, not_true_eq_false, true_and, and_true, false_and, and_false, and_self, true_or, or_true, false_or, or_false, or_self, Nat.reduceAdd, Nat.reduceLT, Nat.reduceLeDiff, Nat.succ_ne_zero, reduceIte, reduceCtorEq]
          rfl
        · simp (config := {decide := true}) only [b_X8_ofSection_46, b_X8_ofSection_36, b_X8_ofSection_29, b_X8_ofSection_0, f_X8_ofSection, b_X8_isNoSection_22, b_X8_isNoSection_0, f_X8_isNoSection, b_X8_isIn_15, b_X8_isIn_14, b_X8_isIn_0, f_X8_isIn, b_X8_start_0, f_X8_start, b_X8_refuse_28, b_X8_refuse_16, b_X8_refuse_0, f_X8_refuse, b_Jx4a65c_size_8abf5_0, f_Jx4a65c_size_8abf5, b_J3_checkIndex_8e157_9, b_J3_checkIndex_8e157_0, f_J3_checkIndex_8e157, b_J15_checkIndex_7cf53_0, f_J15_checkIndex_7cf53, b_Jx4a65c_elementData_915e3_0, f_Jx4a65c_elementData_915e3, b_Jx4a65c_get_915e3_0, f_Jx4a65c_get_915e3, gI_pt hj, gR_pt hj, ob_pt hj, ck_pt hj, pI_pt hj, pB_pt hj, pR_pt hj, aI_pt hj, aR_pt hj, wI_pt hj, wJ_pt hj, aL_pt hj, cl1_s, cl1_n, cl1_i, cx1_s, cx1_x, cx1_n, cx1_i, nul_n, nul_s, nm, dv2, dv3, dv4, dv5, dv8, dv10, dv20, dv40, thr, bo, mI_pt hj, mT_pt hj, sB_pt, mZ_pt, mJ_pt, mJ_sJ, mZ_sJ, tn0, tn1, tn2, tn3, tn4, tn5, tn6, hm0, hm1, hm2, hm3, hm4, hm5, hm6, hm7, hm8, hm9, hm10, hm11, hm12, hm13, hm14, hm15, hm16, hm17, hm18, hm19, hm20, hm21, hm22, hm23, hm24, hm25, hm26, hm27, hm28, hm29, hm30, hm31, hm32, hm33, hm34, hm35, hm36, hm37, hm38, hm39, vi1, vi2, vi3, vi4, vi5, vi6, vi7, hii, hnS, hnS', h4i, hcSi, Fi0, Fi1, Fi2, Fi3, Fi4, Fi5, Fi6, Gi0, Gi1, Gi2, Gi3, raa, rab, rac, rad, XM, nei0, nei1, nei2, nei3, nei4, nei5, nei6, nei7, nei8, nei9, nei10, nei11, nei12, nei13, nei14, nei15, nei16, nei17,  up2, rowS_at, rowS_ne, -Nat.reduceEqDiff, Nat.add_left_cancel_iff, ii0, ii1, ii2, ii3, ii4, if_true, if_false, ne_eq, not_false_eq_true, not_true_eq_false, true_and, and_true, false_and, and_false, and_self, true_or, or_true, false_or, or_false, or_self, Nat.reduceAdd, Nat.reduceLT, Nat.reduceLeDiff, Nat.succ_ne_zero, reduceIte, reduceCtorEq]
          rfl
        · refine Jn.put hj hl.B hx' hm' ?_ (hr'.thr hm23 hm22 ?_ ?_)
          · rintro v (rfl | rfl | ⟨i', k, h1, h2, h3, rfl⟩) <;> simp (disch := omega) only [up2_row, rowS_ne]
          · intro v h1; simp (disch := omega) only [up2_row, rowS_ne]
          · intro k h1 h2; simp (disch := omega) only [up2_row, up2_k, rowS_ne]
        · simp (config := {decide := true}) only [mI_pt hj, mT_pt hj, sB_pt, mZ_pt, mJ_pt, mJ_sJ, mZ_sJ, tn0, tn1, tn2, tn3, tn4, tn5, tn6, hm0, hm1, hm2, hm3, hm4, hm5, hm6, hm7, hm8, hm9, hm10, hm11, hm12, hm13, hm14, hm15, hm16, hm17, hm18, hm19, hm20, hm21, hm22, hm23, hm24, hm25, hm26, hm27, hm28, hm29, hm30, hm31, hm32, hm33, hm34, hm35, hm36, hm37, hm38, hm39, up2, rowS_at, rowS_ne, nei0, nei1, nei2, nei3, nei4, nei5, nei6, nei7, nei8, nei9, nei10, nei11, nei12, nei13, nei14, nei15, nei16, nei17, -Nat.reduceEqDiff, ii0, ii1, ii2, ii3, ii4, if_true, if_false, ne_eq, not_false_eq_true, not_true_eq_false, true_and, and_true, false_and, and_false, and_self, true_or, or_true, false_or, or_false, or_self, Nat.reduceAdd, Nat.reduceLT, Nat.reduceLeDiff, Nat.succ_ne_zero, reduceIte, reduceCtorEq]
        · intro _; simp (disch := omega) only [mJ_pt, mJ_tSec (τ := sJ τ _ _ _) hne, mJ_sJ, up2_row, VE]
  · rcases idxL' (q := Int32.ofNat nS) (q1 := Int32.ofNat nS - 1) (n := nS) (by omega) rfl rfl hvi with ⟨w1, w2⟩ | ⟨w1, w2, w3, w4, w5, w6⟩
    · apply Agr.of
      · simp (config := {decide := true}) only [b_L_ofSection_0, f_L_ofSection, b_X4_ofSection_0, f_X4_ofSection, b_X4_sectionAt_0, f_X4_sectionAt, b_X4_requireIndex_9, b_X4_requireIndex_0, f_X4_requireIndex, b_X4_requireState_0, f_X4_requireState, b_X4_requireArgument_10, b_X4_requireArgument_0, f_X4_requireArgument, gI_pt hj, gR_pt hj, ob_pt hj, ck_pt hj, pI_pt hj, pB_pt hj, pR_pt hj, aI_pt hj, aR_pt hj, wI_pt hj, wJ_pt hj, aL_pt hj, cl1_s, cl1_n, cl1_i, cx1_s, cx1_x, cx1_n, cx1_i, nul_n, nul_s, nm, dv2, dv3, dv4, dv5, dv8, dv10, dv20, dv40, thr, bo, mI_pt hj, mT_pt hj, sB_pt, mZ_pt, mJ_pt, mJ_sJ, mZ_sJ, tn0, tn1, tn2, tn3, tn4, tn5, tn6, hx0, hx1, hx2, hx3, hx4, hx5, hx6, hx7, hx8, hx9, hx10, hx11, hx12, hx13, hx14, hx15, hx16, hx17, hx18, hx19, hx20, hx21, hx22, hx23, hx24, hx25, hx26, hx27, hm9, g1, g2, w1, w2,  up2, rowS_at, rowS_ne, -Nat.reduceEqDiff, Nat.add_left_cancel_iff, ii0, ii1, ii2, ii3, ii4, if_true, if_false, ne_eq, not_false_eq_true, not_true_eq_false, true_and, and_true, false_and, and_false, and_self, true_or, or_true, false_or, or_false, or_self, Nat.reduceAdd, Nat.reduceLT, Nat.reduceLeDiff, Nat.succ_ne_zero, reduceIte, reduceCtorEq]
        rfl
      · simp (config := {decide := true}) only [b_X8_ofSection_46, b_X8_ofSection_36, b_X8_ofSection_29, b_X8_ofSection_0, f_X8_ofSection, b_X8_isNoSection_22, b_X8_isNoSection_0, f_X8_isNoSection, b_X8_isIn_15, b_X8_isIn_14, b_X8_isIn_0, f_X8_isIn, b_X8_start_0, f_X8_start, b_X8_refuse_28, b_X8_refuse_16, b_X8_refuse_0, f_X8_refuse, b_Jx4a65c_size_8abf5_0, f_Jx4a65c_size_8abf5, b_J3_checkIndex_8e157_9, b_J3_checkIndex_8e157_0, f_J3_checkIndex_8e157, b_J15_checkIndex_7cf53_0, f_J15_checkIndex_7cf53, b_Jx4a65c_elementData_915e3_0, f_Jx4a65c_elementData_915e3, b_Jx4a65c_get_915e3_0, f_Jx4a65c_get_915e3, gI_pt hj, gR_pt hj, ob_pt hj, ck_pt hj, pI_pt hj, pB_pt hj, pR_pt hj, aI_pt hj, aR_pt hj, wI_pt hj, wJ_pt hj, aL_pt hj, cl1_s, cl1_n, cl1_i, cx1_s, cx1_x, cx1_n, cx1_i, nul_n, nul_s, nm, dv2, dv3, dv4, dv5, dv8, dv10, dv20, dv40, thr, bo, mI_pt hj, mT_pt hj, sB_pt, mZ_pt, mJ_pt, mJ_sJ, mZ_sJ, tn0, tn1, tn2, tn3, tn4, tn5, tn6, hm0, hm1, hm2, hm3, hm4, hm5, hm6, hm7, hm8, hm9, hm10, hm11, hm12, hm13, hm14, hm15, hm16, hm17, hm18, hm19, hm20, hm21, hm22, hm23, hm24, hm25, hm26, hm27, hm28, hm29, hm30, hm31, hm32, hm33, hm34, hm35, hm36, hm37, hm38, hm39, w1, w2,  up2, rowS_at, rowS_ne, -Nat.reduceEqDiff, Nat.add_left_cancel_iff, ii0, ii1, ii2, ii3, ii4, if_true, if_false, ne_eq, not_false_eq_true, not_true_eq_false, true_and, and_true, false_and, and_false, and_self, true_or, or_true, false_or, or_false, or_self, Nat.reduceAdd, Nat.reduceLT, Nat.reduceLeDiff, Nat.succ_ne_zero, reduceIte, reduceCtorEq]
        rfl
      · refine Jn.put hj hl.B hx' hm' ?_ (hr'.thr hm23 hm22 ?_ ?_)
        · rintro v (rfl | rfl | ⟨i', k, h1, h2, h3, rfl⟩) <;> simp (disch := omega) only [up2_row, rowS_ne]
        · intro v h1; simp (disch := omega) only [up2_row, rowS_ne]
        · intro k h1 h2; simp (disch := omega) only [up2_row, up2_k, rowS_ne]
      · simp (config := {decide := true}) only [mI_pt hj, mT_pt hj, sB_pt, mZ_pt, mJ_pt, mJ_sJ, mZ_sJ, tn0, tn1, tn2, tn3, tn4, tn5, tn6, hm0, hm1, hm2, hm3, hm4, hm5, hm6, hm7, hm8, hm9, hm10, hm11, hm12, hm13, hm14, hm15, hm16, hm17, hm18, hm19, hm20, hm21, hm22, hm23, hm24, hm25, hm26, hm27, hm28, hm29, hm30, hm31, hm32, hm33, hm34, hm35, hm36, hm37, hm38, hm39, up2, rowS_at, rowS_ne, -Nat.reduceEqDiff, ii0, ii1, ii2, ii3, ii4, if_true, if_false, ne_eq, not_false_eq_true, not_true_eq_false, true_and, and_true, false_and, and_false, and_self, true_or, or_true, false_or, or_false, or_self, Nat.reduceAdd, Nat.reduceLT, Nat.reduceLeDiff, Nat.succ_ne_zero, reduceIte, reduceCtorEq]
      · intro q; exact absurd q (by decide)
    · apply Agr.of
      · simp (config := {decide := true}) only [b_L_ofSection_0, f_L_ofSection, b_X4_ofSection_0, f_X4_ofSection, b_X4_sectionAt_0, f_X4_sectionAt, b_X4_requireIndex_9, b_X4_requireIndex_0, f_X4_requireIndex, b_X4_requireState_0, f_X4_requireState, b_X4_requireArgument_10, b_X4_requireArgument_0, f_X4_requireArgument, gI_pt hj, gR_pt hj, ob_pt hj, ck_pt hj, pI_pt hj, pB_pt hj, pR_pt hj, aI_pt hj, aR_pt hj, wI_pt hj, wJ_pt hj, aL_pt hj, cl1_s, cl1_n, cl1_i, cx1_s, cx1_x, cx1_n, cx1_i, nul_n, nul_s, nm, dv2, dv3, dv4, dv5, dv8, dv10, dv20, dv40, thr, bo, mI_pt hj, mT_pt hj, sB_pt, mZ_pt, mJ_pt, mJ_sJ, mZ_sJ, tn0, tn1, tn2, tn3, tn4, tn5, tn6, hx0, hx1, hx2, hx3, hx4, hx5, hx6, hx7, hx8, hx9, hx10, hx11, hx12, hx13, hx14, hx15, hx16, hx17, hx18, hx19, hx20, hx21, hx22, hx23, hx24, hx25, hx26, hx27, hm9, g1, g2, w1, w2, w3, w4, w5, w6,  up2, rowS_at, rowS_ne, -Nat.reduceEqDiff, Nat.add_left_cancel_iff, ii0, ii1, ii2, ii3, ii4, if_true, if_false, ne_eq, not_false_eq_true, not_true_eq_false, true_and, and_true, false_and, and_false, and_self, true_or, or_true, false_or, or_false, or_self, Nat.reduceAdd, Nat.reduceLT, Nat.reduceLeDiff, Nat.succ_ne_zero, reduceIte, reduceCtorEq]
        rfl
      · simp (config := {decide := true}) only [b_X8_ofSection_46, b_X8_ofSection_36, b_X8_ofSection_29, b_X8_ofSection_0, f_X8_ofSection, b_X8_isNoSection_22, b_X8_isNoSection_0, f_X8_isNoSection, b_X8_isIn_15, b_X8_isIn_14, b_X8_isIn_0, f_X8_isIn, b_X8_start_0, f_X8_start, b_X8_refuse_28, b_X8_refuse_16, b_X8_refuse_0, f_X8_refuse, b_Jx4a65c_size_8abf5_0, f_Jx4a65c_size_8abf5, b_J3_checkIndex_8e157_9, b_J3_checkIndex_8e157_0, f_J3_checkIndex_8e157, b_J15_checkIndex_7cf53_0, f_J15_checkIndex_7cf53, b_Jx4a65c_elementData_915e3_0, f_Jx4a65c_elementData_915e3, b_Jx4a65c_get_915e3_0, f_Jx4a65c_get_915e3, gI_pt hj, gR_pt hj, ob_pt hj, ck_pt hj, pI_pt hj, pB_pt hj, pR_pt hj, aI_pt hj, aR_pt hj, wI_pt hj, wJ_pt hj, aL_pt hj, cl1_s, cl1_n, cl1_i, cx1_s, cx1_x, cx1_n, cx1_i, nul_n, nul_s, nm, dv2, dv3, dv4, dv5, dv8, dv10, dv20, dv40, thr, bo, mI_pt hj, mT_pt hj, sB_pt, mZ_pt, mJ_pt, mJ_sJ, mZ_sJ, tn0, tn1, tn2, tn3, tn4, tn5, tn6, hm0, hm1, hm2, hm3, hm4, hm5, hm6, hm7, hm8, hm9, hm10, hm11, hm12, hm13, hm14, hm15, hm16, hm17, hm18, hm19, hm20, hm21, hm22, hm23, hm24, hm25, hm26, hm27, hm28, hm29, hm30, hm31, hm32, hm33, hm34, hm35, hm36, hm37, hm38, hm39, w1, w2, w3, w4, w5, w6,  up2, rowS_at, rowS_ne, -Nat.reduceEqDiff, Nat.add_left_cancel_iff, ii0, ii1, ii2, ii3, ii4, if_true, if_false, ne_eq, not_false_eq_true, not_true_eq_false, true_and, and_true, false_and, and_false, and_self, true_or, or_true, false_or, or_false, or_self, Nat.reduceAdd, Nat.reduceLT, Nat.reduceLeDiff, Nat.succ_ne_zero, reduceIte, reduceCtorEq]
        rfl
      · refine Jn.put hj hl.B hx' hm' ?_ (hr'.thr hm23 hm22 ?_ ?_)
        · rintro v (rfl | rfl | ⟨i', k, h1, h2, h3, rfl⟩) <;> simp (disch := omega) only [up2_row, rowS_ne]
        · intro v h1; simp (disch := omega) only [up2_row, rowS_ne]
        · intro k h1 h2; simp (disch := omega) only [up2_row, up2_k, rowS_ne]
      · simp (config := {decide := true}) only [mI_pt hj, mT_pt hj, sB_pt, mZ_pt, mJ_pt, mJ_sJ, mZ_sJ, tn0, tn1, tn2, tn3, tn4, tn5, tn6, hm0, hm1, hm2, hm3, hm4, hm5, hm6, hm7, hm8, hm9, hm10, hm11, hm12, hm13, hm14, hm15, hm16, hm17, hm18, hm19, hm20, hm21, hm22, hm23, hm24, hm25, hm26, hm27, hm28, hm29, hm30, hm31, hm32, hm33, hm34, hm35, hm36, hm37, hm38, hm39, up2, rowS_at, rowS_ne, -Nat.reduceEqDiff, ii0, ii1, ii2, ii3, ii4, if_true, if_false, ne_eq, not_false_eq_true, not_true_eq_false, true_and, and_true, false_and, and_false, and_self, true_or, or_true, false_or, or_false, or_self, Nat.reduceAdd, Nat.reduceLT, Nat.reduceLeDiff, Nat.succ_ne_zero, reduceIte, reduceCtorEq]
      · intro q; exact absurd q (by decide)

theorem op_ofLot {e0 x m o n : Nat} {σ : Mem} (p : Int32) (a : Int32) (hn : n < 600) (h : Jn e0 x m o n σ) : Agr e0 x m o n (f_L_ofLot (some x) p a (some o) σ) (fun σ => f_X8_ofLot m p a σ) := by
  obtain ⟨φ, T, I, R, τ, nS, nL, cS, cL, mx, cB, bl, rfl, ⟨rfl, rfl, rfl⟩, hj, hl, hx, hm, hr⟩ := h
  have hx' := hx
  have hm' := hm
  have hr' := hr
  obtain ⟨hx0, hx1, hx2, hx3, hx4, hx5, hx6, hx7, hx8, hx9, hx10, hx11, hx12, hx13, hx14, hx15, hx16, hx17, hx18, hx19, hx20, hx21, hx22, hx23, hx24, hx25, hx26, hx27⟩ := hx
  obtain ⟨hm0, hm1, hm2, hm3, hm4, hm5, hm6, hm7, hm8, hm9, hm10, hm11, hm12, hm13, hm14, hm15, hm16, hm17, hm18, hm19, hm20, hm21, hm22, hm23, hm24, hm25, hm26, hm27, hm28, hm29, hm30, hm31, hm32, hm33, hm34, hm35, hm36, hm37, hm38, hm39, hm40⟩ := hm
  obtain ⟨⟨⟨g1, g2⟩, ⟨g3, g4, g5, g6, g7⟩, g8, g9, g10⟩, r1, r2, r3, r4, r5, r6⟩ := hr
  by_cases hvi : ¬ p < 0 ∧ p < Int32.ofNat nL
  · obtain ⟨vi1, vi2⟩ := hvi
    obtain ⟨vi3, vi4, vi5, vi6, vi7⟩ := idx hm23 vi1 vi2
    generalize hii : p.toNatClampNeg = i at vi7
    obtain ⟨⟨Ei0, Ei2, Ei3, Ei4, Ei5, Ei6, Ei7, Ei8, Ei9, Ei10, Ei11, Ei12, Ei13⟩, qBi, qCi, qDi, ⟨qE1i, qE2i, qE3i⟩, qFi, qGi, qHi, qKi⟩ := r1 i vi7
    have hnL : 0 < nL := by omega
    have hnL' : nL ≠ 0 := by omega
    have h17i : i < 17 := by omega
    have h16i : i < 16 := by omega
    have hcLi : i < cL := by omega
    have nei0 : 124 ≠ 6 * i + 19 := by omega
    have nei1 : 124 ≠ 6 * i + 20 := by omega
    have nei2 : 124 ≠ 6 * i + 21 := by omega
    have nei3 : 124 ≠ 6 * i + 22 := by omega
    have nei4 : 124 ≠ 6 * i + 23 := by omega
    have nei5 : 124 ≠ 6 * i + 24 := by omega
    have nei6 : 126 ≠ 6 * i + 19 := by omega
    have nei7 : 126 ≠ 6 * i + 20 := by omega
    have nei8 : 126 ≠ 6 * i + 21 := by omega
    have nei9 : 126 ≠ 6 * i + 22 := by omega
    have nei10 : 126 ≠ 6 * i + 23 := by omega
    have nei11 : 126 ≠ 6 * i + 24 := by omega
    have nei12 : 125 ≠ 6 * i + 19 := by omega
    have nei13 : 125 ≠ 6 * i + 20 := by omega
    have nei14 : 125 ≠ 6 * i + 21 := by omega
    have nei15 : 125 ≠ 6 * i + 22 := by omega
    have nei16 : 125 ≠ 6 * i + 23 := by omega
    have nei17 : 125 ≠ 6 * i + 24 := by omega
    have nei18 : 133 ≠ 6 * i + 19 := by omega
    have nei19 : 133 ≠ 6 * i + 20 := by omega
    have nei20 : 133 ≠ 6 * i + 21 := by omega
    have nei21 : 133 ≠ 6 * i + 22 := by omega
    have nei22 : 133 ≠ 6 * i + 23 := by omega
    have nei23 : 133 ≠ 6 * i + 24 := by omega
    have nei24 : 134 ≠ 6 * i + 19 := by omega
    have nei25 : 134 ≠ 6 * i + 20 := by omega
    have nei26 : 134 ≠ 6 * i + 21 := by omega
    have nei27 : 134 ≠ 6 * i + 22 := by omega
    have nei28 : 134 ≠ 6 * i + 23 := by omega
    have nei29 : 134 ≠ 6 * i + 24 := by omega
    have nei30 : 10 * i + 150 ≠ 6 * i + 19 := by omega
    have nei31 : 10 * i + 150 ≠ 6 * i + 20 := by omega
    have nei32 : 10 * i + 150 ≠ 6 * i + 21 := by omega
    have nei33 : 10 * i + 150 ≠ 6 * i + 22 := by omega
    have nei34 : 10 * i + 150 ≠ 6 * i + 23 := by omega
    have nei35 : 10 * i + 150 ≠ 6 * i + 24 := by omega
    have nei36 : 10 * i + 151 ≠ 6 * i + 19 := by omega
    have nei37 : 10 * i + 151 ≠ 6 * i + 20 := by omega
    have nei38 : 10 * i + 151 ≠ 6 * i + 21 := by omega
    have nei39 : 10 * i + 151 ≠ 6 * i + 22 := by omega
    have nei40 : 10 * i + 151 ≠ 6 * i + 23 := by omega
    have nei41 : 10 * i + 151 ≠ 6 * i + 24 := by omega
    have nei42 : 10 * i + 152 ≠ 6 * i + 19 := by omega
    have nei43 : 10 * i + 152 ≠ 6 * i + 20 := by omega
    have nei44 : 10 * i + 152 ≠ 6 * i + 21 := by omega
    have nei45 : 10 * i + 152 ≠ 6 * i + 22 := by omega
    have nei46 : 10 * i + 152 ≠ 6 * i + 23 := by omega
    have nei47 : 10 * i + 152 ≠ 6 * i + 24 := by omega
    have nei48 : 124 ≠ 10 * i + 150 := by omega
    have nei49 : 124 ≠ 10 * i + 151 := by omega
    have nei50 : 124 ≠ 10 * i + 152 := by omega
    have nei51 : 126 ≠ 10 * i + 150 := by omega
    have nei52 : 126 ≠ 10 * i + 151 := by omega
    have nei53 : 126 ≠ 10 * i + 152 := by omega
    have nei54 : 10 * i + 150 ≠ 124 := by omega
    have nei55 : 10 * i + 151 ≠ 124 := by omega
    have nei56 : 10 * i + 152 ≠ 124 := by omega
    by_cases raa : a < 0
    · apply Agr.of
      · simp (config := {decide := true}) only [b_L_ofLot_0, f_L_ofLot, b_X4_ofLot_146, b_X4_ofLot_159, b_X4_ofLot_172, b_X4_ofLot_0, f_X4_ofLot, b_X4_lotAt_0, f_X4_lotAt, b_X4_requireIndex_9, b_X4_requireIndex_0, f_X4_requireIndex, b_X4_requireState_0, f_X4_requireState, b_X4_requireArgument_10, b_X4_requireArgument_0, f_X4_requireArgument, gI_pt hj, gR_pt hj, ob_pt hj, ck_pt hj, pI_pt hj, pB_pt hj, pR_pt hj, aI_pt hj, aR_pt hj, wI_pt hj, wJ_pt hj, aL_pt hj, cl1_s, cl1_n, cl1_i, cx1_s, cx1_x, cx1_n, cx1_i, nul_n, nul_s, nm, dv2, dv3, dv4, dv5, dv8, dv10, dv20, dv40, thr, bo, mI_pt hj, mT_pt hj, sB_pt, mZ_pt, mJ_pt, mJ_sJ, mZ_sJ, tn0, tn1, tn2, tn3, tn4, tn5, tn6, hx0, hx1, hx2, hx3, hx4, hx5, hx6, hx7, hx8, hx9, hx10, hx11, hx12, hx13, hx14, hx15, hx16, hx17, hx18, hx19, hx20, hx21, hx22, hx23, hx24, hx25, hx26, hx27, hm9, g1, g2, vi1, vi2, vi3, vi4, vi5, vi6, vi7, hii, h17i, h16i, hcLi, hnL, hnL', Ei0, Ei2, Ei3, Ei4, Ei5, Ei6, Ei7, Ei8, Ei9, Ei10, Ei11, Ei12, Ei13, raa,  up2, rowS_at, rowS_ne, -Nat.reduceEqDiff, Nat.add_left_cancel_iff, ii0, ii1, ii2, ii3, ii4, if_true, if_false, ne_eq, not_false_eq_true, not_true_eq_false, true_and, and_true, false_and, and_false, and_self, true_or, or_true, false_or, or_false, or_self, Nat.reduceAdd, Nat.reduceLT, Nat.reduceLeDiff, Nat.succ_ne_zero, reduceIte, reduceCtorEq]
        rfl
      · simp (config := {decide := true}) only [b_X8_ofLot_46, b_X8_ofLot_36, b_X8_ofLot_29, b_X8_ofLot_0, f_X8_ofLot, b_X8_isNoLot_22, b_X8_isNoLot_0, f_X8_isNoLot, b_X8_isIn_15, b_X8_isIn_14, b_X8_isIn_0, f_X8_isIn, b_X8_start_0, f_X8_start, b_X8_refuse_28, b_X8_refuse_16, b_X8_refuse_0, f_X8_refuse, b_X8_isState_23, b_X8_isState_0, f_X8_isState, b_Jx4a65c_size_8abf5_0, f_Jx4a65c_size_8abf5, b_J3_checkIndex_8e157_9, b_J3_checkIndex_8e157_0, f_J3_checkIndex_8e157, b_J15_checkIndex_7cf53_0, f_J15_checkIndex_7cf53, b_Jx4a65c_elementData_915e3_0, f_Jx4a65c_elementData_915e3, b_Jx4a65c_get_915e3_0, f_Jx4a65c_get_915e3, gI_pt hj, gR_pt hj, ob_pt hj, ck_pt hj, pI_pt hj, pB_pt hj, pR_pt hj, aI_pt hj, aR_pt hj, wI_pt hj, wJ_pt hj, aL_pt hj, cl1_s, cl1_n, cl1_i, cx1_s, cx1_x, cx1_n, cx1_i, nul_n, nul_s, nm, dv2, dv3, dv4, dv5, dv8, dv10, dv20, dv40, thr, bo, mI_pt hj, mT_pt hj, sB_pt, mZ_pt, mJ_pt, mJ_sJ, mZ_sJ, tn0, tn1, tn2, tn3, tn4, tn5, tn6, hm0, hm1, hm2, hm3, hm4, hm5, hm6, hm7, hm8, hm9, hm10, hm11, hm12, hm13, hm14, hm15, hm16, hm17, hm18, hm19, hm20, hm21, hm22, hm23, hm24, hm25, hm26, hm27, hm28, hm29, hm30, hm31, hm32, hm33, hm34, hm35, hm36, hm37, hm38, hm39, vi1, vi2, vi3, vi4, vi5, vi6, vi7, hii, h17i, h16i, hcLi, hnL, hnL', Ei0, Ei2, Ei3, Ei4, Ei5, Ei6, Ei7, Ei8, Ei9, Ei10, Ei11, Ei12, Ei13, raa, nei0, nei1, nei2, nei3, nei4, nei5, nei6, nei7, nei8, nei9, nei10, nei11, nei12, nei13, nei14, nei15, nei16, nei17, nei18, nei19, nei20, nei21, nei22, nei23, nei24, nei25, nei26, nei27, nei28, nei29, nei30, nei31, nei32, nei33, nei34, nei35, nei36, nei37, nei38, nei39, nei40, nei41, nei42, nei43, nei44, nei45, nei46, nei47, nei48, nei49, nei50, nei51, nei52, nei53, nei54, nei55, nei56,  up2, rowS_at, rowS_ne, -Nat.reduceEqDiff, Nat.add_left_cancel_iff, ii0, ii1, ii2, ii3, ii4, if_true, if_false, ne_eq, not_false_eq_true, not_true_eq_false, true_and, and_true, false_and, and_false, and_self, true_or, or_true, false_or, or_false, or_self, Nat.reduceAdd, Nat.reduceLT, Nat.reduceLeDiff, Nat.succ_ne_zero, reduceIte, reduceCtorEq]
        rfl
      · refine Jn.put hj hl.B hx' hm' ?_ (hr'.thr hm23 hm22 ?_ ?_)
        · rintro v (rfl | rfl | ⟨i', k, h1, h2, h3, rfl⟩) <;> simp (disch := omega) only [up2_row, rowS_ne]
        · intro v h1; simp (disch := omega) only [up2_row, rowS_ne]
        · intro k h1 h2; simp (disch := omega) only [up2_row, up2_k, rowS_ne]
      · simp (config := {decide := true}) only [mI_pt hj, mT_pt hj, sB_pt, mZ_pt, mJ_pt, mJ_sJ, mZ_sJ, tn0, tn1, tn2, tn3, tn4, tn5, tn6, hm0, hm1, hm2, hm3, hm4, hm5, hm6, hm7, hm8, hm9, hm10, hm11, hm12, hm13, hm14, hm15, hm16, hm17, hm18, hm19, hm20, hm21, hm22, hm23, hm24, hm25, hm26, hm27, hm28, hm29, hm30, hm31, hm32, hm33, hm34, hm35, hm36, hm37, hm38, hm39, up2, rowS_at, rowS_ne, nei0, nei1, nei2, nei3, nei4, nei5, nei6, nei7, nei8, nei9, nei10, nei11, nei12, nei13, nei14, nei15, nei16, nei17, nei18, nei19, nei20, nei21, nei22, nei23, nei24, nei25, nei26, nei27, nei28, nei29, nei30, nei31, nei32, nei33, nei34, nei35, nei36, nei37, nei38, nei39, nei40, nei41, nei42, nei43, nei44, nei45, nei46, nei47, nei48, nei49, nei50, nei51, nei52, nei53, nei54, nei55, nei56, -Nat.reduceEqDiff, ii0, ii1, ii2, ii3, ii4, if_true, if_false, ne_eq, not_false_eq_true, not_true_eq_false, true_and, and_true, false_and, and_false, and_self, true_or, or_true, false_or, or_false, or_self, Nat.reduceAdd, Nat.reduceLT, Nat.reduceLeDiff, Nat.succ_ne_zero, reduceIte, reduceCtorEq]
      · intro q; exact absurd q (by decide)
    · by_cases rab : 17 < a
      · have rac : ¬ a ≤ 17 := Int32.not_le.mpr rab
        apply Agr.of
        · simp (config := {decide := true}) only [b_L_ofLot_0, f_L_ofLot, b_X4_ofLot_146, b_X4_ofLot_159, b_X4_ofLot_172, b_X4_ofLot_0, f_X4_ofLot, b_X4_lotAt_0, f_X4_lotAt, b_X4_requireIndex_9, b_X4_requireIndex_0, f_X4_requireIndex, b_X4_requireState_0, f_X4_requireState, b_X4_requireArgument_10, b_X4_requireArgument_0, f_X4_requireArgument, gI_pt hj, gR_pt hj, ob_pt hj, ck_pt hj, pI_pt hj, pB_pt hj, pR_pt hj, aI_pt hj, aR_pt hj, wI_pt hj, wJ_pt hj, aL_pt hj, cl1_s, cl1_n, cl1_i, cx1_s, cx1_x, cx1_n, cx1_i, nul_n, nul_s, nm, dv2, dv3, dv4, dv5, dv8, dv10, dv20, dv40, thr, bo, mI_pt hj, mT_pt hj, sB_pt, mZ_pt, mJ_pt, mJ_sJ, mZ_sJ, tn0, tn1, tn2, tn3, tn4, tn5, tn6, hx0, hx1, hx2, hx3, hx4, hx5, hx6, hx7, hx8, hx9, hx10, hx11, hx12, hx13, hx14, hx15, hx16, hx17, hx18, hx19, hx20, hx21, hx22, hx23, hx24, hx25, hx26, hx27, hm9, g1, g2, vi1, vi2, vi3, vi4, vi5, vi6, vi7, hii, h17i, h16i, hcLi, hnL, hnL', Ei0, Ei2, Ei3, Ei4, Ei5, Ei6, Ei7, Ei8, Ei9, Ei10, Ei11, Ei12, Ei13, raa, rab, rac,  up2, rowS_at, rowS_ne, -Nat.reduceEqDiff, Nat.add_left_cancel_iff, ii0, ii1, ii2, ii3, ii4, if_true, if_false, ne_eq, not_false_eq_true, not_true_eq_false, true_and, and_true, false_and, and_false, and_self, true_or, or_true, false_or, or_false, or_self, Nat.reduceAdd, Nat.reduceLT, Nat.reduceLeDiff, Nat.succ_ne_zero, reduceIte, reduceCtorEq]
          rfl
        · simp (config := {decide := true}) only [b_X8_ofLot_46, b_X8_ofLot_36, b_X8_ofLot_29, b_X8_ofLot_0, f_X8_ofLot, b_X8_isNoLot_22, b_X8_isNoLot_0, f_X8_isNoLot, b_X8_isIn_15, b_X8_isIn_14, b_X8_isIn_0, f_X8_isIn, b_X8_start_0, f_X8_start, b_X8_refuse_28, b_X8_refuse_16, b_X8_refuse_0, f_X8_refuse, b_X8_isState_23, b_X8_isState_0, f_X8_isState, b_Jx4a65c_size_8abf5_0, f_Jx4a65c_size_8abf5, b_J3_checkIndex_8e157_9, b_J3_checkIndex_8e157_0, f_J3_checkIndex_8e157, b_J15_checkIndex_7cf53_0, f_J15_checkIndex_7cf53, b_Jx4a65c_elementData_915e3_0, f_Jx4a65c_elementData_915e3, b_Jx4a65c_get_915e3_0, f_Jx4a65c_get_915e3, gI_pt hj, gR_pt hj, ob_pt hj, ck_pt hj, pI_pt hj, pB_pt hj, pR_pt hj, aI_pt hj, aR_pt hj, wI_pt hj, wJ_pt hj, aL_pt hj, cl1_s, cl1_n, cl1_i, cx1_s, cx1_x, cx1_n, cx1_i, nul_n, nul_s, nm, dv2, dv3, dv4, dv5, dv8, dv10, dv20, dv40, thr, bo, mI_pt hj, mT_pt hj, sB_pt, mZ_pt, mJ_pt, mJ_sJ, mZ_sJ, tn0, tn1, tn2, tn3, tn4, tn5, tn6, hm0, hm1, hm2, hm3, hm4, hm5, hm6, hm7, hm8, hm9, hm10, hm11, hm12, hm13, hm14, hm15, hm16, hm17, hm18, hm19, hm20, hm21, hm22, hm23, hm24, hm25, hm26, hm27, hm28, hm29, hm30, hm31, hm32, hm33, hm34, hm35, hm36, hm37, hm38, hm39, vi1, vi2, vi3, vi4, vi5, vi6, vi7, hii, h17i, h16i, hcLi, hnL, hnL', Ei0, Ei2, Ei3, Ei4, Ei5, Ei6, Ei7, Ei8, Ei9, Ei10, Ei11, Ei12, Ei13, raa, rab, rac, nei0, nei1, nei2, nei3, nei4, nei5, nei6, nei7, nei8, nei9, nei10, nei11, nei12, nei13, nei14, nei15, nei16, nei17, nei18, nei19, nei20, nei21, nei22, nei23, nei24, nei25, nei26, nei27, nei28, nei29, nei30, nei31, nei32, nei33, nei34, nei35, nei36, nei37, nei38, nei39, nei40, nei41, nei42, nei43, nei44, nei45, nei46, nei47, nei48, nei49, nei50, nei51, nei52, nei53, nei54, nei55, nei56,  up2, rowS_at, rowS_ne, -Nat.reduceEqDiff, Nat.add_left_cancel_iff, ii0, ii1, ii2, ii3, ii4, if_true, if_false, ne_eq, not_false_eq_true, not_true_eq_false, true_and, and_true, false_and, and_false, and_self, true_or, or_true, false_or, or_false, or_self, Nat.reduceAdd, Nat.reduceLT, Nat.reduceLeDiff, Nat.succ_ne_zero, reduceIte, reduceCtorEq]
          rfl
        · refine Jn.put hj hl.B hx' hm' ?_ (hr'.thr hm23 hm22 ?_ ?_)
          · rintro v (rfl | rfl | ⟨i', k, h1, h2, h3, rfl⟩) <;> simp (disch := omega) only [up2_row, rowS_ne]
          · intro v h1; simp (disch := omega) only [up2_row, rowS_ne]
          · intro k h1 h2; simp (disch := omega) only [up2_row, up2_k, rowS_ne]
        · simp (config := {decide := true}) only [mI_pt hj, mT_pt hj, sB_pt, mZ_pt, mJ_pt, mJ_sJ, mZ_sJ, tn0, tn1, tn2, tn3, tn4, tn5, tn6, hm0, hm1, hm2, hm3, hm4, hm5, hm6, hm7, hm8, hm9, hm10, hm11, hm12, hm13, hm14, hm15, hm16, hm17, hm18, hm19, hm20, hm21, hm22, hm23, hm24, hm25, hm26, hm27, hm28, hm29, hm30, hm31, hm32, hm33, hm34, hm35, hm36, hm37, hm38, hm39, up2, rowS_at, rowS_ne, nei0, nei1, nei2, nei3, nei4, nei5, nei6, nei7, nei8, nei9, nei10, nei11, nei12, nei13, nei14, nei15, nei16, nei17, nei18, nei19, nei20, nei21, nei22, nei23, nei24, nei25, nei26, nei27, nei28, nei29, nei30, nei31, nei32, nei33, nei34, nei35, nei36, nei37, nei38, nei39, nei40, nei41, nei42, nei43, nei44, nei45, nei46, nei47, nei48, nei49, nei50, nei51, nei52, nei53, nei54, nei55, nei56, -Nat.reduceEqDiff, ii0, ii1, ii2, ii3, ii4, if_true, if_false, ne_eq, not_false_eq_true, not_true_eq_false, true_and, and_true, false_and, and_false, and_self, true_or, or_true, false_or, or_false, or_self, Nat.reduceAdd, Nat.reduceLT, Nat.reduceLeDiff, Nat.succ_ne_zero, reduceIte, reduceCtorEq]
        · intro q; exact absurd q (by decide)
      · obtain ⟨rac, rad⟩ := rngI raa rab
        obtain ⟨k, -, rfl, hk1, -⟩ := natOf rac rad (by decide)
        have hk : k ≤ 17 := by have : (17 : Int32).toInt = 17 := rfl
                               omega
        have ho : Off φ T (mZ τ) := Off.of hl (Nat.le_refl _)
        have hne : φ 132 ≠ mZ τ := ho 132 (by rw [hm9]; decide)
        have XX1 : R 126 1 = some (φ 134) := by rw [hm15, if_neg hnL']
        have XX2 := hm17 hnL
        have XX3 : R 134 p.toNatClampNeg = some (φ (10 * i + 150)) := by rw [hii]; exact hm28 i vi7
        have XX4 : R 2 p.toNatClampNeg = some (φ (6 * i + 19)) := by rw [hii]; exact hx14 i h16i
        have hcp : p.toNatClampNeg < cL := by omega
        have hp4 : p.toNatClampNeg < 16 := by omega
        have g1' : p < I 0 4 := by rw [g2]; exact vi2
        have bm1 : I (10 * i + 150) 10 = 0 ∨ I (10 * i + 150) 10 = 1 := by rw [← Ei10]; exact qE1i
        have bm2 : I (10 * i + 150) 11 = 0 ∨ I (10 * i + 150) 11 = 1 := by rw [← Ei11]; exact qE2i
        have VE := vLot_eq (r1 i vi7) hk
        have hne150 : 10 * i + 150 ≠ 124 := by omega
        obtain ⟨τ1, XM, z1, j1⟩ := m_ofLotE (I := up2 I 124 0 0) (τ := sJ τ (φ 132) 0 (vLot (I (6 * i + 19)) (I (6 * i + 20)) (I (6 * i + 22)) k).toInt64) (v := 10 * i + 150) (w := 10 * i + 151) (c := cL) (R := R) (T := T) hj ho hm0 hm2 hm6 XX1 XX2 vi1 (by rw [up2_row (by decide), hm13]; exact vi2) hcp XX3 (hm29 i vi7) (hm30 i vi7) (hm31 i vi7) (hm32 i vi7) (by rw [up2_row hne150]; exact bm1) (by rw [up2_row hne150]; exact bm2) qDi.1 hk
        apply Agr.of
        · simp (config := {decide := true}) only [b_L_ofLot_0, f_L_ofLot, b_X4_lotAt_0, f_X4_lotAt, b_X4_requireIndex_9, b_X4_requireIndex_0, f_X4_requireIndex, b_X4_requireState_0, f_X4_requireState, b_X4_requireArgument_10, b_X4_requireArgument_0, f_X4_requireArgument, gI_pt hj, gR_pt hj, ob_pt hj, ck_pt hj, pI_pt hj, pB_pt hj, pR_pt hj, aI_pt hj, aR_pt hj, wI_pt hj, wJ_pt hj, aL_pt hj, cl1_s, cl1_n, cl1_i, cx1_s, cx1_x, cx1_n, cx1_i, nul_n, nul_s, nm, dv2, dv3, dv4, dv5, dv8, dv10, dv20, dv40, thr, bo, mI_pt hj, mT_pt hj, sB_pt, mZ_pt, mJ_pt, mJ_sJ, mZ_sJ, tn0, tn1, tn2, tn3, tn4, tn5, tn6, hx0, hx1, hx2, hx3, hx4, hx5, hx6, hx7, hx8, hx9, hx10, hx11, hx12, hx13, hx14, hx15, hx16, hx17, hx18, hx19, hx20, hx21, hx22, hx23, hx24, hx25, hx26, hx27, hm9, g1, g2, vi1, vi2, vi3, vi4, vi5, vi6, vi7, hii, h17i, h16i, hcLi, hnL, hnL', Ei0, Ei2, Ei3, Ei4, Ei5, Ei6, Ei7, Ei8, Ei9, Ei10, Ei11, Ei12, Ei13, raa, rab, rac, rad, x_ofLot hj hx0 hx2 hx7 XX4 (hx15 i h17i) (hx16 i h17i) (hx19 i h17i) (hx18 i h17i) (hx21 i h17i) vi1 g1' hp4 hk,  up2, rowS_at, rowS_ne, -Nat.reduceEqDiff, Nat.add_left_cancel_iff, ii0, ii1, ii2, ii3, ii4, if_true, if_false, ne_eq, not_false_eq_true, not_true_eq_false, true_and, and_true, false_and, and_false, and_self, true_or, or_true, false_or, or_false, or_self, Nat.reduceAdd, Nat.reduceLT, Nat.reduceLeDiff, Nat.succ_ne_zero, reduceIte, reduceCtorEq]
          rfl
        · simp (config := {decide := true}) only [b_X8_ofLot_46, b_X8_ofLot_36, b_X8_ofLot_29, b_X8_ofLot_0, f_X8_ofLot, b_X8_isNoLot_22, b_X8_isNoLot_0, f_X8_isNoLot, b_X8_isIn_15, b_X8_isIn_14, b_X8_isIn_0, f_X8_isIn, b_X8_start_0, f_X8_start, b_X8_refuse_28, b_X8_refuse_16, b_X8_refuse_0, f_X8_refuse, b_X8_isState_23, b_X8_isState_0, f_X8_isState, b_Jx4a65c_size_8abf5_0, f_Jx4a65c_size_8abf5, b_J3_checkIndex_8e157_9, b_J3_checkIndex_8e157_0, f_J3_checkIndex_8e157, b_J15_checkIndex_7cf53_0, f_J15_checkIndex_7cf53, b_Jx4a65c_elementData_915e3_0, f_Jx4a65c_elementData_915e3, b_Jx4a65c_get_915e3_0, f_Jx4a65c_get_915e3, gI_pt hj, gR_pt hj, ob_pt hj, ck_pt hj, pI_pt hj, pB_pt hj, pR_pt hj, aI_pt hj, aR_pt hj, wI_pt hj, wJ_pt hj, aL_pt hj, cl1_s, cl1_n, cl1_i, cx1_s, cx1_x, cx1_n, cx1_i, nul_n, nul_s, nm, dv2, dv3, dv4, dv5, dv8, dv10, dv20, dv40, thr, bo, mI_pt hj, mT_pt hj, sB_pt, mZ_pt, mJ_pt, mJ_sJ, mZ_sJ, tn0, tn1, tn2, tn3, tn4, tn5, tn6, hm0, hm1, hm2, hm3, hm4, hm5, hm6, hm7, hm8, hm9, hm10, hm11, hm12, hm13, hm14, hm15, hm16, hm17, hm18, hm19, hm20, hm21, hm22, hm23, hm24, hm25, hm26, hm27, hm28, hm29, hm30, hm31, hm32, hm33, hm34, hm35, hm36, hm37, hm38, hm39, vi1, vi2, vi3, vi4, vi5, vi6, vi7, hii, h17i, h16i, hcLi, hnL, hnL', Ei0, Ei2, Ei3, Ei4, Ei5, Ei6, Ei7, Ei8, Ei9, Ei10, Ei11, Ei12, Ei13, raa, rab, rac, rad, XM, nei0, nei1, nei2, nei3, nei4, nei5, nei6, nei7, nei8, nei9, nei10, nei11, nei12, nei13, nei14, nei15, nei16, nei17, nei18, nei19, nei20, nei21, nei22, nei23, nei24, nei25, nei26, nei27, nei28, nei29, nei30, nei31, nei32, nei33, nei34, nei35, nei36, nei37, nei38, nei39, nei40, nei41, nei42, nei43, nei44, nei45, nei46, nei47, nei48, nei49, nei50, nei51, nei52, nei53, nei54, nei55, nei56,  up2, rowS_at, rowS_ne, -Nat.reduceEqDiff, Nat.add_left_cancel_iff, ii0, ii1, ii2, ii3, ii4, if_true, if_false, ne_eq, not_false_eq_true, not_true_eq_false, true_and, and_true, false_and, and_false, and_self, true_or, or_true, false_or, or_false, or_self, Nat.reduceAdd, Nat.reduceLT, Nat.reduceLeDiff, Nat.succ_ne_zero, reduceIte, reduceCtorEq]
          rfl
        · refine Jn.put hj (by rw [z1]; exact hl.B) hx' hm' ?_ (hr'.thr hm23 hm22 ?_ ?_)
          · rintro v (rfl | rfl | ⟨i', k, h1, h2, h3, rfl⟩) <;> simp (disch := omega) only [up2_row, rowS_ne]
          · intro v h1; simp (disch := omega) only [up2_row, rowS_ne]
          · intro k h1 h2; simp (disch := omega) only [up2_row, up2_k, rowS_ne]
        · simp (config := {decide := true}) only [mI_pt hj, mT_pt hj, sB_pt, mZ_pt, mJ_pt, mJ_sJ, mZ_sJ, tn0, tn1, tn2, tn3, tn4, tn5, tn6, hm0, hm1, hm2, hm3, hm4, hm5, hm6, hm7, hm8, hm9, hm10, hm11, hm12, hm13, hm14, hm15, hm16, hm17, hm18, hm19, hm20, hm21, hm22, hm23, hm24, hm25, hm26, hm27, hm28, hm29, hm30, hm31, hm32, hm33, hm34, hm35, hm36, hm37, hm38, hm39, up2, rowS_at, rowS_ne, nei0, nei1, nei2, nei3, nei4, nei5, nei6, nei7, nei8, nei9, nei10, nei11, nei12, nei13, nei14, nei15, nei16, nei17, nei18, nei19, nei20, nei21, nei22, nei23, nei24, nei25, nei26, nei27, nei28, nei29, nei30, nei31, nei32, nei33, nei34, nei35, nei36, nei37, nei38, nei39, nei40, nei41, nei42, nei43, nei44, nei45, nei46, nei47, nei48, nei49, nei50, nei51, nei52, nei53, nei54, nei55, nei56, -Nat.reduceEqDiff, ii0, ii1, ii2, ii3, ii4, if_true, if_false, ne_eq, not_false_eq_true, not_true_eq_false, true_and, and_true, false_and, and_false, and_self, true_or, or_true, false_or, or_false, or_self, Nat.reduceAdd, Nat.reduceLT, Nat.reduceLeDiff, Nat.succ_ne_zero, reduceIte, reduceCtorEq]
        · intro _; simp (disch := omega) only [mJ_pt, j1 _ hne, mJ_sJ, up2_row, VE]
  · rcases idx' hm23 hvi with ⟨w1, w2⟩ | ⟨w1, w2, w3, w4, w5, w6⟩
    · apply Agr.of
      · simp (config := {decide := true}) only [b_L_ofLot_0, f_L_ofLot, b_X4_ofLot_146, b_X4_ofLot_159, b_X4_ofLot_172, b_X4_ofLot_0, f_X4_ofLot, b_X4_lotAt_0, f_X4_lotAt, b_X4_requireIndex_9, b_X4_requireIndex_0, f_X4_requireIndex, b_X4_requireState_0, f_X4_requireState, b_X4_requireArgument_10, b_X4_requireArgument_0, f_X4_requireArgument, gI_pt hj, gR_pt hj, ob_pt hj, ck_pt hj, pI_pt hj, pB_pt hj, pR_pt hj, aI_pt hj, aR_pt hj, wI_pt hj, wJ_pt hj, aL_pt hj, cl1_s, cl1_n, cl1_i, cx1_s, cx1_x, cx1_n, cx1_i, nul_n, nul_s, nm, dv2, dv3, dv4, dv5, dv8, dv10, dv20, dv40, thr, bo, mI_pt hj, mT_pt hj, sB_pt, mZ_pt, mJ_pt, mJ_sJ, mZ_sJ, tn0, tn1, tn2, tn3, tn4, tn5, tn6, hx0, hx1, hx2, hx3, hx4, hx5, hx6, hx7, hx8, hx9, hx10, hx11, hx12, hx13, hx14, hx15, hx16, hx17, hx18, hx19, hx20, hx21, hx22, hx23, hx24, hx25, hx26, hx27, hm9, g1, g2, w1, w2,  up2, rowS_at, rowS_ne, -Nat.reduceEqDiff, Nat.add_left_cancel_iff, ii0, ii1, ii2, ii3, ii4, if_true, if_false, ne_eq, not_false_eq_true, not_true_eq_false, true_and, and_true, false_and, and_false, and_self, true_or, or_true, false_or, or_false, or_self, Nat.reduceAdd, Nat.reduceLT, Nat.reduceLeDiff, Nat.succ_ne_zero, reduceIte, reduceCtorEq]
        rfl
      · simp (config := {decide := true}) only [b_X8_ofLot_46, b_X8_ofLot_36, b_X8_ofLot_29, b_X8_ofLot_0, f_X8_ofLot, b_X8_isNoLot_22, b_X8_isNoLot_0, f_X8_isNoLot, b_X8_isIn_15, b_X8_isIn_14, b_X8_isIn_0, f_X8_isIn, b_X8_start_0, f_X8_start, b_X8_refuse_28, b_X8_refuse_16, b_X8_refuse_0, f_X8_refuse, b_X8_isState_23, b_X8_isState_0, f_X8_isState, b_Jx4a65c_size_8abf5_0, f_Jx4a65c_size_8abf5, b_J3_checkIndex_8e157_9, b_J3_checkIndex_8e157_0, f_J3_checkIndex_8e157, b_J15_checkIndex_7cf53_0, f_J15_checkIndex_7cf53, b_Jx4a65c_elementData_915e3_0, f_Jx4a65c_elementData_915e3, b_Jx4a65c_get_915e3_0, f_Jx4a65c_get_915e3, gI_pt hj, gR_pt hj, ob_pt hj, ck_pt hj, pI_pt hj, pB_pt hj, pR_pt hj, aI_pt hj, aR_pt hj, wI_pt hj, wJ_pt hj, aL_pt hj, cl1_s, cl1_n, cl1_i, cx1_s, cx1_x, cx1_n, cx1_i, nul_n, nul_s, nm, dv2, dv3, dv4, dv5, dv8, dv10, dv20, dv40, thr, bo, mI_pt hj, mT_pt hj, sB_pt, mZ_pt, mJ_pt, mJ_sJ, mZ_sJ, tn0, tn1, tn2, tn3, tn4, tn5, tn6, hm0, hm1, hm2, hm3, hm4, hm5, hm6, hm7, hm8, hm9, hm10, hm11, hm12, hm13, hm14, hm15, hm16, hm17, hm18, hm19, hm20, hm21, hm22, hm23, hm24, hm25, hm26, hm27, hm28, hm29, hm30, hm31, hm32, hm33, hm34, hm35, hm36, hm37, hm38, hm39, w1, w2,  up2, rowS_at, rowS_ne, -Nat.reduceEqDiff, Nat.add_left_cancel_iff, ii0, ii1, ii2, ii3, ii4, if_true, if_false, ne_eq, not_false_eq_true, not_true_eq_false, true_and, and_true, false_and, and_false, and_self, true_or, or_true, false_or, or_false, or_self, Nat.reduceAdd, Nat.reduceLT, Nat.reduceLeDiff, Nat.succ_ne_zero, reduceIte, reduceCtorEq]
        rfl
      · refine Jn.put hj hl.B hx' hm' ?_ (hr'.thr hm23 hm22 ?_ ?_)
        · rintro v (rfl | rfl | ⟨i', k, h1, h2, h3, rfl⟩) <;> simp (disch := omega) only [up2_row, rowS_ne]
        · intro v h1; simp (disch := omega) only [up2_row, rowS_ne]
        · intro k h1 h2; simp (disch := omega) only [up2_row, up2_k, rowS_ne]
      · simp (config := {decide := true}) only [mI_pt hj, mT_pt hj, sB_pt, mZ_pt, mJ_pt, mJ_sJ, mZ_sJ, tn0, tn1, tn2, tn3, tn4, tn5, tn6, hm0, hm1, hm2, hm3, hm4, hm5, hm6, hm7, hm8, hm9, hm10, hm11, hm12, hm13, hm14, hm15, hm16, hm17, hm18, hm19, hm20, hm21, hm22, hm23, hm24, hm25, hm26, hm27, hm28, hm29, hm30, hm31, hm32, hm33, hm34, hm35, hm36, hm37, hm38, hm39, up2, rowS_at, rowS_ne, -Nat.reduceEqDiff, ii0, ii1, ii2, ii3, ii4, if_true, if_false, ne_eq, not_false_eq_true, not_true_eq_false, true_and, and_true, false_and, and_false, and_self, true_or, or_true, false_or, or_false, or_self, Nat.reduceAdd, Nat.reduceLT, Nat.reduceLeDiff, Nat.succ_ne_zero, reduceIte, reduceCtorEq]
      · intro q; exact absurd q (by decide)
    · apply Agr.of
      · simp (config := {decide := true}) only [b_L_ofLot_0, f_L_ofLot, b_X4_ofLot_146, b_X4_ofLot_159, b_X4_ofLot_172, b_X4_ofLot_0, f_X4_ofLot, b_X4_lotAt_0, f_X4_lotAt, b_X4_requireIndex_9, b_X4_requireIndex_0, f_X4_requireIndex, b_X4_requireState_0, f_X4_requireState, b_X4_requireArgument_10, b_X4_requireArgument_0, f_X4_requireArgument, gI_pt hj, gR_pt hj, ob_pt hj, ck_pt hj, pI_pt hj, pB_pt hj, pR_pt hj, aI_pt hj, aR_pt hj, wI_pt hj, wJ_pt hj, aL_pt hj, cl1_s, cl1_n, cl1_i, cx1_s, cx1_x, cx1_n, cx1_i, nul_n, nul_s, nm, dv2, dv3, dv4, dv5, dv8, dv10, dv20, dv40, thr, bo, mI_pt hj, mT_pt hj, sB_pt, mZ_pt, mJ_pt, mJ_sJ, mZ_sJ, tn0, tn1, tn2, tn3, tn4, tn5, tn6, hx0, hx1, hx2, hx3, hx4, hx5, hx6, hx7, hx8, hx9, hx10, hx11, hx12, hx13, hx14, hx15, hx16, hx17, hx18, hx19, hx20, hx21, hx22, hx23, hx24, hx25, hx26, hx27, hm9, g1, g2, w1, w2, w3, w4, w5, w6,  up2, rowS_at, rowS_ne, -Nat.reduceEqDiff, Nat.add_left_cancel_iff, ii0, ii1, ii2, ii3, ii4, if_true, if_false, ne_eq, not_false_eq_true, not_true_eq_false, true_and, and_true, false_and, and_false, and_self, true_or, or_true, false_or, or_false, or_self, Nat.reduceAdd, Nat.reduceLT, Nat.reduceLeDiff, Nat.succ_ne_zero, reduceIte, reduceCtorEq]
        rfl
      · simp (config := {decide := true}) only [b_X8_ofLot_46, b_X8_ofLot_36, b_X8_ofLot_29, b_X8_ofLot_0, f_X8_ofLot, b_X8_isNoLot_22, b_X8_isNoLot_0, f_X8_isNoLot, b_X8_isIn_15, b_X8_isIn_14, b_X8_isIn_0, f_X8_isIn, b_X8_start_0, f_X8_start, b_X8_refuse_28, b_X8_refuse_16, b_X8_refuse_0, f_X8_refuse, b_X8_isState_23, b_X8_isState_0, f_X8_isState, b_Jx4a65c_size_8abf5_0, f_Jx4a65c_size_8abf5, b_J3_checkIndex_8e157_9, b_J3_checkIndex_8e157_0, f_J3_checkIndex_8e157, b_J15_checkIndex_7cf53_0, f_J15_checkIndex_7cf53, b_Jx4a65c_elementData_915e3_0, f_Jx4a65c_elementData_915e3, b_Jx4a65c_get_915e3_0, f_Jx4a65c_get_915e3, gI_pt hj, gR_pt hj, ob_pt hj, ck_pt hj, pI_pt hj, pB_pt hj, pR_pt hj, aI_pt hj, aR_pt hj, wI_pt hj, wJ_pt hj, aL_pt hj, cl1_s, cl1_n, cl1_i, cx1_s, cx1_x, cx1_n, cx1_i, nul_n, nul_s, nm, dv2, dv3, dv4, dv5, dv8, dv10, dv20, dv40, thr, bo, mI_pt hj, mT_pt hj, sB_pt, mZ_pt, mJ_pt, mJ_sJ, mZ_sJ, tn0, tn1, tn2, tn3, tn4, tn5, tn6, hm0, hm1, hm2, hm3, hm4, hm5, hm6, hm7, hm8, hm9, hm10, hm11, hm12, hm13, hm14, hm15, hm16, hm17, hm18, hm19, hm20, hm21, hm22, hm23, hm24, hm25, hm26, hm27, hm28, hm29, hm30, hm31, hm32, hm33, hm34, hm35, hm36, hm37, hm38, hm39, w1, w2, w3, w4, w5, w6,  up2, rowS_at, rowS_ne, -Nat.reduceEqDiff, Nat.add_left_cancel_iff, ii0, ii1, ii2, ii3, ii4, if_true, if_false, ne_eq, not_false_eq_true, not_true_eq_false, true_and, and_true, false_and, and_false, and_self, true_or, or_true, false_or, or_false, or_self, Nat.reduceAdd, Nat.reduceLT, Nat.reduceLeDiff, Nat.succ_ne_zero, reduceIte, reduceCtorEq]
        rfl
      · refine Jn.put hj hl.B hx' hm' ?_ (hr'.thr hm23 hm22 ?_ ?_)
        · rintro v (rfl | rfl | ⟨i', k, h1, h2, h3, rfl⟩) <;> simp (disch := omega) only [up2_row, rowS_ne]
        · intro v h1; simp (disch := omega) only [up2_row, rowS_ne]
        · intro k h1 h2; simp (disch := omega) only [up2_row, up2_k, rowS_ne]
      · simp (config := {decide := true}) only [mI_pt hj, mT_pt hj, sB_pt, mZ_pt, mJ_pt, mJ_sJ, mZ_sJ, tn0, tn1, tn2, tn3, tn4, tn5, tn6, hm0, hm1, hm2, hm3, hm4, hm5, hm6, hm7, hm8, hm9, hm10, hm11, hm12, hm13, hm14, hm15, hm16, hm17, hm18, hm19, hm20, hm21, hm22, hm23, hm24, hm25, hm26, hm27, hm28, hm29, hm30, hm31, hm32, hm33, hm34, hm35, hm36, hm37, hm38, hm39, up2, rowS_at, rowS_ne, -Nat.reduceEqDiff, ii0, ii1, ii2, ii3, ii4, if_true, if_false, ne_eq, not_false_eq_true, not_true_eq_false, true_and, and_true, false_and, and_false, and_self, true_or, or_true, false_or, or_false, or_self, Nat.reduceAdd, Nat.reduceLT, Nat.reduceLeDiff, Nat.succ_ne_zero, reduceIte, reduceCtorEq]
      · intro q; exact absurd q (by decide)
