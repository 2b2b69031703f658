section L2
variable {φ : Nat → Nat} {T : Nat → Nat × Nat} {I : Nat → Nat → Int32} {R : Nat → Nat → Option Nat} {τ : Mem} {v w a : Nat} {h d : Int32}
theorem up2_rowS {α : Type} {f : Nat → Nat → α} {a k : Nat} {v : α} : up2 f a k v = rowS f a (fun j => if j = k then v else f a j) := by
  funext b j
  by_cases q : b = a
  · subst q; simp [up2, rowS]
  · simp [up2, rowS, q]
theorem rowS_rowS {α : Type} {f : Nat → α} {a : Nat} {u v : α} : rowS (rowS f a u) a v = rowS f a v := by
  funext b; by_cases q : b = a <;> simp [rowS, q]
theorem rowS_at {α : Type} {f : Nat → α} {a : Nat} {u : α} : rowS f a u a = u := if_pos rfl
theorem rowS_ne {α : Type} {f : Nat → α} {a b : Nat} {u : α} (h : b ≠ a) : rowS f a u b = f b := if_neg h
theorem rowS_self {α : Type} {f : Nat → α} {a : Nat} {u : α} (h : u = f a) : rowS f a u = f := by
  funext b; by_cases q : b = a
  · subst q; simp [rowS, h]
  · simp [rowS, q]
/-- a minute of heat, an hour of withering, on a lot's row -/
def hs (h d : Int32) (x : Nat → Int32) : Nat → Int32 := fun k =>
  if k = 3 then (if 0 < x 3 - h - d / 20 then x 3 - h - d / 20 else 0)
  else if k = 7 then (if d < 20 * x 3 ∧ ¬ h < 4 ∧ ¬ x 3 ≤ d then x 7 + 1 else x 7)
  else if k = 8 then (if d < 20 * x 3 then x 8 else x 8 + h) else x k
def ws (c d : Int32) (x : Nat → Int32) : Nat → Int32 := fun k =>
  if k = 3 then (if d < x 3 - (x 3 * c + 9) / 10 then x 3 - (x 3 * c + 9) / 10 else d) else if k = 4 then x 4 + 1 else x k
def itn (f : (Nat → Int32) → (Nat → Int32)) : Nat → (Nat → Int32) → (Nat → Int32)
  | 0, x => x
  | n + 1, x => itn f n (f x)
theorem x_heat (hj : Inj φ T) (h1 : T a = (4, 0)) : f_X1_heatMinute (φ a) h (pt φ T I R τ) = some ((), pt φ T (rowS I a (hs h (I a 1) (I a))) R τ) := by
  by_cases c1 : I a 1 < 20 * I a 3
  · by_cases c2 : h < 4
    · simp (config := {decide := true}) only [b_X1_heatMinute_46, b_X1_heatMinute_0, f_X1_heatMinute, b_X1_isDried_19, b_X1_isDried_0, f_X1_isDried, gI_pt hj, gR_pt hj, ob_pt hj, ck_pt hj, pI_pt hj, pB_pt hj, pR_pt hj, aI_pt hj, aR_pt hj, wI_pt hj, wJ_pt hj, aL_pt hj, cl1_s, cl1_n, cl1_i, cx1_s, cx1_x, cx1_n, cx1_i, nul_n, nul_s, nm, dv2, dv3, dv4, dv5, dv8, dv10, dv20, dv40, thr, bo, mI_pt hj, mT_pt hj, sB_pt, mZ_pt, mJ_pt, mJ_sJ, mZ_sJ, tn0, tn1, tn2, tn3, tn4, tn5, tn6, h1, c1, c2, up2_rowS, rowS_rowS, rowS_at, ii0, ii1, ii2, ii3, ii4, if_true, if_false, ne_eq, not_false_eq_true, not_true_eq_false, true_and, and_true, false_and, and_false, and_self, true_or, or_true, false_or, or_false, or_self, Nat.reduceAdd, Nat.reduceLT, Nat.reduceLeDiff, Nat.succ_ne_zero, reduceIte, reduceCtorEq]
      congr 4; funext k; rcases (show k = 3 ∨ k = 7 ∨ k = 8 ∨ (k ≠ 3 ∧ k ≠ 7 ∧ k ≠ 8) by omega) with rfl | rfl | rfl | ⟨k1, k2, k3⟩ <;> simp [hs, *]
    · by_cases c3 : I a 3 ≤ I a 1
      · simp (config := {decide := true}) only [b_X1_heatMinute_46, b_X1_heatMinute_0, f_X1_heatMinute, b_X1_isDried_19, b_X1_isDried_0, f_X1_isDried, gI_pt hj, gR_pt hj, ob_pt hj, ck_pt hj, pI_pt hj, pB_pt hj, pR_pt hj, aI_pt hj, aR_pt hj, wI_pt hj, wJ_pt hj, aL_pt hj, cl1_s, cl1_n, cl1_i, cx1_s, cx1_x, cx1_n, cx1_i, nul_n, nul_s, nm, dv2, dv3, dv4, dv5, dv8, dv10, dv20, dv40, thr, bo, mI_pt hj, mT_pt hj, sB_pt, mZ_pt, mJ_pt, mJ_sJ, mZ_sJ, tn0, tn1, tn2, tn3, tn4, tn5, tn6, h1, c1, c2, c3, up2_rowS, rowS_rowS, rowS_at, ii0, ii1, ii2, ii3, ii4, if_true, if_false, ne_eq, not_false_eq_true, not_true_eq_false, true_and, and_true, false_and, and_false, and_self, true_or, or_true, false_or, or_false, or_self, Nat.reduceAdd, Nat.reduceLT, Nat.reduceLeDiff, Nat.succ_ne_zero, reduceIte, reduceCtorEq]
        congr 4; funext k; rcases (show k = 3 ∨ k = 7 ∨ k = 8 ∨ (k ≠ 3 ∧ k ≠ 7 ∧ k ≠ 8) by omega) with rfl | rfl | rfl | ⟨k1, k2, k3⟩ <;> simp [hs, *]
      · simp (config := {decide := true}) only [b_X1_heatMinute_46, b_X1_heatMinute_0, f_X1_heatMinute, b_X1_isDried_19, b_X1_isDried_0, f_X1_isDried, gI_pt hj, gR_pt hj, ob_pt hj, ck_pt hj, pI_pt hj, pB_pt hj, pR_pt hj, aI_pt hj, aR_pt hj, wI_pt hj, wJ_pt hj, aL_pt hj, cl1_s, cl1_n, cl1_i, cx1_s, cx1_x, cx1_n, cx1_i, nul_n, nul_s, nm, dv2, dv3, dv4, dv5, dv8, dv10, dv20, dv40, thr, bo, mI_pt hj, mT_pt hj, sB_pt, mZ_pt, mJ_pt, mJ_sJ, mZ_sJ, tn0, tn1, tn2, tn3, tn4, tn5, tn6, h1, c1, c2, c3, up2_rowS, rowS_rowS, rowS_at, ii0, ii1, ii2, ii3, ii4, if_true, if_false, ne_eq, not_false_eq_true, not_true_eq_false, true_and, and_true, false_and, and_false, and_self, true_or, or_true, false_or, or_false, or_self, Nat.reduceAdd, Nat.reduceLT, Nat.reduceLeDiff, Nat.succ_ne_zero, reduceIte, reduceCtorEq]
        congr 4; funext k; rcases (show k = 3 ∨ k = 7 ∨ k = 8 ∨ (k ≠ 3 ∧ k ≠ 7 ∧ k ≠ 8) by omega) with rfl | rfl | rfl | ⟨k1, k2, k3⟩ <;> simp [hs, *]
  · simp (config := {decide := true}) only [b_X1_heatMinute_46, b_X1_heatMinute_0, f_X1_heatMinute, b_X1_isDried_19, b_X1_isDried_0, f_X1_isDried, gI_pt hj, gR_pt hj, ob_pt hj, ck_pt hj, pI_pt hj, pB_pt hj, pR_pt hj, aI_pt hj, aR_pt hj, wI_pt hj, wJ_pt hj, aL_pt hj, cl1_s, cl1_n, cl1_i, cx1_s, cx1_x, cx1_n, cx1_i, nul_n, nul_s, nm, dv2, dv3, dv4, dv5, dv8, dv10, dv20, dv40, thr, bo, mI_pt hj, mT_pt hj, sB_pt, mZ_pt, mJ_pt, mJ_sJ, mZ_sJ, tn0, tn1, tn2, tn3, tn4, tn5, tn6, h1, c1, up2_rowS, rowS_rowS, rowS_at, ii0, ii1, ii2, ii3, ii4, if_true, if_false, ne_eq, not_false_eq_true, not_true_eq_false, true_and, and_true, false_and, and_false, and_self, true_or, or_true, false_or, or_false, or_self, Nat.reduceAdd, Nat.reduceLT, Nat.reduceLeDiff, Nat.succ_ne_zero, reduceIte, reduceCtorEq]
    congr 4; funext k; rcases (show k = 3 ∨ k = 7 ∨ k = 8 ∨ (k ≠ 3 ∧ k ≠ 7 ∧ k ≠ 8) by omega) with rfl | rfl | rfl | ⟨k1, k2, k3⟩ <;> simp [hs, *]
theorem m_heat' (hj : Inj φ T) (h1 : T v = (8, 0)) (hdry : f_X5_dry (φ v) (pt φ T I R τ) = some (d, pt φ T I R τ)) : f_X5_fire (φ v) h (pt φ T I R τ) = some ((), pt φ T (rowS I v (hs h d (I v))) R τ) := by
  by_cases c1 : d < 20 * I v 3
  · by_cases c2 : h < 4
    · simp (config := {decide := true}) only [b_X5_fire_52, b_X5_fire_0, f_X5_fire, hdry, gI_pt hj, gR_pt hj, ob_pt hj, ck_pt hj, pI_pt hj, pB_pt hj, pR_pt hj, aI_pt hj, aR_pt hj, wI_pt hj, wJ_pt hj, aL_pt hj, cl1_s, cl1_n, cl1_i, cx1_s, cx1_x, cx1_n, cx1_i, nul_n, nul_s, nm, dv2, dv3, dv4, dv5, dv8, dv10, dv20, dv40, thr, bo, mI_pt hj, mT_pt hj, sB_pt, mZ_pt, mJ_pt, mJ_sJ, mZ_sJ, tn0, tn1, tn2, tn3, tn4, tn5, tn6, h1, c1, c2, up2_rowS, rowS_rowS, rowS_at, ii0, ii1, ii2, ii3, ii4, if_true, if_false, ne_eq, not_false_eq_true, not_true_eq_false, true_and, and_true, false_and, and_false, and_self, true_or, or_true, false_or, or_false, or_self, Nat.reduceAdd, Nat.reduceLT, Nat.reduceLeDiff, Nat.succ_ne_zero, reduceIte, reduceCtorEq]
      congr 4; funext k; rcases (show k = 3 ∨ k = 7 ∨ k = 8 ∨ (k ≠ 3 ∧ k ≠ 7 ∧ k ≠ 8) by omega) with rfl | rfl | rfl | ⟨k1, k2, k3⟩ <;> simp [hs, *]
    · by_cases c3 : I v 3 ≤ d
      · simp (config := {decide := true}) only [b_X5_fire_52, b_X5_fire_0, f_X5_fire, hdry, gI_pt hj, gR_pt hj, ob_pt hj, ck_pt hj, pI_pt hj, pB_pt hj, pR_pt hj, aI_pt hj, aR_pt hj, wI_pt hj, wJ_pt hj, aL_pt hj, cl1_s, cl1_n, cl1_i, cx1_s, cx1_x, cx1_n, cx1_i, nul_n, nul_s, nm, dv2, dv3, dv4, dv5, dv8, dv10, dv20, dv40, thr, bo, mI_pt hj, mT_pt hj, sB_pt, mZ_pt, mJ_pt, mJ_sJ, mZ_sJ, tn0, tn1, tn2, tn3, tn4, tn5, tn6, h1, c1, c2, c3, up2_rowS, rowS_rowS, rowS_at, ii0, ii1, ii2, ii3, ii4, if_true, if_false, ne_eq, not_false_eq_true, not_true_eq_false, true_and, and_true, false_and, and_false, and_self, true_or, or_true, false_or, or_false, or_self, Nat.reduceAdd, Nat.reduceLT, Nat.reduceLeDiff, Nat.succ_ne_zero, reduceIte, reduceCtorEq]
        congr 4; funext k; rcases (show k = 3 ∨ k = 7 ∨ k = 8 ∨ (k ≠ 3 ∧ k ≠ 7 ∧ k ≠ 8) by omega) with rfl | rfl | rfl | ⟨k1, k2, k3⟩ <;> simp [hs, *]
      · simp (config := {decide := true}) only [b_X5_fire_52, b_X5_fire_0, f_X5_fire, hdry, gI_pt hj, gR_pt hj, ob_pt hj, ck_pt hj, pI_pt hj, pB_pt hj, pR_pt hj, aI_pt hj, aR_pt hj, wI_pt hj, wJ_pt hj, aL_pt hj, cl1_s, cl1_n, cl1_i, cx1_s, cx1_x, cx1_n, cx1_i, nul_n, nul_s, nm, dv2, dv3, dv4, dv5, dv8, dv10, dv20, dv40, thr, bo, mI_pt hj, mT_pt hj, sB_pt, mZ_pt, mJ_pt, mJ_sJ, mZ_sJ, tn0, tn1, tn2, tn3, tn4, tn5, tn6, h1, c1, c2, c3, up2_rowS, rowS_rowS, rowS_at, ii0, ii1, ii2, ii3, ii4, if_true, if_false, ne_eq, not_false_eq_true, not_true_eq_false, true_and, and_true, false_and, and_false, and_self, true_or, or_true, false_or, or_false, or_self, Nat.reduceAdd, Nat.reduceLT, Nat.reduceLeDiff, Nat.succ_ne_zero, reduceIte, reduceCtorEq]
        congr 4; funext k; rcases (show k = 3 ∨ k = 7 ∨ k = 8 ∨ (k ≠ 3 ∧ k ≠ 7 ∧ k ≠ 8) by omega) with rfl | rfl | rfl | ⟨k1, k2, k3⟩ <;> simp [hs, *]
  · simp (config := {decide := true}) only [b_X5_fire_52, b_X5_fire_0, f_X5_fire, hdry, gI_pt hj, gR_pt hj, ob_pt hj, ck_pt hj, pI_pt hj, pB_pt hj, pR_pt hj, aI_pt hj, aR_pt hj, wI_pt hj, wJ_pt hj, aL_pt hj, cl1_s, cl1_n, cl1_i, cx1_s, cx1_x, cx1_n, cx1_i, nul_n, nul_s, nm, dv2, dv3, dv4, dv5, dv8, dv10, dv20, dv40, thr, bo, mI_pt hj, mT_pt hj, sB_pt, mZ_pt, mJ_pt, mJ_sJ, mZ_sJ, tn0, tn1, tn2, tn3, tn4, tn5, tn6, h1, c1, up2_rowS, rowS_rowS, rowS_at, ii0, ii1, ii2, ii3, ii4, if_true, if_false, ne_eq, not_false_eq_true, not_true_eq_false, true_and, and_true, false_and, and_false, and_self, true_or, or_true, false_or, or_false, or_self, Nat.reduceAdd, Nat.reduceLT, Nat.reduceLeDiff, Nat.succ_ne_zero, reduceIte, reduceCtorEq]
    congr 4; funext k; rcases (show k = 3 ∨ k = 7 ∨ k = 8 ∨ (k ≠ 3 ∧ k ≠ 7 ∧ k ≠ 8) by omega) with rfl | rfl | rfl | ⟨k1, k2, k3⟩ <;> simp [hs, *]
theorem m_heat (hj : Inj φ T) (h1 : T v = (8, 0)) (h2 : R v 1 = some (φ w)) (h3 : T w = (100, 4)) : f_X5_fire (φ v) h (pt φ T I R τ) = some ((), pt φ T (rowS I v (hs h (I w 0 + I w 1 + I w 2 + I w 3) (I v))) R τ) := m_heat' hj h1 (mdry hj h1 h2 h3)
theorem m_with' (hj : Inj φ T) (h1 : T v = (8, 0)) (hdry : f_X5_dry (φ v) (pt φ T I R τ) = some (d, pt φ T I R τ)) : f_X5_wither (φ v) h (pt φ T I R τ) = some ((), pt φ T (rowS I v (ws h d (I v))) R τ) := by
  simp (config := {decide := true}) only [b_X5_wither_0, f_X5_wither, hdry, gI_pt hj, gR_pt hj, ob_pt hj, ck_pt hj, pI_pt hj, pB_pt hj, pR_pt hj, aI_pt hj, aR_pt hj, wI_pt hj, wJ_pt hj, aL_pt hj, cl1_s, cl1_n, cl1_i, cx1_s, cx1_x, cx1_n, cx1_i, nul_n, nul_s, nm, dv2, dv3, dv4, dv5, dv8, dv10, dv20, dv40, thr, bo, mI_pt hj, mT_pt hj, sB_pt, mZ_pt, mJ_pt, mJ_sJ, mZ_sJ, tn0, tn1, tn2, tn3, tn4, tn5, tn6, h1, up2_rowS, rowS_rowS, rowS_at, ii0, ii1, ii2, ii3, ii4, if_true, if_false, ne_eq, not_false_eq_true, not_true_eq_false, true_and, and_true, false_and, and_false, and_self, true_or, or_true, false_or, or_false, or_self, Nat.reduceAdd, Nat.reduceLT, Nat.reduceLeDiff, Nat.succ_ne_zero, reduceIte, reduceCtorEq]
  congr 4; funext k; rcases (show k = 3 ∨ k = 4 ∨ (k ≠ 3 ∧ k ≠ 4) by omega) with rfl | rfl | ⟨k1, k2⟩ <;> simp [ws, *]
theorem m_with (hj : Inj φ T) (h1 : T v = (8, 0)) (h2 : R v 1 = some (φ w)) (h3 : T w = (100, 4)) : f_X5_wither (φ v) h (pt φ T I R τ) = some ((), pt φ T (rowS I v (ws h (I w 0 + I w 1 + I w 2 + I w 3) (I v))) R τ) := m_with' hj h1 (mdry hj h1 h2 h3)
end L2

section L4
variable {φ : Nat → Nat} {T : Nat → Nat × Nat} {R : Nat → Nat → Option Nat} {τ : Mem} {v w a : Nat} {h d : Int32}
theorem oN {n : Nat} (h : n < 2147483648) : (Int32.ofNat n).toInt = n := Int32.toInt_ofNat_of_lt (by omega)
theorem oN_le {m j : Nat} (h1 : m < 2147483648) (h2 : j < 2147483648) : (Int32.ofNat m ≤ Int32.ofNat j) ↔ m ≤ j := by
  rw [Int32.le_iff_toInt_le, oN h1, oN h2]; omega
theorem oN_lt {m j : Nat} (h1 : m < 2147483648) (h2 : j < 2147483648) : (Int32.ofNat m < Int32.ofNat j) ↔ m < j := by
  rw [Int32.lt_iff_toInt_lt, oN h1, oN h2]; omega
theorem oN_eq {m j : Nat} (h1 : m < 2147483648) (h2 : j < 2147483648) : (Int32.ofNat m = Int32.ofNat j) ↔ m = j := by
  constructor
  · intro q; have := congrArg Int32.toInt q; rw [oN h1, oN h2] at this; omega
  · intro q; rw [q]
theorem oN_s {j : Nat} : Int32.ofNat j + 1 = Int32.ofNat (j + 1) := (Int32.ofNat_add j 1).symm
theorem oN_c {j : Nat} (h : j < 2147483648) : (Int32.ofNat j).toNatClampNeg = j := by
  rw [show (Int32.ofNat j).toNatClampNeg = (Int32.ofNat j).toInt.toNat from rfl, oN h]; rfl
theorem natOf {p lo hi : Int32} (h1 : lo ≤ p) (h2 : p ≤ hi) (h3 : 0 ≤ lo.toInt) : ∃ m : Nat, (m : Int) = p.toInt ∧ p = Int32.ofNat m ∧ (m : Int) ≤ hi.toInt ∧ lo.toInt ≤ m := by
  have e1 := leT h1
  have e2 := leT h2
  have e3 := Int32.toInt_lt p
  refine ⟨p.toInt.toNat, by omega, ?_, by omega, by omega⟩
  apply Int32.toInt_inj.mp
  rw [oN (by omega)]; omega
theorem hs1 {x : Nat → Int32} : hs h d x 1 = x 1 := by simp [hs]
theorem ws1 {x : Nat → Int32} : ws h d x 1 = x 1 := by simp [ws]
theorem x_fireL (hj : Inj φ T) (h1 : T a = (4, 0)) (m : Nat) (hm : m ≤ 30) : ∀ (q j fuel : Nat) (I : Nat → Nat → Int32), j + q = m → q < fuel →
    l_X4_fire_40 fuel h (Int32.ofNat m) (some (φ a)) (Int32.ofNat j) (pt φ T I R τ) =
      (if I a 1 < 20 * itn (hs h (I a 1)) q (I a) 3 then some (.inl (itn (hs h (I a 1)) q (I a) 3), pt φ T (rowS I a (itn (hs h (I a 1)) q (I a))) R τ)
       else some (.inl (itn (hs h (I a 1)) q (I a) 3), pt φ T (up2 (rowS I a (itn (hs h (I a 1)) q (I a))) a 0 2) R τ)) := by
  intro q
  induction q with
  | zero =>
    intro j fuel I e hf
    obtain ⟨fuel, rfl⟩ : ∃ f, fuel = f + 1 := ⟨fuel - 1, by omega⟩
    have c0 : Int32.ofNat m ≤ Int32.ofNat j := (oN_le (by omega) (by omega)).mpr (by omega)
    have e0 : rowS I a (itn (hs h (I a 1)) 0 (I a)) = I := rowS_self rfl
    rw [e0]
    by_cases c1 : I a 1 < 20 * I a 3
    · simp (config := {decide := true}) only [l_X4_fire_40, itr_succ, b_X4_fire_40, b_X1_isDried_19, b_X1_isDried_0, f_X1_isDried, b_X4_fire_72, gI_pt hj, gR_pt hj, ob_pt hj, ck_pt hj, pI_pt hj, pB_pt hj, pR_pt hj, aI_pt hj, aR_pt hj, wI_pt hj, wJ_pt hj, aL_pt hj, cl1_s, cl1_n, cl1_i, cx1_s, cx1_x, cx1_n, cx1_i, nul_n, nul_s, nm, dv2, dv3, dv4, dv5, dv8, dv10, dv20, dv40, thr, bo, mI_pt hj, mT_pt hj, sB_pt, mZ_pt, mJ_pt, mJ_sJ, mZ_sJ, tn0, tn1, tn2, tn3, tn4, tn5, tn6, h1, c0, c1, itn, ii0, ii1, ii2, ii3, ii4, if_true, if_false, ne_eq, not_false_eq_true, not_true_eq_false, true_and, and_true, false_and, and_false, and_self, true_or, or_true, false_or, or_false, or_self, Nat.reduceAdd, Nat.reduceLT, Nat.reduceLeDiff, Nat.succ_ne_zero, reduceIte, reduceCtorEq]
    · simp (config := {decide := true}) only [l_X4_fire_40, itr_succ, b_X4_fire_40, b_X1_isDried_19, b_X1_isDried_0, f_X1_isDried, b_X4_fire_72, gI_pt hj, gR_pt hj, ob_pt hj, ck_pt hj, pI_pt hj, pB_pt hj, pR_pt hj, aI_pt hj, aR_pt hj, wI_pt hj, wJ_pt hj, aL_pt hj, cl1_s, cl1_n, cl1_i, cx1_s, cx1_x, cx1_n, cx1_i, nul_n, nul_s, nm, dv2, dv3, dv4, dv5, dv8, dv10, dv20, dv40, thr, bo, mI_pt hj, mT_pt hj, sB_pt, mZ_pt, mJ_pt, mJ_sJ, mZ_sJ, tn0, tn1, tn2, tn3, tn4, tn5, tn6, h1, c0, c1, itn, up2, ii0, ii1, ii2, ii3, ii4, if_true, if_false, ne_eq, not_false_eq_true, not_true_eq_false, true_and, and_true, false_and, and_false, and_self, true_or, or_true, false_or, or_false, or_self, Nat.reduceAdd, Nat.reduceLT, Nat.reduceLeDiff, Nat.succ_ne_zero, reduceIte, reduceCtorEq]
  | succ q ih =>
    intro j fuel I e hf
    obtain ⟨fuel, rfl⟩ : ∃ f, fuel = f + 1 := ⟨fuel - 1, by omega⟩
    have c0 : ¬ Int32.ofNat m ≤ Int32.ofNat j := fun z => by have := (oN_le (by omega) (by omega)).mp z; omega
    have := ih (j + 1) fuel (rowS I a (hs h (I a 1) (I a))) (by omega) (by omega)
    rw [rowS_at, hs1, rowS_rowS] at this
    simp (config := {decide := true}) only [l_X4_fire_40, itr_succ, b_X4_fire_40, x_heat hj h1, gI_pt hj, gR_pt hj, ob_pt hj, ck_pt hj, pI_pt hj, pB_pt hj, pR_pt hj, aI_pt hj, aR_pt hj, wI_pt hj, wJ_pt hj, aL_pt hj, cl1_s, cl1_n, cl1_i, cx1_s, cx1_x, cx1_n, cx1_i, nul_n, nul_s, nm, dv2, dv3, dv4, dv5, dv8, dv10, dv20, dv40, thr, bo, mI_pt hj, mT_pt hj, sB_pt, mZ_pt, mJ_pt, mJ_sJ, mZ_sJ, tn0, tn1, tn2, tn3, tn4, tn5, tn6, h1, c0, oN_s, itn, ii0, ii1, ii2, ii3, ii4, if_true, if_false, ne_eq, not_false_eq_true, not_true_eq_false, true_and, and_true, false_and, and_false, and_self, true_or, or_true, false_or, or_false, or_self, Nat.reduceAdd, Nat.reduceLT, Nat.reduceLeDiff, Nat.succ_ne_zero, reduceIte, reduceCtorEq]
    exact this
theorem m_fireL (hj : Inj φ T) (h1 : T v = (8, 0)) (h2 : R v 1 = some (φ w)) (h3 : T w = (100, 4)) (hvw : w ≠ v) (m : Nat) (hm : m ≤ 30) : ∀ (q j fuel : Nat) (I : Nat → Nat → Int32), j + q = m → q < fuel → I w 0 + I w 1 + I w 2 + I w 3 = d →
    l_X8_fire_85 fuel h (Int32.ofNat m) (some (φ v)) (Int32.ofNat j) (pt φ T I R τ) =
      (if d < 20 * itn (hs h d) q (I v) 3 then some (itn (hs h d) q (I v) 3, pt φ T (up2 (rowS I v (itn (hs h d) q (I v))) v 0 1) R τ)
       else some (itn (hs h d) q (I v) 3, pt φ T (up2 (rowS I v (itn (hs h d) q (I v))) v 0 2) R τ)) := by
  intro q
  induction q with
  | zero =>
    intro j fuel I e hf hd
    obtain ⟨fuel, rfl⟩ : ∃ f, fuel = f + 1 := ⟨fuel - 1, by omega⟩
    have c0 : Int32.ofNat m ≤ Int32.ofNat j := (oN_le (by omega) (by omega)).mpr (by omega)
    have e0 : rowS I v (itn (hs h d) 0 (I v)) = I := rowS_self rfl
    have hdry := mdry (I := I) (τ := τ) hj h1 h2 h3
    rw [hd] at hdry
    rw [e0]
    by_cases c1 : d < 20 * I v 3
    · simp (config := {decide := true}) only [l_X8_fire_85, itr_succ, b_X8_fire_85, b_X5_settle_13, b_X5_settle_0, f_X5_settle, b_X5_isDryEnough_19, b_X5_isDryEnough_0, f_X5_isDryEnough, hdry, gI_pt hj, gR_pt hj, ob_pt hj, ck_pt hj, pI_pt hj, pB_pt hj, pR_pt hj, aI_pt hj, aR_pt hj, wI_pt hj, wJ_pt hj, aL_pt hj, cl1_s, cl1_n, cl1_i, cx1_s, cx1_x, cx1_n, cx1_i, nul_n, nul_s, nm, dv2, dv3, dv4, dv5, dv8, dv10, dv20, dv40, thr, bo, mI_pt hj, mT_pt hj, sB_pt, mZ_pt, mJ_pt, mJ_sJ, mZ_sJ, tn0, tn1, tn2, tn3, tn4, tn5, tn6, h1, c0, c1, itn, up2, ii0, ii1, ii2, ii3, ii4, if_true, if_false, ne_eq, not_false_eq_true, not_true_eq_false, true_and, and_true, false_and, and_false, and_self, true_or, or_true, false_or, or_false, or_self, Nat.reduceAdd, Nat.reduceLT, Nat.reduceLeDiff, Nat.succ_ne_zero, reduceIte, reduceCtorEq]
    · simp (config := {decide := true}) only [l_X8_fire_85, itr_succ, b_X8_fire_85, b_X5_settle_13, b_X5_settle_0, f_X5_settle, b_X5_isDryEnough_19, b_X5_isDryEnough_0, f_X5_isDryEnough, hdry, gI_pt hj, gR_pt hj, ob_pt hj, ck_pt hj, pI_pt hj, pB_pt hj, pR_pt hj, aI_pt hj, aR_pt hj, wI_pt hj, wJ_pt hj, aL_pt hj, cl1_s, cl1_n, cl1_i, cx1_s, cx1_x, cx1_n, cx1_i, nul_n, nul_s, nm, dv2, dv3, dv4, dv5, dv8, dv10, dv20, dv40, thr, bo, mI_pt hj, mT_pt hj, sB_pt, mZ_pt, mJ_pt, mJ_sJ, mZ_sJ, tn0, tn1, tn2, tn3, tn4, tn5, tn6, h1, c0, c1, itn, up2, ii0, ii1, ii2, ii3, ii4, if_true, if_false, ne_eq, not_false_eq_true, not_true_eq_false, true_and, and_true, false_and, and_false, and_self, true_or, or_true, false_or, or_false, or_self, Nat.reduceAdd, Nat.reduceLT, Nat.reduceLeDiff, Nat.succ_ne_zero, reduceIte, reduceCtorEq]
  | succ q ih =>
    intro j fuel I e hf hd
    obtain ⟨fuel, rfl⟩ : ∃ f, fuel = f + 1 := ⟨fuel - 1, by omega⟩
    have c0 : ¬ Int32.ofNat m ≤ Int32.ofNat j := fun z => by have := (oN_le (by omega) (by omega)).mp z; omega
    have := ih (j + 1) fuel (rowS I v (hs h d (I v))) (by omega) (by omega) (by rw [rowS_ne hvw]; exact hd)
    rw [rowS_at, rowS_rowS] at this
    simp (config := {decide := true}) only [l_X8_fire_85, itr_succ, b_X8_fire_85, m_heat hj h1 h2 h3, hd, gI_pt hj, gR_pt hj, ob_pt hj, ck_pt hj, pI_pt hj, pB_pt hj, pR_pt hj, aI_pt hj, aR_pt hj, wI_pt hj, wJ_pt hj, aL_pt hj, cl1_s, cl1_n, cl1_i, cx1_s, cx1_x, cx1_n, cx1_i, nul_n, nul_s, nm, dv2, dv3, dv4, dv5, dv8, dv10, dv20, dv40, thr, bo, mI_pt hj, mT_pt hj, sB_pt, mZ_pt, mJ_pt, mJ_sJ, mZ_sJ, tn0, tn1, tn2, tn3, tn4, tn5, tn6, h1, c0, oN_s, itn, ii0, ii1, ii2, ii3, ii4, if_true, if_false, ne_eq, not_false_eq_true, not_true_eq_false, true_and, and_true, false_and, and_false, and_self, true_or, or_true, false_or, or_false, or_self, Nat.reduceAdd, Nat.reduceLT, Nat.reduceLeDiff, Nat.succ_ne_zero, reduceIte, reduceCtorEq]
    exact this
end L4

section L5
variable {φ : Nat → Nat} {T : Nat → Nat × Nat} {R : Nat → Nat → Option Nat} {τ : Mem} {v w a l e c n : Nat} {h d p : Int32}
theorem lget {I : Nat → Nat → Int32} (hj : Inj φ T) (h1 : T l = (2, 0)) (h2 : R l 1 = some (φ e)) (h3 : T e = (106, c)) (h4 : ¬ p < 0) (h5 : p < I l 2) (h6 : p.toNatClampNeg < c) : f_Jx4a65c_get_915e3 (φ l) p (pt φ T I R τ) = some (R e p.toNatClampNeg, pt φ T I R τ) := by
  simp (config := {decide := true}) only [b_Jx4a65c_get_915e3_0, f_Jx4a65c_get_915e3, b_J3_checkIndex_8e157_9, b_J3_checkIndex_8e157_0, f_J3_checkIndex_8e157, b_J15_checkIndex_7cf53_0, f_J15_checkIndex_7cf53, b_Jx4a65c_elementData_915e3_0, f_Jx4a65c_elementData_915e3, gI_pt hj, gR_pt hj, ob_pt hj, ck_pt hj, pI_pt hj, pB_pt hj, pR_pt hj, aI_pt hj, aR_pt hj, wI_pt hj, wJ_pt hj, aL_pt hj, cl1_s, cl1_n, cl1_i, cx1_s, cx1_x, cx1_n, cx1_i, nul_n, nul_s, nm, dv2, dv3, dv4, dv5, dv8, dv10, dv20, dv40, thr, bo, mI_pt hj, mT_pt hj, sB_pt, mZ_pt, mJ_pt, mJ_sJ, mZ_sJ, tn0, tn1, tn2, tn3, tn4, tn5, tn6, h1, h2, h3, h4, h5, h6, ii0, ii1, ii2, ii3, ii4, if_true, if_false, ne_eq, not_false_eq_true, not_true_eq_false, true_and, and_true, false_and, and_false, and_self, true_or, or_true, false_or, or_false, or_self, Nat.reduceAdd, Nat.reduceLT, Nat.reduceLeDiff, Nat.succ_ne_zero, reduceIte, reduceCtorEq]
theorem ws_up {I : Nat → Nat → Int32} : up2 (up2 I a 3 (if I a 1 < I a 3 - (I a 3 * h + 9) / 10 then I a 3 - (I a 3 * h + 9) / 10 else I a 1)) a 4 (I a 4 + 1) = rowS I a (ws h (I a 1) (I a)) := by
  rw [up2_rowS, up2_rowS, rowS_rowS, rowS_at]
  refine congrArg (rowS I a) ?_
  funext k
  by_cases k3 : k = 3
  · subst k3; rw [if_neg (by decide), if_pos rfl]; simp only [ws, if_true]
  · by_cases k4 : k = 4
    · subst k4; rw [if_pos rfl]; simp only [ws, if_neg k3, if_true]
    · simp only [ws, if_neg k3, if_neg k4]
theorem x_with1 {I : Nat → Nat → Int32} {k : Int32 → Int32 → Option Nat → Int32 → Mem → Option ((Int32 ⊕ Nat) × Mem)} {m j : Int32} (hj : Inj φ T) (h1 : T a = (4, 0)) (c0 : ¬ m ≤ j) : b_X4_wither_47 k m h (some (φ a)) j (pt φ T I R τ) = k m h (some (φ a)) (j + 1) (pt φ T (up2 (up2 I a 3 (if I a 1 < I a 3 - (I a 3 * h + 9) / 10 then I a 3 - (I a 3 * h + 9) / 10 else I a 1)) a 4 (I a 4 + 1)) R τ) := by
  have h2 : (T a).1 = 3 + 1 := by rw [h1]
  rw [b_X4_wither_47, if_neg c0, gI_pt hj h2, gI_pt hj h2, gI_pt hj h2, nm, nm, dv10, nm, nm, pI_pt hj h2, gI_pt hj h2, nm, pI_pt hj h2, nm, up2_k (show 4 ≠ 3 by decide)]
theorem x_withL (hj : Inj φ T) (h1 : T a = (4, 0)) (m : Nat) (hm : m ≤ 30) : ∀ (q j fuel : Nat) (I : Nat → Nat → Int32), j + q = m → q < fuel →
    l_X4_wither_47 fuel (Int32.ofNat m) h (some (φ a)) (Int32.ofNat j) (pt φ T I R τ) = some (.inl (itn (ws h (I a 1)) q (I a) 3), pt φ T (rowS I a (itn (ws h (I a 1)) q (I a))) R τ) := by
  intro q
  induction q with
  | zero =>
    intro j fuel I e hf
    obtain ⟨fuel, rfl⟩ : ∃ f, fuel = f + 1 := ⟨fuel - 1, by omega⟩
    have c0 : Int32.ofNat m ≤ Int32.ofNat j := (oN_le (by omega) (by omega)).mpr (by omega)
    have e0 : rowS I a (itn (ws h (I a 1)) 0 (I a)) = I := rowS_self rfl
    rw [e0]
    unfold l_X4_wither_47
    rw [itr_succ, b_X4_wither_47, if_pos c0, gI_pt hj (by rw [h1]), itn]
  | succ q ih =>
    intro j fuel I e hf
    obtain ⟨fuel, rfl⟩ : ∃ f, fuel = f + 1 := ⟨fuel - 1, by omega⟩
    have c0 : ¬ Int32.ofNat m ≤ Int32.ofNat j := fun z => by have := (oN_le (by omega) (by omega)).mp z; omega
    have := ih (j + 1) fuel (rowS I a (ws h (I a 1) (I a))) (by omega) (by omega)
    rw [rowS_at, ws1, rowS_rowS] at this
    unfold l_X4_wither_47
    rw [itr_succ, x_with1 hj h1 c0, ws_up, oN_s, itn]
    exact this
theorem m_withL (hj : Inj φ T) (h1 : T v = (8, 0)) (h2 : R v 1 = some (φ w)) (h3 : T w = (100, 4)) (hvw : w ≠ v) (k1 : T 124 = (11, 0)) (k2 : R 124 7 = some (φ 126)) (k3 : T 126 = (2, 0)) (k4 : R 126 1 = some (φ 134)) (k5 : T 134 = (106, c)) (k6 : ¬ p < 0) (k7 : p < Int32.ofNat n) (k8 : p.toNatClampNeg < c) (k9 : R 134 p.toNatClampNeg = some (φ v)) (k10 : v ≠ 126) (m : Nat) (hm : m ≤ 30) : ∀ (q j fuel : Nat) (I : Nat → Nat → Int32), j + q = m → q < fuel → I w 0 + I w 1 + I w 2 + I w 3 = d → I 126 2 = Int32.ofNat n →
    l_X8_wither_89 fuel (φ 124) p (Int32.ofNat m) h (Int32.ofNat j) (pt φ T I R τ) = some (itn (ws h d) q (I v) 3, pt φ T (rowS I v (itn (ws h d) q (I v))) R τ) := by
  intro q
  induction q with
  | zero =>
    intro j fuel I e hf hd hn
    obtain ⟨fuel, rfl⟩ : ∃ f, fuel = f + 1 := ⟨fuel - 1, by omega⟩
    have c0 : Int32.ofNat m ≤ Int32.ofNat j := (oN_le (by omega) (by omega)).mpr (by omega)
    have e0 : rowS I v (itn (ws h d) 0 (I v)) = I := rowS_self rfl
    rw [e0]
    simp (config := {decide := true}) only [l_X8_wither_89, itr_succ, b_X8_wither_89, lget hj k3 k4 k5 k6 (show p < I 126 2 by rw [hn]; exact k7) k8, k9, k1, k2, k3, gI_pt hj, gR_pt hj, ob_pt hj, ck_pt hj, pI_pt hj, pB_pt hj, pR_pt hj, aI_pt hj, aR_pt hj, wI_pt hj, wJ_pt hj, aL_pt hj, cl1_s, cl1_n, cl1_i, cx1_s, cx1_x, cx1_n, cx1_i, nul_n, nul_s, nm, dv2, dv3, dv4, dv5, dv8, dv10, dv20, dv40, thr, bo, mI_pt hj, mT_pt hj, sB_pt, mZ_pt, mJ_pt, mJ_sJ, mZ_sJ, tn0, tn1, tn2, tn3, tn4, tn5, tn6, h1, c0, itn, ii0, ii1, ii2, ii3, ii4, if_true, if_false, ne_eq, not_false_eq_true, not_true_eq_false, true_and, and_true, false_and, and_false, and_self, true_or, or_true, false_or, or_false, or_self, Nat.reduceAdd, Nat.reduceLT, Nat.reduceLeDiff, Nat.succ_ne_zero, reduceIte, reduceCtorEq]
  | succ q ih =>
    intro j fuel I e hf hd hn
    obtain ⟨fuel, rfl⟩ : ∃ f, fuel = f + 1 := ⟨fuel - 1, by omega⟩
    have c0 : ¬ Int32.ofNat m ≤ Int32.ofNat j := fun z => by have := (oN_le (by omega) (by omega)).mp z; omega
    have := ih (j + 1) fuel (rowS I v (ws h d (I v))) (by omega) (by omega) (by rw [rowS_ne hvw]; exact hd) (by rw [rowS_ne (Ne.symm k10)]; exact hn)
    rw [rowS_at, rowS_rowS] at this
    simp (config := {decide := true}) only [l_X8_wither_89, itr_succ, b_X8_wither_89, lget hj k3 k4 k5 k6 (show p < I 126 2 by rw [hn]; exact k7) k8, k9, k1, k2, k3, m_with hj h1 h2 h3, hd, gI_pt hj, gR_pt hj, ob_pt hj, ck_pt hj, pI_pt hj, pB_pt hj, pR_pt hj, aI_pt hj, aR_pt hj, wI_pt hj, wJ_pt hj, aL_pt hj, cl1_s, cl1_n, cl1_i, cx1_s, cx1_x, cx1_n, cx1_i, nul_n, nul_s, nm, dv2, dv3, dv4, dv5, dv8, dv10, dv20, dv40, thr, bo, mI_pt hj, mT_pt hj, sB_pt, mZ_pt, mJ_pt, mJ_sJ, mZ_sJ, tn0, tn1, tn2, tn3, tn4, tn5, tn6, h1, c0, oN_s, itn, ii0, ii1, ii2, ii3, ii4, if_true, if_false, ne_eq, not_false_eq_true, not_true_eq_false, true_and, and_true, false_and, and_false, and_self, true_or, or_true, false_or, or_false, or_self, Nat.reduceAdd, Nat.reduceLT, Nat.reduceLeDiff, Nat.succ_ne_zero, reduceIte, reduceCtorEq]
    exact this
end L5
section L7
variable {φ : Nat → Nat} {T : Nat → Nat × Nat} {R : Nat → Nat → Option Nat} {τ : Mem} {v w c n m : Nat} {h d p : Int32} {x y : Nat → Int32}
theorem wsK {k : Nat} (h3 : k ≠ 3) (h4 : k ≠ 4) : ∀ (q : Nat) (x : Nat → Int32), itn (ws h d) q x k = x k := by
  intro q; induction q with
  | zero => intro x; rfl
  | succ q ih => intro x; rw [itn, ih]; simp only [ws, if_neg h3, if_neg h4]
theorem wsE : ∀ (q : Nat) (x y : Nat → Int32), x 3 = y 3 → x 4 = y 4 → itn (ws h d) q x 3 = itn (ws h d) q y 3 ∧ itn (ws h d) q x 4 = itn (ws h d) q y 4 := by
  intro q; induction q with
  | zero => intro x y h3 h4; exact ⟨h3, h4⟩
  | succ q ih =>
    intro x y h3 h4
    rw [itn, itn]
    exact ih _ _ (by simp only [ws, if_true, h3]) (by simp [ws, h4])
theorem hsK {k : Nat} (h3 : k ≠ 3) (h7 : k ≠ 7) (h8 : k ≠ 8) : ∀ (q : Nat) (x : Nat → Int32), itn (hs h d) q x k = x k := by
  intro q; induction q with
  | zero => intro x; rfl
  | succ q ih => intro x; rw [itn, ih]; simp only [hs, if_neg h3, if_neg h7, if_neg h8]
theorem hsE : ∀ (q : Nat) (x y : Nat → Int32), x 3 = y 3 → x 7 = y 7 → x 8 = y 8 → itn (hs h d) q x 3 = itn (hs h d) q y 3 ∧ itn (hs h d) q x 7 = itn (hs h d) q y 7 ∧ itn (hs h d) q x 8 = itn (hs h d) q y 8 := by
  intro q; induction q with
  | zero => intro x y h3 h7 h8; exact ⟨h3, h7, h8⟩
  | succ q ih =>
    intro x y h3 h7 h8
    rw [itn, itn]
    exact ih _ _ (by simp only [hs, if_true, h3]) (by simp [hs, h3, h7]) (by simp [hs, h3, h8])
theorem m_withM (hj : Inj φ T) (h1 : T v = (8, 0)) (h2 : R v 1 = some (φ w)) (h3 : T w = (100, 4)) (hvw : w ≠ v) (k1 : T 124 = (11, 0)) (k2 : R 124 7 = some (φ 126)) (k3 : T 126 = (2, 0)) (k4 : R 126 1 = some (φ 134)) (k5 : T 134 = (106, c)) (k6 : ¬ p < 0) (k7 : p < Int32.ofNat n) (k8 : p.toNatClampNeg < c) (k9 : R 134 p.toNatClampNeg = some (φ v)) (k10 : v ≠ 126) (hm : m ≤ 30) {I : Nat → Nat → Int32} (hn : I 126 2 = Int32.ofNat n) :
    l_X8_wither_89 40 (φ 124) p (Int32.ofNat m) h 0 (pt φ T I R τ) = some (itn (ws h (I w 0 + I w 1 + I w 2 + I w 3)) m (I v) 3, pt φ T (rowS I v (itn (ws h (I w 0 + I w 1 + I w 2 + I w 3)) m (I v))) R τ) :=
  m_withL hj h1 h2 h3 hvw k1 k2 k3 k4 k5 k6 k7 k8 k9 k10 m hm m 0 40 I (by omega) (by omega) rfl hn
theorem x_withX {a : Nat} (hj : Inj φ T) (h1 : T a = (4, 0)) (hm : m ≤ 30) {I : Nat → Nat → Int32} : l_X4_wither_47 40 (Int32.ofNat m) h (some (φ a)) 0 (pt φ T I R τ) = some (.inl (itn (ws h (I a 1)) m (I a) 3), pt φ T (rowS I a (itn (ws h (I a 1)) m (I a))) R τ) :=
  x_withL hj h1 m hm m 0 40 I (by omega) (by omega)
theorem m_fireM (hj : Inj φ T) (h1 : T v = (8, 0)) (h2 : R v 1 = some (φ w)) (h3 : T w = (100, 4)) (hvw : w ≠ v) (hm : m ≤ 30) {I : Nat → Nat → Int32} :
    l_X8_fire_85 40 h (Int32.ofNat m) (some (φ v)) 0 (pt φ T I R τ) =
      (if I w 0 + I w 1 + I w 2 + I w 3 < 20 * itn (hs h (I w 0 + I w 1 + I w 2 + I w 3)) m (I v) 3 then some (itn (hs h (I w 0 + I w 1 + I w 2 + I w 3)) m (I v) 3, pt φ T (up2 (rowS I v (itn (hs h (I w 0 + I w 1 + I w 2 + I w 3)) m (I v))) v 0 1) R τ)
       else some (itn (hs h (I w 0 + I w 1 + I w 2 + I w 3)) m (I v) 3, pt φ T (up2 (rowS I v (itn (hs h (I w 0 + I w 1 + I w 2 + I w 3)) m (I v))) v 0 2) R τ)) :=
  m_fireL hj h1 h2 h3 hvw m hm m 0 40 I (by omega) (by omega) rfl
theorem x_fireX {a : Nat} (hj : Inj φ T) (h1 : T a = (4, 0)) (hm : m ≤ 30) {I : Nat → Nat → Int32} : l_X4_fire_40 40 h (Int32.ofNat m) (some (φ a)) 0 (pt φ T I R τ) =
      (if I a 1 < 20 * itn (hs h (I a 1)) m (I a) 3 then some (.inl (itn (hs h (I a 1)) m (I a) 3), pt φ T (rowS I a (itn (hs h (I a 1)) m (I a))) R τ)
       else some (.inl (itn (hs h (I a 1)) m (I a) 3), pt φ T (up2 (rowS I a (itn (hs h (I a 1)) m (I a))) a 0 2) R τ)) :=
  x_fireL hj h1 m hm m 0 40 I (by omega) (by omega)
end L7

section L8
variable {φ : Nat → Nat} {T : Nat → Nat × Nat} {I : Nat → Nat → Int32} {R : Nat → Nat → Option Nat} {τ : Mem} {a w : Nat}
theorem x_cut (hj : Inj φ T) (h1 : T a = (5, 0)) (h2 : R a 7 = some (φ w)) (h3 : T w = (100, 4)) (haw : a ≠ w) : f_X2_cutBack (φ a) (pt φ T I R τ) = some (I a 6 + I w 0 + I w 1 + I w 2 + I w 3, pt φ T (up2 (up2 (up2 (up2 (up2 (up2 (up2 (up2 I a 6 0) w 0 0) w 1 0) w 2 0) w 3 0) a 2 0) a 4 0) a 3 4) R τ) := by
  have q1 := Ne.symm haw
  simp (config := {decide := true}) only [b_X2_cutBack_12, b_X2_cutBack_0, f_X2_cutBack, l_X2_cutBack_12, itr_40, itr_39, itr_38, itr_37, itr_36, gI_pt hj, gR_pt hj, ob_pt hj, ck_pt hj, pI_pt hj, pB_pt hj, pR_pt hj, aI_pt hj, aR_pt hj, wI_pt hj, wJ_pt hj, aL_pt hj, cl1_s, cl1_n, cl1_i, cx1_s, cx1_x, cx1_n, cx1_i, nul_n, nul_s, nm, dv2, dv3, dv4, dv5, dv8, dv10, dv20, dv40, thr, bo, mI_pt hj, mT_pt hj, sB_pt, mZ_pt, mJ_pt, mJ_sJ, mZ_sJ, tn0, tn1, tn2, tn3, tn4, tn5, tn6, h1, h2, h3, up2, haw, q1, ii0, ii1, ii2, ii3, ii4, if_true, if_false, ne_eq, not_false_eq_true, not_true_eq_false, true_and, and_true, false_and, and_false, and_self, true_or, or_true, false_or, or_false, or_self, Nat.reduceAdd, Nat.reduceLT, Nat.reduceLeDiff, Nat.succ_ne_zero, reduceIte, reduceCtorEq]
theorem m_cut (hj : Inj φ T) (h1 : T a = (9, 0)) (h2 : R a 6 = some (φ w)) (h3 : T w = (100, 5)) (haw : a ≠ w) : f_X6_prune (φ a) (pt φ T I R τ) = some (I w 0 + I w 1 + I w 2 + I w 3 + I w 4, pt φ T (up2 (up2 (up2 (up2 (up2 (up2 (up2 (up2 I w 0 0) w 1 0) w 2 0) w 3 0) w 4 0) a 2 0) a 4 0) a 3 4) R τ) := by
  have q1 := Ne.symm haw
  simp (config := {decide := true}) only [b_X6_prune_4, b_X6_prune_0, f_X6_prune, l_X6_prune_4, itr_40, itr_39, itr_38, itr_37, itr_36, itr_35, gI_pt hj, gR_pt hj, ob_pt hj, ck_pt hj, pI_pt hj, pB_pt hj, pR_pt hj, aI_pt hj, aR_pt hj, wI_pt hj, wJ_pt hj, aL_pt hj, cl1_s, cl1_n, cl1_i, cx1_s, cx1_x, cx1_n, cx1_i, nul_n, nul_s, nm, dv2, dv3, dv4, dv5, dv8, dv10, dv20, dv40, thr, bo, mI_pt hj, mT_pt hj, sB_pt, mZ_pt, mJ_pt, mJ_sJ, mZ_sJ, tn0, tn1, tn2, tn3, tn4, tn5, tn6, h1, h2, h3, up2, haw, q1, Int32.zero_add, ii0, ii1, ii2, ii3, ii4, if_true, if_false, ne_eq, not_false_eq_true, not_true_eq_false, true_and, and_true, false_and, and_false, and_self, true_or, or_true, false_or, or_false, or_self, Nat.reduceAdd, Nat.reduceLT, Nat.reduceLeDiff, Nat.succ_ne_zero, reduceIte, reduceCtorEq]
end L8
