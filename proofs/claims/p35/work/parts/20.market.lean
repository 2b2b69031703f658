/-! THE MARKET: who may buy, who is ahead, what is paid -/
theorem divP {v : Int32} {z : Int} (c : Int32) (hz : c.toInt = z) (h0 : 0 < z) (h1 : 0 ≤ v.toInt) : (v / c).toInt = v.toInt / z := by
  have h2 := Int32.toInt_lt v
  rw [Int32.toInt_div, hz, Int.tdiv_eq_ediv_of_nonneg h1]
  have h3 : 0 ≤ v.toInt / z := Int.ediv_nonneg h1 (by omega)
  have h4 : v.toInt / z ≤ v.toInt := Int.ediv_le_self z h1
  rw [Int.bmod_eq_of_le (by omega) (by omega)]
theorem oN_neg {j : Nat} (h : j < 1000) : ¬ Int32.ofNat j = -1 := by
  intro q
  have := congrArg Int32.toInt q
  rw [oN (by omega), show (-1 : Int32).toInt = -1 from rfl] at this
  omega
section MK
variable {φ : Nat → Nat} {T : Nat → Nat × Nat} {I J : Nat → Nat → Int32} {R : Nat → Nat → Option Nat} {τ : Mem} {nS nL n z : Nat}
variable {p q : Int32} {i k w v : Nat}
def okB (I : Nat → Nat → Int32) (i q : Nat) : Bool := decide (¬ I (6 * i + 23) q ≤ 0) && (decide (¬ I (6 * i + 23) q < I (6 * i + 22) 0) && decide (¬ I 10 q < I (6 * i + 23) q * I (6 * i + 19) 1 / 10))
def ahB (I : Nat → Nat → Int32) (i q w : Nat) : Bool := decide (I (6 * i + 23) w < I (6 * i + 23) q) || (decide (I (6 * i + 23) q = I (6 * i + 23) w) && decide (¬ I (6 * i + 24) w ≤ I (6 * i + 24) q))
def wnV (I : Nat → Nat → Int32) (i : Nat) : Nat → Int32
  | 0 => -1
  | k + 1 => if okB I i k = true then (if wnV I i k = -1 then Int32.ofNat k else if ahB I i k (wnV I i k).toNatClampNeg = true then Int32.ofNat k else wnV I i k) else wnV I i k
def rvV (I : Nat → Nat → Int32) (i j : Nat) : Nat → Int32
  | 0 => -1
  | k + 1 => if k = j then rvV I i j k else if okB I i k = true then (if rvV I i j k < I (6 * i + 23) k then I (6 * i + 23) k else rvV I i j k) else rvV I i j k
def prV (I : Nat → Nat → Int32) (i j : Nat) : Int32 := if rvV I i j 4 = -1 then I (6 * i + 22) 0 else if rvV I i j 4 + 1 < I (6 * i + 23) j then rvV I i j 4 + 1 else I (6 * i + 23) j
def WV (I : Nat → Nat → Int32) (i : Nat) : Int32 := if wnV I i 4 = -1 then 0 else prV I i (wnV I i 4).toNatClampNeg * I (6 * i + 19) 1 / 10
theorem wn_ok : ∀ k, wnV I i k = -1 ∨ ∃ j, j < k ∧ wnV I i k = Int32.ofNat j ∧ okB I i j = true := by
  intro k
  induction k with
  | zero => exact Or.inl rfl
  | succ k ih =>
    unfold wnV
    by_cases c : okB I i k = true
    · rw [if_pos c]
      by_cases c1 : wnV I i k = -1
      · rw [if_pos c1]; exact Or.inr ⟨k, by omega, rfl, c⟩
      · rw [if_neg c1]
        by_cases c2 : ahB I i k (wnV I i k).toNatClampNeg = true
        · rw [if_pos c2]; exact Or.inr ⟨k, by omega, rfl, c⟩
        · rw [if_neg c2]
          rcases ih with e | ⟨j, e1, e2, e3⟩
          · exact Or.inl e
          · exact Or.inr ⟨j, by omega, e2, e3⟩
    · rw [if_neg c]
      rcases ih with e | ⟨j, e1, e2, e3⟩
      · exact Or.inl e
      · exact Or.inr ⟨j, by omega, e2, e3⟩
theorem okB_t {q : Nat} (h : okB I i q = true) : ¬ I (6 * i + 23) q ≤ 0 ∧ ¬ I (6 * i + 23) q < I (6 * i + 22) 0 ∧ ¬ I 10 q < I (6 * i + 23) q * I (6 * i + 19) 1 / 10 := by
  simp only [okB, Bool.and_eq_true, decide_eq_true_eq] at h
  exact h
theorem rv_ok {j : Nat} : ∀ k, rvV I i j k = -1 ∨ ∃ q, q < k ∧ rvV I i j k = I (6 * i + 23) q ∧ okB I i q = true := by
  intro k
  induction k with
  | zero => exact Or.inl rfl
  | succ k ih =>
    have ih' : rvV I i j k = -1 ∨ ∃ q, q < k + 1 ∧ rvV I i j k = I (6 * i + 23) q ∧ okB I i q = true := by
      rcases ih with e | ⟨q, e1, e2, e3⟩
      · exact Or.inl e
      · exact Or.inr ⟨q, by omega, e2, e3⟩
    unfold rvV
    by_cases c0 : k = j
    · rw [if_pos c0]; exact ih'
    · rw [if_neg c0]
      by_cases c : okB I i k = true
      · rw [if_pos c]
        by_cases c1 : rvV I i j k < I (6 * i + 23) k
        · rw [if_pos c1]; exact Or.inr ⟨k, by omega, rfl, c⟩
        · rw [if_neg c1]; exact ih'
      · rw [if_neg c]; exact ih'
theorem x_hasBid (h : Cx φ T I R z nS nL n) (hi : i < 17) {w : Nat} (hw : w < 4) : f_X0_hasBid (φ (6 * i + 22)) (Int32.ofNat w) (pt φ T J R τ) = some (if J (6 * i + 23) w ≤ 0 then 0 else 1, pt φ T J R τ) := by
  obtain ⟨hj, hl, hx, ⟨hm22, hm23⟩, hr⟩ := h; obtain ⟨hx0, hx1, hx2, hx3, hx4, hx5, hx6, hx7, hx8, hx9, hx10, hx11, hx12, hx13, hx14, hx15, hx16, hx17, hx18, hx19, hx20, hx21, hx22, hx23, hx24, hx25, hx26, hx27⟩ := hx; obtain ⟨⟨g1, g2⟩, r1, r2, r3, r4, r5, r6, r7⟩ := hr
  have c4 := kN_nn (a := w) (by omega)
  have c5 := tnK (k := w) (by omega)
  by_cases c : J (6 * i + 23) w ≤ 0 <;> simp (config := {decide := true}) only [b_X0_hasBid_14, b_X0_hasBid_0, f_X0_hasBid, gI_pt hj, gR_pt hj, ob_pt hj, pI_pt hj, pB_pt hj, pR_pt hj, aI_pt hj, aR_pt hj, wI_pt hj, aL_pt hj, cl1_s, cl1_n, cl1_i, nul_n, nul_s, nm, dv2, dv3, dv4, dv5, dv8, dv10, dv20, dv40, bo, mI_pt hj, mT_pt hj, mZ_pt, tn0, tn1, tn2, tn3, tn4, tn5, tn6, hx21 i hi, hx22 i hi, hx24 i hi, c, c4, c5, hw, ii0, ii1, ii2, ii3, ii4, if_true, if_false, ne_eq, not_false_eq_true, not_true_eq_false, true_and, and_true, false_and, and_false, and_self, true_or, or_true, false_or, or_false, or_self, Nat.reduceAdd, Nat.reduceLT, Nat.reduceLeDiff, Nat.succ_ne_zero, reduceIte, reduceCtorEq]
theorem x_reqI (σ : Mem) {N : Nat} (hN : N < 1000) (hp : InN p N) : f_X4_requireIndex p (Int32.ofNat N) σ = some ((), σ) := by
  simp (config := {decide := true}) only [b_X4_requireIndex_9, b_X4_requireIndex_0, f_X4_requireIndex, hp.1, hp.2, ii0, ii1, ii2, ii3, ii4, if_true, if_false, ne_eq, not_false_eq_true, not_true_eq_false, true_and, and_true, false_and, and_false, and_self, true_or, or_true, false_or, or_false, or_self, Nat.reduceAdd, Nat.reduceLT, Nat.reduceLeDiff, Nat.succ_ne_zero, reduceIte, reduceCtorEq]
theorem x_bidOf (h : Cx φ T I R (mZ τ) nS nL n) (hp : InN p nL) (hi : p.toNatClampNeg = i) {w : Nat} (hw : w < 4) : f_X4_bidOf (φ 0) (Int32.ofNat w) p (pt φ T I R τ) = some (if I (6 * i + 23) w ≤ 0 then -1 else I (6 * i + 23) w, pt φ T I R τ) := by
  have iL : i < nL := hi ▸ (idx h.m.2.2.2.2.1 hp.1 hp.2).2.2.2.2
  have hN := h.m.2.2.2.2.1
  have Q : f_X4_requireIndex (Int32.ofNat w) 4 (pt φ T I R τ) = some ((), pt φ T I R τ) := x_reqI (N := 4) _ (by omega) (InN.of hw (by omega))
  have A := x_lotAt h hp hi
  have B := x_hasBid (J := I) (τ := τ) h (show i < 17 by omega) hw
  obtain ⟨hj, hl, hx, ⟨hm22, hm23⟩, hr⟩ := h; obtain ⟨hx0, hx1, hx2, hx3, hx4, hx5, hx6, hx7, hx8, hx9, hx10, hx11, hx12, hx13, hx14, hx15, hx16, hx17, hx18, hx19, hx20, hx21, hx22, hx23, hx24, hx25, hx26, hx27⟩ := hx; obtain ⟨⟨g1, g2⟩, r1, r2, r3, r4, r5, r6, r7⟩ := hr
  have c4 := kN_nn (a := w) (by omega)
  have c5 := tnK (k := w) (by omega)
  by_cases c : I (6 * i + 23) w ≤ 0
  · rw [if_pos c] at B
    simp (config := {decide := true}) only [b_X4_bidOf_35, b_X4_bidOf_0, f_X4_bidOf, Q, A, B, gI_pt hj, gR_pt hj, ob_pt hj, pI_pt hj, pB_pt hj, pR_pt hj, aI_pt hj, aR_pt hj, wI_pt hj, aL_pt hj, cl1_s, cl1_n, cl1_i, nul_n, nul_s, nm, dv2, dv3, dv4, dv5, dv8, dv10, dv20, dv40, bo, mI_pt hj, mT_pt hj, mZ_pt, tn0, tn1, tn2, tn3, tn4, tn5, tn6, hx0, hx15 i (by omega), hx18 i (by omega), hx21 i (by omega), hx22 i (by omega), hx24 i (by omega), c, c4, c5, hw, ii0, ii1, ii2, ii3, ii4, if_true, if_false, ne_eq, not_false_eq_true, not_true_eq_false, true_and, and_true, false_and, and_false, and_self, true_or, or_true, false_or, or_false, or_self, Nat.reduceAdd, Nat.reduceLT, Nat.reduceLeDiff, Nat.succ_ne_zero, reduceIte, reduceCtorEq]
  · rw [if_neg c] at B
    simp (config := {decide := true}) only [b_X4_bidOf_35, b_X4_bidOf_0, f_X4_bidOf, Q, A, B, gI_pt hj, gR_pt hj, ob_pt hj, pI_pt hj, pB_pt hj, pR_pt hj, aI_pt hj, aR_pt hj, wI_pt hj, aL_pt hj, cl1_s, cl1_n, cl1_i, nul_n, nul_s, nm, dv2, dv3, dv4, dv5, dv8, dv10, dv20, dv40, bo, mI_pt hj, mT_pt hj, mZ_pt, tn0, tn1, tn2, tn3, tn4, tn5, tn6, hx0, hx15 i (by omega), hx18 i (by omega), hx21 i (by omega), hx22 i (by omega), hx24 i (by omega), c, c4, c5, hw, ii0, ii1, ii2, ii3, ii4, if_true, if_false, ne_eq, not_false_eq_true, not_true_eq_false, true_and, and_true, false_and, and_false, and_self, true_or, or_true, false_or, or_false, or_self, Nat.reduceAdd, Nat.reduceLT, Nat.reduceLeDiff, Nat.succ_ne_zero, reduceIte, reduceCtorEq]
theorem x_cost (hj : Inj φ T) {v : Nat} (h : T v = (2, 0)) (x : Int32) : f_X4_costOf (some (φ v)) x (pt φ T I R τ) = some (x * I v 1 / 10, pt φ T I R τ) := by
  simp (config := {decide := true}) only [b_X4_costOf_0, f_X4_costOf, gI_pt hj, gR_pt hj, ob_pt hj, pI_pt hj, pB_pt hj, pR_pt hj, aI_pt hj, aR_pt hj, wI_pt hj, aL_pt hj, cl1_s, cl1_n, cl1_i, nul_n, nul_s, nm, dv2, dv3, dv4, dv5, dv8, dv10, dv20, dv40, bo, mI_pt hj, mT_pt hj, mZ_pt, tn0, tn1, tn2, tn3, tn4, tn5, tn6, h, ii0, ii1, ii2, ii3, ii4, if_true, if_false, ne_eq, not_false_eq_true, not_true_eq_false, true_and, and_true, false_and, and_false, and_self, true_or, or_true, false_or, or_false, or_self, Nat.reduceAdd, Nat.reduceLT, Nat.reduceLeDiff, Nat.succ_ne_zero, reduceIte, reduceCtorEq]
theorem x_mayBuy (h : Cx φ T I R z nS nL n) (hi : i < 17) {w : Nat} (hw : w < 4) : f_X4_mayBuy (φ 0) (some (φ (6 * i + 19))) (Int32.ofNat w) (pt φ T I R τ) = some (if okB I i w = true then 1 else 0, pt φ T I R τ) := by
  have B := x_hasBid (J := I) (τ := τ) h hi hw
  have C := x_cost (I := I) (R := R) (τ := τ) h.hj (h.t4 hi) (I (6 * i + 23) w)
  obtain ⟨hj, hl, hx, ⟨hm22, hm23⟩, hr⟩ := h; obtain ⟨hx0, hx1, hx2, hx3, hx4, hx5, hx6, hx7, hx8, hx9, hx10, hx11, hx12, hx13, hx14, hx15, hx16, hx17, hx18, hx19, hx20, hx21, hx22, hx23, hx24, hx25, hx26, hx27⟩ := hx; obtain ⟨⟨g1, g2⟩, r1, r2, r3, r4, r5, r6, r7⟩ := hr
  have c4 := kN_nn (a := w) (by omega)
  have c5 := tnK (k := w) (by omega)
  by_cases c1 : I (6 * i + 23) w ≤ 0
  · rw [if_pos c1] at B
    have o : okB I i w = false := by simp [okB, c1]
    simp (config := {decide := true}) only [b_X4_mayBuy_51, b_X4_mayBuy_50, b_X4_mayBuy_0, f_X4_mayBuy, B, o, gI_pt hj, gR_pt hj, ob_pt hj, pI_pt hj, pB_pt hj, pR_pt hj, aI_pt hj, aR_pt hj, wI_pt hj, aL_pt hj, cl1_s, cl1_n, cl1_i, nul_n, nul_s, nm, dv2, dv3, dv4, dv5, dv8, dv10, dv20, dv40, bo, mI_pt hj, mT_pt hj, mZ_pt, tn0, tn1, tn2, tn3, tn4, tn5, tn6, hx15 i hi, hx18 i hi, hx21 i hi, hx22 i hi, hx24 i hi, c4, c5, hw, ii0, ii1, ii2, ii3, ii4, if_true, if_false, ne_eq, not_false_eq_true, not_true_eq_false, true_and, and_true, false_and, and_false, and_self, true_or, or_true, false_or, or_false, or_self, Nat.reduceAdd, Nat.reduceLT, Nat.reduceLeDiff, Nat.succ_ne_zero, reduceIte, reduceCtorEq]
  · rw [if_neg c1] at B
    by_cases c2 : I (6 * i + 23) w < I (6 * i + 22) 0
    · have o : okB I i w = false := by simp [okB, c2]
      simp (config := {decide := true}) only [b_X4_mayBuy_51, b_X4_mayBuy_50, b_X4_mayBuy_0, f_X4_mayBuy, B, o, gI_pt hj, gR_pt hj, ob_pt hj, pI_pt hj, pB_pt hj, pR_pt hj, aI_pt hj, aR_pt hj, wI_pt hj, aL_pt hj, cl1_s, cl1_n, cl1_i, nul_n, nul_s, nm, dv2, dv3, dv4, dv5, dv8, dv10, dv20, dv40, bo, mI_pt hj, mT_pt hj, mZ_pt, tn0, tn1, tn2, tn3, tn4, tn5, tn6, hx15 i hi, hx18 i hi, hx21 i hi, hx22 i hi, hx24 i hi, c4, c5, hw, c2, ii0, ii1, ii2, ii3, ii4, if_true, if_false, ne_eq, not_false_eq_true, not_true_eq_false, true_and, and_true, false_and, and_false, and_self, true_or, or_true, false_or, or_false, or_self, Nat.reduceAdd, Nat.reduceLT, Nat.reduceLeDiff, Nat.succ_ne_zero, reduceIte, reduceCtorEq]
    · by_cases c3 : I 10 w < I (6 * i + 23) w * I (6 * i + 19) 1 / 10
      · have o : okB I i w = false := by simp [okB, c3]
        simp (config := {decide := true}) only [b_X4_mayBuy_51, b_X4_mayBuy_50, b_X4_mayBuy_0, f_X4_mayBuy, B, C, o, gI_pt hj, gR_pt hj, ob_pt hj, pI_pt hj, pB_pt hj, pR_pt hj, aI_pt hj, aR_pt hj, wI_pt hj, aL_pt hj, cl1_s, cl1_n, cl1_i, nul_n, nul_s, nm, dv2, dv3, dv4, dv5, dv8, dv10, dv20, dv40, bo, mI_pt hj, mT_pt hj, mZ_pt, tn0, tn1, tn2, tn3, tn4, tn5, tn6, hx0, hx5, hx9, hx15 i hi, hx18 i hi, hx21 i hi, hx22 i hi, hx24 i hi, c4, c5, hw, c2, c3, ii0, ii1, ii2, ii3, ii4, if_true, if_false, ne_eq, not_false_eq_true, not_true_eq_false, true_and, and_true, false_and, and_false, and_self, true_or, or_true, false_or, or_false, or_self, Nat.reduceAdd, Nat.reduceLT, Nat.reduceLeDiff, Nat.succ_ne_zero, reduceIte, reduceCtorEq]
      · have o : okB I i w = true := by simp [okB, c1, c2, c3]
        simp (config := {decide := true}) only [b_X4_mayBuy_51, b_X4_mayBuy_50, b_X4_mayBuy_0, f_X4_mayBuy, B, C, o, gI_pt hj, gR_pt hj, ob_pt hj, pI_pt hj, pB_pt hj, pR_pt hj, aI_pt hj, aR_pt hj, wI_pt hj, aL_pt hj, cl1_s, cl1_n, cl1_i, nul_n, nul_s, nm, dv2, dv3, dv4, dv5, dv8, dv10, dv20, dv40, bo, mI_pt hj, mT_pt hj, mZ_pt, tn0, tn1, tn2, tn3, tn4, tn5, tn6, hx0, hx5, hx9, hx15 i hi, hx18 i hi, hx21 i hi, hx22 i hi, hx24 i hi, c4, c5, hw, c2, c3, ii0, ii1, ii2, ii3, ii4, if_true, if_false, ne_eq, not_false_eq_true, not_true_eq_false, true_and, and_true, false_and, and_false, and_self, true_or, or_true, false_or, or_false, or_self, Nat.reduceAdd, Nat.reduceLT, Nat.reduceLeDiff, Nat.succ_ne_zero, reduceIte, reduceCtorEq]
theorem x_ahead (h : Cx φ T I R z nS nL n) (hi : i < 17) {w v : Nat} (hw : w < 4) (hv : v < 4) : f_X0_isAhead (φ (6 * i + 22)) (Int32.ofNat v) (Int32.ofNat w) (pt φ T I R τ) = some (if ahB I i v w = true then 1 else 0, pt φ T I R τ) := by
  obtain ⟨hj, hl, hx, ⟨hm22, hm23⟩, hr⟩ := h; obtain ⟨hx0, hx1, hx2, hx3, hx4, hx5, hx6, hx7, hx8, hx9, hx10, hx11, hx12, hx13, hx14, hx15, hx16, hx17, hx18, hx19, hx20, hx21, hx22, hx23, hx24, hx25, hx26, hx27⟩ := hx; obtain ⟨⟨g1, g2⟩, r1, r2, r3, r4, r5, r6, r7⟩ := hr
  have c4 := kN_nn (a := w) (by omega)
  have c5 := tnK (k := w) (by omega)
  have d4 := kN_nn (a := v) (by omega)
  have d5 := tnK (k := v) (by omega)
  by_cases c1 : I (6 * i + 23) w < I (6 * i + 23) v
  · have o : ahB I i v w = true := by simp [ahB, c1]
    simp (config := {decide := true}) only [b_X0_isAhead_50, b_X0_isAhead_45, b_X0_isAhead_49, b_X0_isAhead_0, f_X0_isAhead, o, gI_pt hj, gR_pt hj, ob_pt hj, pI_pt hj, pB_pt hj, pR_pt hj, aI_pt hj, aR_pt hj, wI_pt hj, aL_pt hj, cl1_s, cl1_n, cl1_i, nul_n, nul_s, nm, dv2, dv3, dv4, dv5, dv8, dv10, dv20, dv40, bo, mI_pt hj, mT_pt hj, mZ_pt, tn0, tn1, tn2, tn3, tn4, tn5, tn6, hx21 i hi, hx22 i hi, hx23 i hi, hx24 i hi, hx25 i hi, c4, c5, hw, d4, d5, hv, c1, ii0, ii1, ii2, ii3, ii4, if_true, if_false, ne_eq, not_false_eq_true, not_true_eq_false, true_and, and_true, false_and, and_false, and_self, true_or, or_true, false_or, or_false, or_self, Nat.reduceAdd, Nat.reduceLT, Nat.reduceLeDiff, Nat.succ_ne_zero, reduceIte, reduceCtorEq]
  · by_cases c2 : I (6 * i + 23) v = I (6 * i + 23) w
    · have c1' : ¬ I (6 * i + 23) w < I (6 * i + 23) w := fun q => by have := ltT q; omega
      by_cases c3 : I (6 * i + 24) w ≤ I (6 * i + 24) v
      · have o : ahB I i v w = false := by simp [ahB, c1', c2, c3]
        simp (config := {decide := true}) only [b_X0_isAhead_50, b_X0_isAhead_45, b_X0_isAhead_49, b_X0_isAhead_0, f_X0_isAhead, o, gI_pt hj, gR_pt hj, ob_pt hj, pI_pt hj, pB_pt hj, pR_pt hj, aI_pt hj, aR_pt hj, wI_pt hj, aL_pt hj, cl1_s, cl1_n, cl1_i, nul_n, nul_s, nm, dv2, dv3, dv4, dv5, dv8, dv10, dv20, dv40, bo, mI_pt hj, mT_pt hj, mZ_pt, tn0, tn1, tn2, tn3, tn4, tn5, tn6, hx21 i hi, hx22 i hi, hx23 i hi, hx24 i hi, hx25 i hi, c4, c5, hw, d4, d5, hv, c1, c1', c2, c3, ii0, ii1, ii2, ii3, ii4, if_true, if_false, ne_eq, not_false_eq_true, not_true_eq_false, true_and, and_true, false_and, and_false, and_self, true_or, or_true, false_or, or_false, or_self, Nat.reduceAdd, Nat.reduceLT, Nat.reduceLeDiff, Nat.succ_ne_zero, reduceIte, reduceCtorEq]
      · have o : ahB I i v w = true := by unfold ahB; rw [decide_eq_true c2, decide_eq_true c3, Bool.true_and, Bool.or_true]
        simp (config := {decide := true}) only [b_X0_isAhead_50, b_X0_isAhead_45, b_X0_isAhead_49, b_X0_isAhead_0, f_X0_isAhead, o, gI_pt hj, gR_pt hj, ob_pt hj, pI_pt hj, pB_pt hj, pR_pt hj, aI_pt hj, aR_pt hj, wI_pt hj, aL_pt hj, cl1_s, cl1_n, cl1_i, nul_n, nul_s, nm, dv2, dv3, dv4, dv5, dv8, dv10, dv20, dv40, bo, mI_pt hj, mT_pt hj, mZ_pt, tn0, tn1, tn2, tn3, tn4, tn5, tn6, hx21 i hi, hx22 i hi, hx23 i hi, hx24 i hi, hx25 i hi, c4, c5, hw, d4, d5, hv, c1, c1', c2, c3, ii0, ii1, ii2, ii3, ii4, if_true, if_false, ne_eq, not_false_eq_true, not_true_eq_false, true_and, and_true, false_and, and_false, and_self, true_or, or_true, false_or, or_false, or_self, Nat.reduceAdd, Nat.reduceLT, Nat.reduceLeDiff, Nat.succ_ne_zero, reduceIte, reduceCtorEq]
    · have o : ahB I i v w = false := by simp [ahB, c1, c2]
      simp (config := {decide := true}) only [b_X0_isAhead_50, b_X0_isAhead_45, b_X0_isAhead_49, b_X0_isAhead_0, f_X0_isAhead, o, gI_pt hj, gR_pt hj, ob_pt hj, pI_pt hj, pB_pt hj, pR_pt hj, aI_pt hj, aR_pt hj, wI_pt hj, aL_pt hj, cl1_s, cl1_n, cl1_i, nul_n, nul_s, nm, dv2, dv3, dv4, dv5, dv8, dv10, dv20, dv40, bo, mI_pt hj, mT_pt hj, mZ_pt, tn0, tn1, tn2, tn3, tn4, tn5, tn6, hx21 i hi, hx22 i hi, hx23 i hi, hx24 i hi, hx25 i hi, c4, c5, hw, d4, d5, hv, c1, c2, ii0, ii1, ii2, ii3, ii4, if_true, if_false, ne_eq, not_false_eq_true, not_true_eq_false, true_and, and_true, false_and, and_false, and_self, true_or, or_true, false_or, or_false, or_self, Nat.reduceAdd, Nat.reduceLT, Nat.reduceLeDiff, Nat.succ_ne_zero, reduceIte, reduceCtorEq]
theorem x_winner (h : Cx φ T I R z nS nL n) (hi : i < 17) : f_X4_winnerOf (φ 0) (some (φ (6 * i + 19))) (pt φ T I R τ) = some (wnV I i 4, pt φ T I R τ) := by
  have hj := h.hj
  have hx0 := h.m.2.2.2.2.2.2.2
  have T4 := h.t4 hi
  have R15 : R (6 * i + 19) 15 = some (φ (6 * i + 22)) := by
    obtain ⟨hj, hl, hx, ⟨hm22, hm23⟩, hr⟩ := h; obtain ⟨hx0, hx1, hx2, hx3, hx4, hx5, hx6, hx7, hx8, hx9, hx10, hx11, hx12, hx13, hx14, hx15, hx16, hx17, hx18, hx19, hx20, hx21, hx22, hx23, hx24, hx25, hx26, hx27⟩ := hx; obtain ⟨⟨g1, g2⟩, r1, r2, r3, r4, r5, r6, r7⟩ := hr
    exact hx18 i hi
  have T3 : T (6 * i + 22) = (1, 0) := by
    obtain ⟨hj, hl, hx, ⟨hm22, hm23⟩, hr⟩ := h; obtain ⟨hx0, hx1, hx2, hx3, hx4, hx5, hx6, hx7, hx8, hx9, hx10, hx11, hx12, hx13, hx14, hx15, hx16, hx17, hx18, hx19, hx20, hx21, hx22, hx23, hx24, hx25, hx26, hx27⟩ := hx; obtain ⟨⟨g1, g2⟩, r1, r2, r3, r4, r5, r6, r7⟩ := hr
    exact hx21 i hi
  have L := itr_loop (fun n (s' : Int32 × Int32) => l_X4_winnerOf_4 n (φ 0) (some (φ (6 * i + 19))) s'.1 s'.2 (pt φ T I R τ)) (fun k s' => s'.1 = wnV I i k ∧ s'.2 = Int32.ofNat k) 4 (by
    rintro n k ⟨w, x⟩ hk ⟨hw, hx⟩
    simp only at hw hx
    subst hx
    subst hw
    have c1 : ¬ (4 : Int32) ≤ Int32.ofNat k := by rw [show (4 : Int32) = Int32.ofNat 4 from rfl, kN_le (by omega) (by omega)]; omega
    have B := x_mayBuy (τ := τ) h hi hk
    refine ⟨(wnV I i (k + 1), Int32.ofNat (k + 1)), ⟨rfl, rfl⟩, ?_⟩
    by_cases m1 : okB I i k = true
    · rw [if_pos m1] at B
      rcases wn_ok (I := I) (i := i) k with e | ⟨j, j1, e, j2⟩
      · have E : wnV I i (k + 1) = Int32.ofNat k := by rw [wnV, if_pos m1, if_pos e]
        rw [E, e]
        simp (config := {decide := true}) only [l_X4_winnerOf_4, itr_succ, b_X4_winnerOf_4, b_X4_winnerOf_35, b_X4_winnerOf_37, B, gI_pt hj, gR_pt hj, ob_pt hj, pI_pt hj, pB_pt hj, pR_pt hj, aI_pt hj, aR_pt hj, wI_pt hj, aL_pt hj, cl1_s, cl1_n, cl1_i, nul_n, nul_s, nm, dv2, dv3, dv4, dv5, dv8, dv10, dv20, dv40, bo, mI_pt hj, mT_pt hj, mZ_pt, tn0, tn1, tn2, tn3, tn4, tn5, tn6, hx0, c1, kN_s, ii0, ii1, ii2, ii3, ii4, if_true, if_false, ne_eq, not_false_eq_true, not_true_eq_false, true_and, and_true, false_and, and_false, and_self, true_or, or_true, false_or, or_false, or_self, Nat.reduceAdd, Nat.reduceLT, Nat.reduceLeDiff, Nat.succ_ne_zero, reduceIte, reduceCtorEq]
      · have jn := oN_neg (j := j) (by omega)
        have A := x_ahead (τ := τ) h hi (w := j) (v := k) (by omega) hk
        by_cases a1 : ahB I i k j = true
        · have E : wnV I i (k + 1) = Int32.ofNat k := by rw [wnV, if_pos m1, if_neg (by rw [e]; exact jn), e, tnK (by omega), if_pos a1]
          rw [if_pos a1] at A
          rw [E, e]
          simp (config := {decide := true}) only [l_X4_winnerOf_4, itr_succ, b_X4_winnerOf_4, b_X4_winnerOf_35, b_X4_winnerOf_37, B, A, gI_pt hj, gR_pt hj, ob_pt hj, pI_pt hj, pB_pt hj, pR_pt hj, aI_pt hj, aR_pt hj, wI_pt hj, aL_pt hj, cl1_s, cl1_n, cl1_i, nul_n, nul_s, nm, dv2, dv3, dv4, dv5, dv8, dv10, dv20, dv40, bo, mI_pt hj, mT_pt hj, mZ_pt, tn0, tn1, tn2, tn3, tn4, tn5, tn6, hx0, T4, R15, T3, c1, jn, kN_s, ii0, ii1, ii2, ii3, ii4, if_true, if_false, ne_eq, not_false_eq_true, not_true_eq_false, true_and, and_true, false_and, and_false, and_self, true_or, or_true, false_or, or_false, or_self, Nat.reduceAdd, Nat.reduceLT, Nat.reduceLeDiff, Nat.succ_ne_zero, reduceIte, reduceCtorEq]
        · have E : wnV I i (k + 1) = Int32.ofNat j := by rw [wnV, if_pos m1, if_neg (by rw [e]; exact jn), e, tnK (by omega), if_neg a1]
          rw [if_neg a1] at A
          rw [E, e]
          simp (config := {decide := true}) only [l_X4_winnerOf_4, itr_succ, b_X4_winnerOf_4, b_X4_winnerOf_35, b_X4_winnerOf_37, B, A, gI_pt hj, gR_pt hj, ob_pt hj, pI_pt hj, pB_pt hj, pR_pt hj, aI_pt hj, aR_pt hj, wI_pt hj, aL_pt hj, cl1_s, cl1_n, cl1_i, nul_n, nul_s, nm, dv2, dv3, dv4, dv5, dv8, dv10, dv20, dv40, bo, mI_pt hj, mT_pt hj, mZ_pt, tn0, tn1, tn2, tn3, tn4, tn5, tn6, hx0, T4, R15, T3, c1, jn, kN_s, ii0, ii1, ii2, ii3, ii4, if_true, if_false, ne_eq, not_false_eq_true, not_true_eq_false, true_and, and_true, false_and, and_false, and_self, true_or, or_true, false_or, or_false, or_self, Nat.reduceAdd, Nat.reduceLT, Nat.reduceLeDiff, Nat.succ_ne_zero, reduceIte, reduceCtorEq]
    · rw [if_neg m1] at B
      have E : wnV I i (k + 1) = wnV I i k := by rw [wnV, if_neg m1]
      rw [E]
      generalize wnV I i k = w
      simp (config := {decide := true}) only [l_X4_winnerOf_4, itr_succ, b_X4_winnerOf_4, b_X4_winnerOf_35, b_X4_winnerOf_37, B, gI_pt hj, gR_pt hj, ob_pt hj, pI_pt hj, pB_pt hj, pR_pt hj, aI_pt hj, aR_pt hj, wI_pt hj, aL_pt hj, cl1_s, cl1_n, cl1_i, nul_n, nul_s, nm, dv2, dv3, dv4, dv5, dv8, dv10, dv20, dv40, bo, mI_pt hj, mT_pt hj, mZ_pt, tn0, tn1, tn2, tn3, tn4, tn5, tn6, hx0, c1, kN_s, ii0, ii1, ii2, ii3, ii4, if_true, if_false, ne_eq, not_false_eq_true, not_true_eq_false, true_and, and_true, false_and, and_false, and_self, true_or, or_true, false_or, or_false, or_self, Nat.reduceAdd, Nat.reduceLT, Nat.reduceLeDiff, Nat.succ_ne_zero, reduceIte, reduceCtorEq])
  obtain ⟨⟨w, x⟩, ⟨h1, h2⟩, h5⟩ := L 4 0 40 (-1, 0) (by omega) (by omega) ⟨rfl, rfl⟩
  simp only at h1 h2
  subst h1 h2
  rw [f_X4_winnerOf, b_X4_winnerOf_0]
  refine h5.trans ?_
  generalize wnV I i 4 = w
  show l_X4_winnerOf_4 36 (φ 0) (some (φ (6 * i + 19))) w 4 (pt φ T I R τ) = some (w, pt φ T I R τ)
  simp (config := {decide := true}) only [l_X4_winnerOf_4, itr_36, b_X4_winnerOf_4, ii0, ii1, ii2, ii3, ii4, if_true, if_false, ne_eq, not_false_eq_true, not_true_eq_false, true_and, and_true, false_and, and_false, and_self, true_or, or_true, false_or, or_false, or_self, Nat.reduceAdd, Nat.reduceLT, Nat.reduceLeDiff, Nat.succ_ne_zero, reduceIte, reduceCtorEq]
theorem x_price (h : Cx φ T I R z nS nL n) (hi : i < 17) {j : Nat} (hj4 : j < 4) : f_X4_priceFor (φ 0) (some (φ (6 * i + 19))) (Int32.ofNat j) (pt φ T I R τ) = some (prV I i j, pt φ T I R τ) := by
  have hj := h.hj
  have hx0 := h.m.2.2.2.2.2.2.2
  have T4 := h.t4 hi
  obtain ⟨R15, T3, R2, T23⟩ : R (6 * i + 19) 15 = some (φ (6 * i + 22)) ∧ T (6 * i + 22) = (1, 0) ∧ R (6 * i + 22) 2 = some (φ (6 * i + 23)) ∧ T (6 * i + 23) = (100, 4) := by
    obtain ⟨hj, hl, hx, ⟨hm22, hm23⟩, hr⟩ := h; obtain ⟨hx0, hx1, hx2, hx3, hx4, hx5, hx6, hx7, hx8, hx9, hx10, hx11, hx12, hx13, hx14, hx15, hx16, hx17, hx18, hx19, hx20, hx21, hx22, hx23, hx24, hx25, hx26, hx27⟩ := hx; obtain ⟨⟨g1, g2⟩, r1, r2, r3, r4, r5, r6, r7⟩ := hr
    exact ⟨hx18 i hi, hx21 i hi, hx22 i hi, hx24 i hi⟩
  have L := itr_loop (fun n (s' : Int32 × Int32) => l_X4_priceFor_5 n (φ 0) (some (φ (6 * i + 19))) (Int32.ofNat j) s'.1 s'.2 (pt φ T I R τ)) (fun k s' => s'.1 = rvV I i j k ∧ s'.2 = Int32.ofNat k) 4 (by
    rintro n k ⟨v, x⟩ hk ⟨hw, hx⟩
    simp only at hw hx
    subst hx hw
    have c1 : ¬ (4 : Int32) ≤ Int32.ofNat k := by rw [show (4 : Int32) = Int32.ofNat 4 from rfl, kN_le (by omega) (by omega)]; omega
    have c4 := kN_nn (a := k) (by omega)
    have c5 := tnK (k := k) (by omega)
    refine ⟨(rvV I i j (k + 1), Int32.ofNat (k + 1)), ⟨rfl, rfl⟩, ?_⟩
    by_cases kj : k = j
    · have E : rvV I i j (k + 1) = rvV I i j k := by rw [rvV, if_pos kj]
      rw [E]
      generalize rvV I i j k = v
      subst kj
      simp (config := {decide := true}) only [l_X4_priceFor_5, itr_succ, b_X4_priceFor_5, b_X4_priceFor_42, c1, nm, kN_s, ii0, ii1, ii2, ii3, ii4, if_true, if_false, ne_eq, not_false_eq_true, not_true_eq_false, true_and, and_true, false_and, and_false, and_self, true_or, or_true, false_or, or_false, or_self, Nat.reduceAdd, Nat.reduceLT, Nat.reduceLeDiff, Nat.succ_ne_zero, reduceIte, reduceCtorEq]
    · have c2 : ¬ Int32.ofNat k = Int32.ofNat j := by rw [kN_eq (by omega) (by omega)]; exact kj
      have B := x_mayBuy (τ := τ) h hi hk
      by_cases m1 : okB I i k = true
      · rw [if_pos m1] at B
        have E : rvV I i j (k + 1) = if rvV I i j k < I (6 * i + 23) k then I (6 * i + 23) k else rvV I i j k := by rw [rvV, if_neg kj, if_pos m1]
        rw [E]
        generalize rvV I i j k = v
        simp (config := {decide := true}) only [l_X4_priceFor_5, itr_succ, b_X4_priceFor_5, b_X4_priceFor_42, B, gI_pt hj, gR_pt hj, ob_pt hj, pI_pt hj, pB_pt hj, pR_pt hj, aI_pt hj, aR_pt hj, wI_pt hj, aL_pt hj, cl1_s, cl1_n, cl1_i, nul_n, nul_s, nm, dv2, dv3, dv4, dv5, dv8, dv10, dv20, dv40, bo, mI_pt hj, mT_pt hj, mZ_pt, tn0, tn1, tn2, tn3, tn4, tn5, tn6, hx0, T4, R15, T3, R2, T23, c1, c2, c4, c5, hk, kN_s, ii0, ii1, ii2, ii3, ii4, if_true, if_false, ne_eq, not_false_eq_true, not_true_eq_false, true_and, and_true, false_and, and_false, and_self, true_or, or_true, false_or, or_false, or_self, Nat.reduceAdd, Nat.reduceLT, Nat.reduceLeDiff, Nat.succ_ne_zero, reduceIte, reduceCtorEq]
      · rw [if_neg m1] at B
        have E : rvV I i j (k + 1) = rvV I i j k := by rw [rvV, if_neg kj, if_neg m1]
        rw [E]
        generalize rvV I i j k = v
        simp (config := {decide := true}) only [l_X4_priceFor_5, itr_succ, b_X4_priceFor_5, b_X4_priceFor_42, B, gI_pt hj, gR_pt hj, ob_pt hj, pI_pt hj, pB_pt hj, pR_pt hj, aI_pt hj, aR_pt hj, wI_pt hj, aL_pt hj, cl1_s, cl1_n, cl1_i, nul_n, nul_s, nm, dv2, dv3, dv4, dv5, dv8, dv10, dv20, dv40, bo, mI_pt hj, mT_pt hj, mZ_pt, tn0, tn1, tn2, tn3, tn4, tn5, tn6, hx0, c1, c2, kN_s, ii0, ii1, ii2, ii3, ii4, if_true, if_false, ne_eq, not_false_eq_true, not_true_eq_false, true_and, and_true, false_and, and_false, and_self, true_or, or_true, false_or, or_false, or_self, Nat.reduceAdd, Nat.reduceLT, Nat.reduceLeDiff, Nat.succ_ne_zero, reduceIte, reduceCtorEq])
  obtain ⟨⟨v, x⟩, ⟨h1, h2⟩, h5⟩ := L 4 0 40 (-1, 0) (by omega) (by omega) ⟨rfl, rfl⟩
  simp only at h1 h2
  subst h1 h2
  rw [f_X4_priceFor, b_X4_priceFor_0]
  refine h5.trans ?_
  unfold prV
  generalize rvV I i j 4 = v
  show l_X4_priceFor_5 36 (φ 0) (some (φ (6 * i + 19))) (Int32.ofNat j) v 4 (pt φ T I R τ) = _
  have c4 := kN_nn (a := j) (by omega)
  have c5 := tnK (k := j) (by omega)
  by_cases c : v = -1
  · simp (config := {decide := true}) only [l_X4_priceFor_5, itr_36, b_X4_priceFor_5, b_X4_priceFor_78, gI_pt hj, gR_pt hj, ob_pt hj, pI_pt hj, pB_pt hj, pR_pt hj, aI_pt hj, aR_pt hj, wI_pt hj, aL_pt hj, cl1_s, cl1_n, cl1_i, nul_n, nul_s, nm, dv2, dv3, dv4, dv5, dv8, dv10, dv20, dv40, bo, mI_pt hj, mT_pt hj, mZ_pt, tn0, tn1, tn2, tn3, tn4, tn5, tn6, hx0, T4, R15, T3, c, ii0, ii1, ii2, ii3, ii4, if_true, if_false, ne_eq, not_false_eq_true, not_true_eq_false, true_and, and_true, false_and, and_false, and_self, true_or, or_true, false_or, or_false, or_self, Nat.reduceAdd, Nat.reduceLT, Nat.reduceLeDiff, Nat.succ_ne_zero, reduceIte, reduceCtorEq]
  · simp (config := {decide := true}) only [l_X4_priceFor_5, itr_36, b_X4_priceFor_5, b_X4_priceFor_78, gI_pt hj, gR_pt hj, ob_pt hj, pI_pt hj, pB_pt hj, pR_pt hj, aI_pt hj, aR_pt hj, wI_pt hj, aL_pt hj, cl1_s, cl1_n, cl1_i, nul_n, nul_s, nm, dv2, dv3, dv4, dv5, dv8, dv10, dv20, dv40, bo, mI_pt hj, mT_pt hj, mZ_pt, tn0, tn1, tn2, tn3, tn4, tn5, tn6, hx0, T4, R15, T3, R2, T23, c, c4, c5, hj4, ii0, ii1, ii2, ii3, ii4, if_true, if_false, ne_eq, not_false_eq_true, not_true_eq_false, true_and, and_true, false_and, and_false, and_self, true_or, or_true, false_or, or_false, or_self, Nat.reduceAdd, Nat.reduceLT, Nat.reduceLeDiff, Nat.succ_ne_zero, reduceIte, reduceCtorEq]
theorem x_wouldPay (h : Cx φ T I R (mZ τ) nS nL n) (hp : InN p nL) (hi : p.toNatClampNeg = i) (ho : ¬ I (6 * i + 22) 0 ≤ 0) : f_X4_wouldPay (φ 0) p (pt φ T I R τ) = some (WV I i, pt φ T I R τ) := by
  have iL : i < nL := hi ▸ (idx h.m.2.2.2.2.1 hp.1 hp.2).2.2.2.2
  have hN := h.m.2.2.2.2.1
  have A := x_lotAt h hp hi
  have W := x_winner (τ := τ) h (show i < 17 by omega)
  have hj := h.hj
  have hx0 := h.m.2.2.2.2.2.2.2
  obtain ⟨T4, R15, T3⟩ : T (6 * i + 19) = (2, 0) ∧ R (6 * i + 19) 15 = some (φ (6 * i + 22)) ∧ T (6 * i + 22) = (1, 0) := by
    obtain ⟨hj, hl, hx, ⟨hm22, hm23⟩, hr⟩ := h; obtain ⟨hx0, hx1, hx2, hx3, hx4, hx5, hx6, hx7, hx8, hx9, hx10, hx11, hx12, hx13, hx14, hx15, hx16, hx17, hx18, hx19, hx20, hx21, hx22, hx23, hx24, hx25, hx26, hx27⟩ := hx; obtain ⟨⟨g1, g2⟩, r1, r2, r3, r4, r5, r6, r7⟩ := hr
    exact ⟨hx15 i (by omega), hx18 i (by omega), hx21 i (by omega)⟩
  have O := x_isOpen (I := I) (R := R) (τ := τ) hj T3
  rw [if_neg ho] at O
  rcases wn_ok (I := I) (i := i) 4 with e | ⟨j, j4, e, -⟩
  · have V : WV I i = 0 := by rw [WV, if_pos e]
    rw [e] at W
    simp (config := {decide := true}) only [b_X4_wouldPay_41, b_X4_wouldPay_0, f_X4_wouldPay, A, O, W, x_st1, V, gI_pt hj, gR_pt hj, ob_pt hj, pI_pt hj, pB_pt hj, pR_pt hj, aI_pt hj, aR_pt hj, wI_pt hj, aL_pt hj, cl1_s, cl1_n, cl1_i, nul_n, nul_s, nm, dv2, dv3, dv4, dv5, dv8, dv10, dv20, dv40, bo, mI_pt hj, mT_pt hj, mZ_pt, tn0, tn1, tn2, tn3, tn4, tn5, tn6, hx0, T4, R15, T3, ii0, ii1, ii2, ii3, ii4, if_true, if_false, ne_eq, not_false_eq_true, not_true_eq_false, true_and, and_true, false_and, and_false, and_self, true_or, or_true, false_or, or_false, or_self, Nat.reduceAdd, Nat.reduceLT, Nat.reduceLeDiff, Nat.succ_ne_zero, reduceIte, reduceCtorEq]
  · have jn := oN_neg (j := j) (by omega)
    have P := x_price (τ := τ) h (show i < 17 by omega) j4
    have V : WV I i = prV I i j * I (6 * i + 19) 1 / 10 := by rw [WV, if_neg (by rw [e]; exact jn), e, tnK (by omega)]
    rw [e] at W
    have C := x_cost (I := I) (R := R) (τ := τ) hj T4 (prV I i j)
    simp (config := {decide := true}) only [b_X4_wouldPay_41, b_X4_wouldPay_0, f_X4_wouldPay, A, O, W, P, C, x_st1, V, jn, gI_pt hj, gR_pt hj, ob_pt hj, pI_pt hj, pB_pt hj, pR_pt hj, aI_pt hj, aR_pt hj, wI_pt hj, aL_pt hj, cl1_s, cl1_n, cl1_i, nul_n, nul_s, nm, dv2, dv3, dv4, dv5, dv8, dv10, dv20, dv40, bo, mI_pt hj, mT_pt hj, mZ_pt, tn0, tn1, tn2, tn3, tn4, tn5, tn6, hx0, T4, R15, T3, ii0, ii1, ii2, ii3, ii4, if_true, if_false, ne_eq, not_false_eq_true, not_true_eq_false, true_and, and_true, false_and, and_false, and_self, true_or, or_true, false_or, or_false, or_self, Nat.reduceAdd, Nat.reduceLT, Nat.reduceLeDiff, Nat.succ_ne_zero, reduceIte, reduceCtorEq]
theorem x_close (h : Cx φ T I R z nS nL n) (hi : i < 17) : ∃ J', f_X0_close (φ (6 * i + 22)) (pt φ T J R τ) = some ((), pt φ T J' R τ) ∧ (∀ v, v ≠ 6 * i + 22 → v ≠ 6 * i + 23 → J' v = J v) ∧ J' (6 * i + 22) 0 = 0 ∧ (∀ k, k ≠ 0 → J' (6 * i + 22) k = J (6 * i + 22) k) ∧ (∀ k, k < 4 → J' (6 * i + 23) k = 0) := by
  obtain ⟨hj, hl, hx, ⟨hm22, hm23⟩, hr⟩ := h; obtain ⟨hx0, hx1, hx2, hx3, hx4, hx5, hx6, hx7, hx8, hx9, hx10, hx11, hx12, hx13, hx14, hx15, hx16, hx17, hx18, hx19, hx20, hx21, hx22, hx23, hx24, hx25, hx26, hx27⟩ := hx; obtain ⟨⟨g1, g2⟩, r1, r2, r3, r4, r5, r6, r7⟩ := hr
  have n1 : 6 * i + 22 ≠ 6 * i + 23 := by omega
  refine ⟨up2 (up2 (up2 (up2 (up2 J (6 * i + 22) 0 0) (6 * i + 23) 0 0) (6 * i + 23) 1 0) (6 * i + 23) 2 0) (6 * i + 23) 3 0, ?_, fun v h1 h2 => by simp (disch := omega) only [up2_row], ?_, fun k hk => ?_, fun k hk => ?_⟩
  · simp (config := {decide := true}) only [b_X0_close_7, b_X0_close_0, f_X0_close, l_X0_close_7, itr_40, itr_39, itr_38, itr_37, itr_36, itr_35, gI_pt hj, gR_pt hj, ob_pt hj, pI_pt hj, pB_pt hj, pR_pt hj, aI_pt hj, aR_pt hj, wI_pt hj, aL_pt hj, cl1_s, cl1_n, cl1_i, nul_n, nul_s, nm, dv2, dv3, dv4, dv5, dv8, dv10, dv20, dv40, bo, mI_pt hj, mT_pt hj, mZ_pt, tn0, tn1, tn2, tn3, tn4, tn5, tn6, hx21 i hi, hx22 i hi, hx24 i hi, ii0, ii1, ii2, ii3, ii4, if_true, if_false, ne_eq, not_false_eq_true, not_true_eq_false, true_and, and_true, false_and, and_false, and_self, true_or, or_true, false_or, or_false, or_self, Nat.reduceAdd, Nat.reduceLT, Nat.reduceLeDiff, Nat.succ_ne_zero, reduceIte, reduceCtorEq]
  · rw [up2_row n1, up2_row n1, up2_row n1, up2_row n1, up2_at]
  · rw [up2_row n1, up2_row n1, up2_row n1, up2_row n1, up2_k hk]
  · rcases (show k = 0 ∨ k = 1 ∨ k = 2 ∨ k = 3 by omega) with rfl | rfl | rfl | rfl <;> simp (config := {decide := true}) only [up2, and_false, and_true, if_false, if_true]
theorem x_vanish (h : Cx φ T I R z nS nL n) (hi : i < 17) : ∃ J', f_X1_vanish (φ (6 * i + 19)) (pt φ T J R τ) = some ((), pt φ T J' R τ) ∧ (∀ v, v ≠ 6 * i + 19 → v ≠ 6 * i + 20 → J' v = J v) ∧ J' (6 * i + 19) 0 = 3 ∧ J' (6 * i + 19) 1 = 0 ∧ (∀ k, k ≠ 0 → k ≠ 1 → J' (6 * i + 19) k = J (6 * i + 19) k) ∧ (∀ k, k < 4 → J' (6 * i + 20) k = 0) := by
  obtain ⟨hj, hl, hx, ⟨hm22, hm23⟩, hr⟩ := h; obtain ⟨hx0, hx1, hx2, hx3, hx4, hx5, hx6, hx7, hx8, hx9, hx10, hx11, hx12, hx13, hx14, hx15, hx16, hx17, hx18, hx19, hx20, hx21, hx22, hx23, hx24, hx25, hx26, hx27⟩ := hx; obtain ⟨⟨g1, g2⟩, r1, r2, r3, r4, r5, r6, r7⟩ := hr
  have n1 : 6 * i + 19 ≠ 6 * i + 20 := by omega
  refine ⟨up2 (up2 (up2 (up2 (up2 (up2 J (6 * i + 19) 0 3) (6 * i + 19) 1 0) (6 * i + 20) 0 0) (6 * i + 20) 1 0) (6 * i + 20) 2 0) (6 * i + 20) 3 0, ?_, fun v h1 h2 => by simp (disch := omega) only [up2_row], ?_, ?_, fun k hk hk1 => ?_, fun k hk => ?_⟩
  · simp (config := {decide := true}) only [b_X1_vanish_12, b_X1_vanish_0, f_X1_vanish, l_X1_vanish_12, itr_40, itr_39, itr_38, itr_37, itr_36, itr_35, gI_pt hj, gR_pt hj, ob_pt hj, pI_pt hj, pB_pt hj, pR_pt hj, aI_pt hj, aR_pt hj, wI_pt hj, aL_pt hj, cl1_s, cl1_n, cl1_i, nul_n, nul_s, nm, dv2, dv3, dv4, dv5, dv8, dv10, dv20, dv40, bo, mI_pt hj, mT_pt hj, mZ_pt, tn0, tn1, tn2, tn3, tn4, tn5, tn6, hx15 i hi, hx16 i hi, hx19 i hi, ii0, ii1, ii2, ii3, ii4, if_true, if_false, ne_eq, not_false_eq_true, not_true_eq_false, true_and, and_true, false_and, and_false, and_self, true_or, or_true, false_or, or_false, or_self, Nat.reduceAdd, Nat.reduceLT, Nat.reduceLeDiff, Nat.succ_ne_zero, reduceIte, reduceCtorEq]
  · rw [up2_row n1, up2_row n1, up2_row n1, up2_row n1, up2_k (by decide), up2_at]
  · rw [up2_row n1, up2_row n1, up2_row n1, up2_row n1, up2_at]
  · rw [up2_row n1, up2_row n1, up2_row n1, up2_row n1, up2_k hk1, up2_k hk]
  · rcases (show k = 0 ∨ k = 1 ∨ k = 2 ∨ k = 3 by omega) with rfl | rfl | rfl | rfl <;> simp (config := {decide := true}) only [up2, and_false, and_true, if_false, if_true]
def cnB (f : Nat → Int32) : Nat → Nat
  | 0 => 0
  | k + 1 => cnB f k + if f k ≤ 0 then 0 else 1
variable {pr : Int32}
theorem x_place (h : Cx φ T I R z nS nL n) (hi : i < 17) (hw : w < 4) : f_X0_place (φ (6 * i + 22)) (Int32.ofNat w) pr (pt φ T J R τ) = some ((), pt φ T (up2 (up2 (up2 J (6 * i + 22) 1 (J (6 * i + 22) 1 + 1)) (6 * i + 23) w pr) (6 * i + 24) w (J (6 * i + 22) 1 + 1)) R τ) := by
  obtain ⟨hj, hl, hx, ⟨hm22, hm23⟩, hr⟩ := h; obtain ⟨hx0, hx1, hx2, hx3, hx4, hx5, hx6, hx7, hx8, hx9, hx10, hx11, hx12, hx13, hx14, hx15, hx16, hx17, hx18, hx19, hx20, hx21, hx22, hx23, hx24, hx25, hx26, hx27⟩ := hx; obtain ⟨⟨g1, g2⟩, r1, r2, r3, r4, r5, r6, r7⟩ := hr
  have c4 := kN_nn (a := w) (by omega)
  have c5 := tnK (k := w) (by omega)
  have n1 : 6 * i + 22 ≠ 6 * i + 23 := by omega
  simp (config := {decide := true}) only [b_X0_place_0, f_X0_place, gI_pt hj, gR_pt hj, ob_pt hj, pI_pt hj, pB_pt hj, pR_pt hj, aI_pt hj, aR_pt hj, wI_pt hj, aL_pt hj, cl1_s, cl1_n, cl1_i, nul_n, nul_s, nm, dv2, dv3, dv4, dv5, dv8, dv10, dv20, dv40, bo, mI_pt hj, mT_pt hj, mZ_pt, tn0, tn1, tn2, tn3, tn4, tn5, tn6, hx21 i hi, hx22 i hi, hx23 i hi, hx24 i hi, hx25 i hi, c4, c5, hw, up2_row n1, up2_at, ii0, ii1, ii2, ii3, ii4, if_true, if_false, ne_eq, not_false_eq_true, not_true_eq_false, true_and, and_true, false_and, and_false, and_self, true_or, or_true, false_or, or_false, or_self, Nat.reduceAdd, Nat.reduceLT, Nat.reduceLeDiff, Nat.succ_ne_zero, reduceIte, reduceCtorEq]
theorem x_countB (h : Cx φ T I R z nS nL n) (hi : i < 17) : f_X0_countBids (φ (6 * i + 22)) (pt φ T J R τ) = some (Int32.ofNat (cnB (J (6 * i + 23)) 4), pt φ T J R τ) := by
  have hj := h.hj
  have L := itr_loop (fun n (s' : Int32 × Int32) => l_X0_countBids_4 n (φ (6 * i + 22)) s'.1 s'.2 (pt φ T J R τ)) (fun k s' => s'.1 = Int32.ofNat (cnB (J (6 * i + 23)) k) ∧ s'.2 = Int32.ofNat k) 4 (by
    rintro n k ⟨acc, y⟩ hk ⟨h1, h2⟩
    simp only at h1 h2
    subst h1 h2
    refine ⟨(Int32.ofNat (cnB (J (6 * i + 23)) (k + 1)), Int32.ofNat (k + 1)), ⟨rfl, rfl⟩, ?_⟩
    have B := x_hasBid (J := J) (τ := τ) h hi hk
    have c1 : ¬ Int32.ofNat 4 ≤ Int32.ofNat k := by rw [kN_le (by omega) (by omega)]; omega
    obtain ⟨hj, hl, hx, ⟨hm22, hm23⟩, hr⟩ := h; obtain ⟨hx0, hx1, hx2, hx3, hx4, hx5, hx6, hx7, hx8, hx9, hx10, hx11, hx12, hx13, hx14, hx15, hx16, hx17, hx18, hx19, hx20, hx21, hx22, hx23, hx24, hx25, hx26, hx27⟩ := hx; obtain ⟨⟨g1, g2⟩, r1, r2, r3, r4, r5, r6, r7⟩ := hr
    by_cases c : J (6 * i + 23) k ≤ 0
    · rw [if_pos c] at B
      have e1 : cnB (J (6 * i + 23)) (k + 1) = cnB (J (6 * i + 23)) k := by simp only [cnB, c, if_true, Nat.add_zero]
      rw [e1]
      generalize cnB (J (6 * i + 23)) k = cc
      simp (config := {decide := true}) only [l_X0_countBids_4, itr_succ, b_X0_countBids_4, b_X0_countBids_24, B, gI_pt hj, gR_pt hj, ob_pt hj, pI_pt hj, pB_pt hj, pR_pt hj, aI_pt hj, aR_pt hj, wI_pt hj, aL_pt hj, cl1_s, cl1_n, cl1_i, nul_n, nul_s, nm, dv2, dv3, dv4, dv5, dv8, dv10, dv20, dv40, bo, mI_pt hj, mT_pt hj, mZ_pt, tn0, tn1, tn2, tn3, tn4, tn5, tn6, hx21 i hi, hx22 i hi, hx24 i hi, c1, kN_s, ii0, ii1, ii2, ii3, ii4, if_true, if_false, ne_eq, not_false_eq_true, not_true_eq_false, true_and, and_true, false_and, and_false, and_self, true_or, or_true, false_or, or_false, or_self, Nat.reduceAdd, Nat.reduceLT, Nat.reduceLeDiff, Nat.succ_ne_zero, reduceIte, reduceCtorEq]
    · rw [if_neg c] at B
      have e1 : cnB (J (6 * i + 23)) (k + 1) = cnB (J (6 * i + 23)) k + 1 := by simp only [cnB, c, if_false]
      rw [e1]
      generalize cnB (J (6 * i + 23)) k = cc
      simp (config := {decide := true}) only [l_X0_countBids_4, itr_succ, b_X0_countBids_4, b_X0_countBids_24, B, gI_pt hj, gR_pt hj, ob_pt hj, pI_pt hj, pB_pt hj, pR_pt hj, aI_pt hj, aR_pt hj, wI_pt hj, aL_pt hj, cl1_s, cl1_n, cl1_i, nul_n, nul_s, nm, dv2, dv3, dv4, dv5, dv8, dv10, dv20, dv40, bo, mI_pt hj, mT_pt hj, mZ_pt, tn0, tn1, tn2, tn3, tn4, tn5, tn6, hx21 i hi, hx22 i hi, hx24 i hi, c1, kN_s, ii0, ii1, ii2, ii3, ii4, if_true, if_false, ne_eq, not_false_eq_true, not_true_eq_false, true_and, and_true, false_and, and_false, and_self, true_or, or_true, false_or, or_false, or_self, Nat.reduceAdd, Nat.reduceLT, Nat.reduceLeDiff, Nat.succ_ne_zero, reduceIte, reduceCtorEq])
  obtain ⟨⟨acc, y⟩, ⟨h1, h2⟩, h5⟩ := L 4 0 40 (0, 0) (by omega) (by omega) ⟨by simp only [cnB]; rfl, rfl⟩
  simp only at h1 h2
  subst h1 h2
  generalize cnB (J (6 * i + 23)) 4 = cc at h5 ⊢
  have E : l_X0_countBids_4 36 (φ (6 * i + 22)) (Int32.ofNat cc) 4 (pt φ T J R τ) = some (Int32.ofNat cc, pt φ T J R τ) := by
    obtain ⟨hj, hl, hx, ⟨hm22, hm23⟩, hr⟩ := h; obtain ⟨hx0, hx1, hx2, hx3, hx4, hx5, hx6, hx7, hx8, hx9, hx10, hx11, hx12, hx13, hx14, hx15, hx16, hx17, hx18, hx19, hx20, hx21, hx22, hx23, hx24, hx25, hx26, hx27⟩ := hx; obtain ⟨⟨g1, g2⟩, r1, r2, r3, r4, r5, r6, r7⟩ := hr
    have t1 : (T (6 * i + 22)).1 = 0 + 1 := by rw [hx21 i hi]
    have t2 : 100 ≤ (T (6 * i + 23)).1 ∧ (T (6 * i + 23)).1 < 104 := by rw [hx24 i hi]; exact ⟨by omega, by omega⟩
    have t3 : Int32.ofNat (T (6 * i + 23)).2 ≤ 4 := by rw [hx24 i hi]; decide
    rw [l_X0_countBids_4, itr_36, b_X0_countBids_4, gR_pt hj t1, hx22 i hi, aL_pt hj t2, if_pos t3]
  exact h5.trans E
end MK
