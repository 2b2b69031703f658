/-! MIX: units are taken -/
section MX
variable {φ : Nat → Nat} {T : Nat → Nat × Nat} {I : Nat → Nat → Int32} {R : Nat → Nat → Option Nat} {τ : Mem} {e0 nS nL cS cL n z : Nat} {mx : Nat → Int32} {cB : Nat → Nat} {bl : Nat → List (Nat × Int32)}
variable {mi a b i j k s c g : Nat} {J J' : Nat → Nat → Int32} {R' : Nat → Nat → Option Nat} {p q r d cn : Int32} {τ0 τ1 : Mem} {t u : Nat → Int32}
def Tk (u : Nat → Int32) (c : Int32) (t : Nat → Int32) : Prop := mn (u 0) c = t 0 ∧ mn (u 1) (c - t 0) = t 1 ∧ mn (u 2) (c - t 0 - t 1) = t 2 ∧ mn (u 3) (c - t 0 - t 1 - t 2) = t 3
theorem tk_ex (u : Nat → Int32) (c : Int32) : ∃ t, Tk u c t := by
  refine ⟨fun k => if k = 0 then mn (u 0) c else if k = 1 then mn (u 1) (c - mn (u 0) c) else if k = 2 then mn (u 2) (c - mn (u 0) c - mn (u 1) (c - mn (u 0) c)) else mn (u 3) (c - mn (u 0) c - mn (u 1) (c - mn (u 0) c) - mn (u 2) (c - mn (u 0) c - mn (u 1) (c - mn (u 0) c))), rfl, rfl, rfl, rfl⟩
theorem tk_b (h : Tk u cn t) (h0 : 0 ≤ (u 0).toInt) (h1 : 0 ≤ (u 1).toInt) (h2 : 0 ≤ (u 2).toInt) (h3 : 0 ≤ (u 3).toInt) (hs : (u 0).toInt + (u 1).toInt + (u 2).toInt + (u 3).toInt ≤ 5760) (c0 : 0 ≤ cn.toInt) (c1 : cn.toInt ≤ (u 0).toInt + (u 1).toInt + (u 2).toInt + (u 3).toInt) :
    (∀ k, k < 4 → 0 ≤ (t k).toInt ∧ (t k).toInt ≤ (u k).toInt) ∧ (t 0).toInt + (t 1).toInt + (t 2).toInt + (t 3).toInt = cn.toInt ∧ (∀ k, k < 4 → (u k - t k).toInt = (u k).toInt - (t k).toInt) := by
  obtain ⟨e0, e1, e2, e3⟩ := h
  have b0 := mn_b (a := u 0) (b := cn)
  rw [e0] at b0
  have s1 : (cn - t 0).toInt = cn.toInt - (t 0).toInt := tSub (by omega) (by omega)
  have b1 := mn_b (a := u 1) (b := cn - t 0)
  rw [e1] at b1
  have s2 : (cn - t 0 - t 1).toInt = cn.toInt - (t 0).toInt - (t 1).toInt := by rw [tSub (by omega) (by omega), s1]
  have b2 := mn_b (a := u 2) (b := cn - t 0 - t 1)
  rw [e2] at b2
  have s3 : (cn - t 0 - t 1 - t 2).toInt = cn.toInt - (t 0).toInt - (t 1).toInt - (t 2).toInt := by rw [tSub (by omega) (by omega), s2]
  have b3 := mn_b (a := u 3) (b := cn - t 0 - t 1 - t 2)
  rw [e3] at b3
  have g : ∀ k, k < 4 → 0 ≤ (t k).toInt ∧ (t k).toInt ≤ (u k).toInt := by
    intro k hk
    rcases (show k = 0 ∨ k = 1 ∨ k = 2 ∨ k = 3 by omega) with rfl | rfl | rfl | rfl <;> omega
  refine ⟨g, by omega, fun k hk => ?_⟩
  have := g k hk
  exact tSub (by omega) (by rcases (show k = 0 ∨ k = 1 ∨ k = 2 ∨ k = 3 by omega) with rfl | rfl | rfl | rfl <;> omega)
theorem tk_sum (h : Tk u cn t) (h0 : 0 ≤ (u 0).toInt) (h1 : 0 ≤ (u 1).toInt) (h2 : 0 ≤ (u 2).toInt) (h3 : 0 ≤ (u 3).toInt) (hs : (u 0).toInt + (u 1).toInt + (u 2).toInt + (u 3).toInt ≤ 5760) (c0 : 0 ≤ cn.toInt) (c1 : cn.toInt ≤ (u 0).toInt + (u 1).toInt + (u 2).toInt + (u 3).toInt) (hd : d = u 0 + u 1 + u 2 + u 3) (hdT : d.toInt = (u 0).toInt + (u 1).toInt + (u 2).toInt + (u 3).toInt) :
    (u 0 - t 0) + (u 1 - t 1) + (u 2 - t 2) + (u 3 - t 3) = d - cn := by
  obtain ⟨g, sm, df⟩ := tk_b h h0 h1 h2 h3 hs c0 c1
  have g0 := g 0 (by omega)
  have g1 := g 1 (by omega)
  have g2 := g 2 (by omega)
  have g3 := g 3 (by omega)
  have d0 := df 0 (by omega)
  have d1 := df 1 (by omega)
  have d2 := df 2 (by omega)
  have d3 := df 3 (by omega)
  have a1 : (u 0 - t 0 + (u 1 - t 1)).toInt = (u 0).toInt - (t 0).toInt + ((u 1).toInt - (t 1).toInt) := by rw [tAdd (by omega) (by omega), d0, d1]
  have a2 : (u 0 - t 0 + (u 1 - t 1) + (u 2 - t 2)).toInt = (u 0).toInt - (t 0).toInt + ((u 1).toInt - (t 1).toInt) + ((u 2).toInt - (t 2).toInt) := by rw [tAdd (by omega) (by omega), a1, d2]
  refine Int32.toInt_inj.mp ?_
  rw [tAdd (by omega) (by omega), a2, d3, tSub (by omega) (by omega), hdT]
  omega
theorem x_take (h : Cx φ T I R z e0 nS nL cS cL mx cB bl n) (ha : a < 17) (hb : b < 17) (hne : a ≠ b) (ht : Tk (J (6 * b + 20)) cn t) : ∃ JX, f_X1_takeUnits (φ (6 * a + 19)) (some (φ (6 * b + 19))) cn (pt φ T J R τ) = some ((), pt φ T JX R τ) ∧ (∀ v, v ≠ 6 * a + 19 → v ≠ 6 * a + 20 → v ≠ 6 * b + 19 → v ≠ 6 * b + 20 → JX v = J v) ∧ JX (6 * a + 19) 1 = J (6 * a + 19) 1 + cn ∧ (∀ k, k ≠ 1 → JX (6 * a + 19) k = J (6 * a + 19) k) ∧ (∀ k, k < 4 → JX (6 * a + 20) k = J (6 * a + 20) k + t k) ∧
    ((0 < J (6 * b + 19) 1 - cn ∧ JX (6 * b + 19) 1 = J (6 * b + 19) 1 - cn ∧ JX (6 * b + 19) 2 = mn (J (6 * b + 19) 1 - cn) (J (6 * b + 19) 2) ∧ (∀ k, k ≠ 1 → k ≠ 2 → JX (6 * b + 19) k = J (6 * b + 19) k) ∧ (∀ k, k < 4 → JX (6 * b + 20) k = J (6 * b + 20) k - t k)) ∨
     (¬ 0 < J (6 * b + 19) 1 - cn ∧ JX (6 * b + 19) 0 = 3 ∧ JX (6 * b + 19) 1 = 0 ∧ JX (6 * b + 19) 2 = mn (J (6 * b + 19) 1 - cn) (J (6 * b + 19) 2) ∧ (∀ k, k ≠ 0 → k ≠ 1 → k ≠ 2 → JX (6 * b + 19) k = J (6 * b + 19) k) ∧ (∀ k, k < 4 → JX (6 * b + 20) k = 0))) := by
  obtain ⟨t0, t1, t2, t3⟩ := ht
  obtain ⟨JA, hJA⟩ : ∃ JA, JA = up2 (up2 (up2 (up2 (up2 (up2 (up2 (up2 (up2 (up2 (up2 J (6 * a + 20) 0 (J (6 * a + 20) 0 + t 0)) (6 * b + 20) 0 (J (6 * b + 20) 0 - t 0)) (6 * a + 20) 1 (J (6 * a + 20) 1 + t 1)) (6 * b + 20) 1 (J (6 * b + 20) 1 - t 1)) (6 * a + 20) 2 (J (6 * a + 20) 2 + t 2)) (6 * b + 20) 2 (J (6 * b + 20) 2 - t 2)) (6 * a + 20) 3 (J (6 * a + 20) 3 + t 3)) (6 * b + 20) 3 (J (6 * b + 20) 3 - t 3)) (6 * a + 19) 1 (J (6 * a + 19) 1 + cn)) (6 * b + 19) 1 (J (6 * b + 19) 1 - cn)) (6 * b + 19) 2 (mn (J (6 * b + 19) 1 - cn) (J (6 * b + 19) 2)) := ⟨_, rfl⟩
  have fA : ∀ v, v ≠ 6 * a + 19 → v ≠ 6 * a + 20 → v ≠ 6 * b + 19 → v ≠ 6 * b + 20 → JA v = J v := fun v y1 y2 y3 y4 => by rw [hJA]; simp (disch := omega) only [up2_row]
  have fa1 : JA (6 * a + 19) 1 = J (6 * a + 19) 1 + cn := by rw [hJA]; simp (disch := omega) only [up2_row, up2_k, up2_at]
  have fak : ∀ k, k ≠ 1 → JA (6 * a + 19) k = J (6 * a + 19) k := fun k y => by rw [hJA]; simp (disch := omega) only [up2_row, up2_k, up2_at]
  have fau : ∀ k, k < 4 → JA (6 * a + 20) k = J (6 * a + 20) k + t k := fun k hk => by
    rw [hJA]
    rcases (show k = 0 ∨ k = 1 ∨ k = 2 ∨ k = 3 by omega) with rfl | rfl | rfl | rfl <;> simp (disch := omega) only [up2_row, up2_k, up2_at]
  have fb1 : JA (6 * b + 19) 1 = J (6 * b + 19) 1 - cn := by rw [hJA]; simp (disch := omega) only [up2_row, up2_k, up2_at]
  have fb2 : JA (6 * b + 19) 2 = mn (J (6 * b + 19) 1 - cn) (J (6 * b + 19) 2) := by rw [hJA]; simp (disch := omega) only [up2_row, up2_k, up2_at]
  have fbk : ∀ k, k ≠ 1 → k ≠ 2 → JA (6 * b + 19) k = J (6 * b + 19) k := fun k y1 y2 => by rw [hJA]; simp (disch := omega) only [up2_row, up2_k, up2_at]
  have fbu : ∀ k, k < 4 → JA (6 * b + 20) k = J (6 * b + 20) k - t k := fun k hk => by
    rw [hJA]
    rcases (show k = 0 ∨ k = 1 ∨ k = 2 ∨ k = 3 by omega) with rfl | rfl | rfl | rfl <;> simp (disch := omega) only [up2_row, up2_k, up2_at]
  have e1 : 6 * a + 19 ≠ 6 * a + 20 := by omega
  have e2 : 6 * a + 19 ≠ 6 * b + 20 := by omega
  have e3 : 6 * b + 19 ≠ 6 * a + 20 := by omega
  have e4 : 6 * b + 19 ≠ 6 * b + 20 := by omega
  have e5 : 6 * b + 19 ≠ 6 * a + 19 := by omega
  have e6 : 6 * b + 20 ≠ 6 * a + 20 := by omega
  have e7 : 6 * a + 20 ≠ 6 * b + 20 := by omega
  by_cases c : 0 < J (6 * b + 19) 1 - cn
  · refine ⟨JA, ?_, fA, fa1, fak, fau, Or.inl ⟨c, fb1, fb2, fbk, fbu⟩⟩
    rw [hJA]
    obtain ⟨hj, hl, hx, hm, hr⟩ := h; obtain ⟨hx0, hx1, hx2, hx3, hx4, hx5, hx6, hx7, hx8, hx9, hx10, hx11, hx12, hx13, hx14, hx15, hx16, hx17, hx18, hx19, hx20, hx21, hx22, hx23, hx24, hx25, hx26, hx27⟩ := hx; obtain ⟨hm0, hm1, hm2, hm3, hm4, hm5, hm6, hm7, hm8, hm9, hm10, hm11, hm12, hm13, hm14, hm15, hm16, hm17, hm18, hm19, hm20, hm21, hm22, hm23, hm24, hm25, hm26, hm27, hm28, hm29, hm30, hm31, hm32, hm33, hm34, hm35, hm36, hm37, hm38, hm39, hm40, hm41, hm42, hm43, hm44⟩ := hm; obtain ⟨⟨⟨g1, g2⟩, ⟨g3, g4, g5, g6, g7⟩, g8, g9, g10⟩, r1, r2, r3, r4, r5, r6⟩ := hr
    simp (config := {decide := true}) only [f_X1_takeUnits, b_X1_takeUnits_0, l_X1_takeUnits_5, itr_40, itr_39, itr_38, itr_37, itr_36, b_X1_takeUnits_5, b_X1_takeUnits_109, gI_pt hj, gR_pt hj, ob_pt hj, ck_pt hj, pI_pt hj, pB_pt hj, pR_pt hj, aI_pt hj, aR_pt hj, wI_pt hj, wJ_pt hj, aL_pt hj, cl1_s, cl1_n, cl1_i, cx1_s, cx1_x, cx1_n, cx1_i, nul_n, nul_s, nm, dv2, dv3, dv4, dv5, dv8, dv10, dv20, dv40, thr, bo, mI_pt hj, mT_pt hj, sB_pt, mZ_pt, mJ_pt, mJ_sJ, mZ_sJ, tn0, tn1, tn2, tn3, tn4, tn5, tn6, mnE, t0, t1, t2, t3, hx15 a ha, hx15 b hb, hx16 a ha, hx16 b hb, hx19 a ha, hx19 b hb, up2_row e1, up2_row e2, up2_row e3, up2_row e4, up2_row e5, up2_row e6, up2_row e7, up2_k, up2_at, c, ii0, ii1, ii2, ii3, ii4, if_true, if_false, ne_eq, not_false_eq_true, not_true_eq_false, true_and, and_true, false_and, and_false, and_self, true_or, or_true, false_or, or_false, or_self, Nat.reduceAdd, Nat.reduceLT, Nat.reduceLeDiff, Nat.succ_ne_zero, reduceIte, reduceCtorEq]
  · obtain ⟨JX, V1, V2, V3, V4, V5, V6⟩ := x_vanish (J := JA) (τ := τ) h hb
    refine ⟨JX, ?_, fun v y1 y2 y3 y4 => by rw [V2 v y3 y4, fA v y1 y2 y3 y4], by rw [V2 _ (by omega) (by omega)]; exact fa1, fun k y => by rw [V2 _ (by omega) (by omega)]; exact fak k y, fun k y => by rw [V2 _ (by omega) (by omega)]; exact fau k y, Or.inr ⟨c, V3, V4, by rw [V5 2 (by decide) (by decide)]; exact fb2, fun k y1 y2 y3 => by rw [V5 k y1 y2]; exact fbk k y2 y3, V6⟩⟩
    rw [hJA] at V1
    obtain ⟨hj, hl, hx, hm, hr⟩ := h; obtain ⟨hx0, hx1, hx2, hx3, hx4, hx5, hx6, hx7, hx8, hx9, hx10, hx11, hx12, hx13, hx14, hx15, hx16, hx17, hx18, hx19, hx20, hx21, hx22, hx23, hx24, hx25, hx26, hx27⟩ := hx; obtain ⟨hm0, hm1, hm2, hm3, hm4, hm5, hm6, hm7, hm8, hm9, hm10, hm11, hm12, hm13, hm14, hm15, hm16, hm17, hm18, hm19, hm20, hm21, hm22, hm23, hm24, hm25, hm26, hm27, hm28, hm29, hm30, hm31, hm32, hm33, hm34, hm35, hm36, hm37, hm38, hm39, hm40, hm41, hm42, hm43, hm44⟩ := hm; obtain ⟨⟨⟨g1, g2⟩, ⟨g3, g4, g5, g6, g7⟩, g8, g9, g10⟩, r1, r2, r3, r4, r5, r6⟩ := hr
    simp (config := {decide := true}) only [f_X1_takeUnits, b_X1_takeUnits_0, l_X1_takeUnits_5, itr_40, itr_39, itr_38, itr_37, itr_36, b_X1_takeUnits_5, b_X1_takeUnits_109, gI_pt hj, gR_pt hj, ob_pt hj, ck_pt hj, pI_pt hj, pB_pt hj, pR_pt hj, aI_pt hj, aR_pt hj, wI_pt hj, wJ_pt hj, aL_pt hj, cl1_s, cl1_n, cl1_i, cx1_s, cx1_x, cx1_n, cx1_i, nul_n, nul_s, nm, dv2, dv3, dv4, dv5, dv8, dv10, dv20, dv40, thr, bo, mI_pt hj, mT_pt hj, sB_pt, mZ_pt, mJ_pt, mJ_sJ, mZ_sJ, tn0, tn1, tn2, tn3, tn4, tn5, tn6, mnE, t0, t1, t2, t3, hx15 a ha, hx15 b hb, hx16 a ha, hx16 b hb, hx19 a ha, hx19 b hb, up2_row e1, up2_row e2, up2_row e3, up2_row e4, up2_row e5, up2_row e6, up2_row e7, up2_k, up2_at, c, V1, ii0, ii1, ii2, ii3, ii4, if_true, if_false, ne_eq, not_false_eq_true, not_true_eq_false, true_and, and_true, false_and, and_false, and_self, true_or, or_true, false_or, or_false, or_self, Nat.reduceAdd, Nat.reduceLT, Nat.reduceLeDiff, Nat.succ_ne_zero, reduceIte, reduceCtorEq]
theorem m_take {φ1 : Nat → Nat} {T1 : Nat → Nat × Nat} {R1 : Nat → Nat → Option Nat} (hj : Inj φ1 T1) (tb : T1 b = (8, 0)) (rb : R1 b 1 = some (φ1 (b + 1))) (tb1 : T1 (b + 1) = (100, 4)) (tg : T1 g = (8, 0)) (rg : R1 g 1 = some (φ1 (g + 1))) (tg1 : T1 (g + 1) = (100, 4)) (n1 : b + 9 < g) (ht : Tk (J (b + 1)) cn t) (hd : (J (b + 1) 0 - t 0) + (J (b + 1) 1 - t 1) + (J (b + 1) 2 - t 2) + (J (b + 1) 3 - t 3) = d)
    (hgo : ∀ (J0 : Nat → Nat → Int32), J0 (b + 3) 2 = J (b + 3) 2 → ∃ J' R', f_X5_go (φ1 b) (pt φ1 T1 J0 R1 τ) = some ((), pt φ1 T1 J' R' τ) ∧ (∀ v, v ≠ b → v ≠ b + 1 → v ≠ b + 3 → J' v = J0 v) ∧ J' b 0 = 3 ∧ J' b 13 = 0 ∧ (∀ k, k ≠ 0 → k ≠ 13 → J' b k = J0 b k) ∧ (∀ k, k < 4 → J' (b + 1) k = 0) ∧ J' (b + 3) 2 = 0 ∧ (∀ v, v ≠ b + 4 → R' v = R1 v)) :
    ∃ J' R', f_X8_take (some (φ1 b)) cn (some (φ1 g)) (pt φ1 T1 J R1 τ) = some ((), pt φ1 T1 J' R' τ) ∧ (∀ v, v ≠ b → v ≠ b + 1 → v ≠ b + 3 → v ≠ g + 1 → J' v = J v) ∧ (∀ v, v ≠ b + 4 → R' v = R1 v) ∧ (∀ k, k < 4 → J' (g + 1) k = J (g + 1) k + t k) ∧ (J (b + 3) 2 = 0 → J' (b + 3) 2 = 0) ∧
    ((¬ d = 0 ∧ J' b 2 = mn d (J b 2) ∧ (∀ k, k ≠ 2 → J' b k = J b k) ∧ (∀ k, k < 4 → J' (b + 1) k = J (b + 1) k - t k)) ∨
     (d = 0 ∧ J' b 0 = 3 ∧ J' b 13 = 0 ∧ J' b 2 = mn d (J b 2) ∧ (∀ k, k ≠ 0 → k ≠ 13 → k ≠ 2 → J' b k = J b k) ∧ (∀ k, k < 4 → J' (b + 1) k = 0))) := by
  obtain ⟨t0, t1, t2, t3⟩ := ht
  obtain ⟨JA, hJA⟩ : ∃ JA, JA = up2 (up2 (up2 (up2 (up2 (up2 (up2 (up2 J (b + 1) 0 (J (b + 1) 0 - t 0)) (g + 1) 0 (J (g + 1) 0 + t 0)) (b + 1) 1 (J (b + 1) 1 - t 1)) (g + 1) 1 (J (g + 1) 1 + t 1)) (b + 1) 2 (J (b + 1) 2 - t 2)) (g + 1) 2 (J (g + 1) 2 + t 2)) (b + 1) 3 (J (b + 1) 3 - t 3)) (g + 1) 3 (J (g + 1) 3 + t 3) := ⟨_, rfl⟩
  obtain ⟨JB, hJB⟩ : ∃ JB, JB = up2 JA b 2 (mn d (J b 2)) := ⟨_, rfl⟩
  have e1 : b ≠ b + 1 := by omega
  have e2 : b ≠ g + 1 := by omega
  have e3 : b + 1 ≠ g + 1 := by omega
  have e4 : g + 1 ≠ b + 1 := by omega
  have e5 : b + 1 ≠ b := by omega
  have ub : ∀ k, k < 4 → JA (b + 1) k = J (b + 1) k - t k := fun k hk => by
    rw [hJA]
    rcases (show k = 0 ∨ k = 1 ∨ k = 2 ∨ k = 3 by omega) with rfl | rfl | rfl | rfl <;> simp (disch := omega) only [up2_row, up2_k, up2_at]
  have ug : ∀ k, k < 4 → JA (g + 1) k = J (g + 1) k + t k := fun k hk => by
    rw [hJA]
    rcases (show k = 0 ∨ k = 1 ∨ k = 2 ∨ k = 3 by omega) with rfl | rfl | rfl | rfl <;> simp (disch := omega) only [up2_row, up2_k, up2_at]
  have fA : ∀ v, v ≠ b + 1 → v ≠ g + 1 → JA v = J v := fun v y1 y2 => by rw [hJA]; simp (disch := omega) only [up2_row]
  have DA : f_X5_dry (φ1 b) (pt φ1 T1 JA R1 τ) = some (d, pt φ1 T1 JA R1 τ) := by
    rw [mdry hj tb rb tb1, ub 0 (by omega), ub 1 (by omega), ub 2 (by omega), ub 3 (by omega), hd]
  have DB : f_X5_dry (φ1 b) (pt φ1 T1 JB R1 τ) = some (d, pt φ1 T1 JB R1 τ) := by
    rw [mdry hj tb rb tb1, hJB, up2_row e5, ub 0 (by omega), ub 1 (by omega), ub 2 (by omega), ub 3 (by omega), hd]
  have b2 : JA b 2 = J b 2 := by rw [fA _ (by omega) (by omega)]
  have Bk : ∀ k, k ≠ 2 → JB b k = J b k := fun k y => by rw [hJB, up2_k y, fA _ (by omega) (by omega)]
  have B2 : JB b 2 = mn d (J b 2) := by rw [hJB, up2_at]
  have Bv : ∀ v, v ≠ b → JB v = JA v := fun v y => by rw [hJB, up2_row y]
  have RUN : ∀ x, (if d = 0 then (ob 7 (pt φ1 T1 JB R1 τ) (some (φ1 b)) fun h12 => cl1 (f_X5_go h12 (pt φ1 T1 JB R1 τ)) fun _ σ11 => b_X8_take_85 σ11) else b_X8_take_85 (pt φ1 T1 JB R1 τ)) = x → f_X8_take (some (φ1 b)) cn (some (φ1 g)) (pt φ1 T1 J R1 τ) = x := by
    intro x hx
    rw [← hx]
    rw [hJB] at DB ⊢
    rw [hJA] at DA DB b2 ⊢
    simp (config := {decide := true}) only [f_X8_take, b_X8_take_0, l_X8_take_5, itr_40, itr_39, itr_38, itr_37, itr_36, b_X8_take_5, gI_pt hj, gR_pt hj, ob_pt hj, ck_pt hj, pI_pt hj, pB_pt hj, pR_pt hj, aI_pt hj, aR_pt hj, wI_pt hj, wJ_pt hj, aL_pt hj, cl1_s, cl1_n, cl1_i, cx1_s, cx1_x, cx1_n, cx1_i, nul_n, nul_s, nm, dv2, dv3, dv4, dv5, dv8, dv10, dv20, dv40, thr, bo, mI_pt hj, mT_pt hj, sB_pt, mZ_pt, mJ_pt, mJ_sJ, mZ_sJ, tn0, tn1, tn2, tn3, tn4, tn5, tn6, mnE, t0, t1, t2, t3, tb, rb, tb1, tg, rg, tg1, up2_row e1, up2_row e2, up2_row e3, up2_row e4, up2_row e5, up2_k, up2_at, DA, DB, ii0, ii1, ii2, ii3, ii4, if_true, if_false, ne_eq, not_false_eq_true, not_true_eq_false, true_and, and_true, false_and, and_false, and_self, true_or, or_true, false_or, or_false, or_self, Nat.reduceAdd, Nat.reduceLT, Nat.reduceLeDiff, Nat.succ_ne_zero, reduceIte, reduceCtorEq]
  by_cases c : d = 0
  · obtain ⟨J', R', G1, G2, G3, G4, G5, G6, G7, G8⟩ := hgo JB (by rw [Bv _ (by omega), fA _ (by omega) (by omega)])
    refine ⟨J', R', RUN _ ?_, fun v y1 y2 y3 y4 => by rw [G2 v y1 y2 y3, Bv v y1, fA v y2 y4], G8, fun k hk => by rw [G2 _ (by omega) (by omega) (by omega), Bv _ (by omega), ug k hk], fun _ => G7, Or.inr ⟨c, G3, G4, by rw [G5 2 (by decide) (by decide), B2], fun k y1 y2 y3 => by rw [G5 k y1 y2, Bk k y3], G6⟩⟩
    rw [if_pos c, ob_pt hj (by rw [tb]), G1]; rfl
  · refine ⟨JB, R1, RUN _ ?_, fun v y1 y2 y3 y4 => by rw [Bv v y1, fA v y2 y4], fun _ _ => rfl, fun k hk => by rw [Bv _ (by omega), ug k hk], fun y => by rw [Bv _ (by omega), fA _ (by omega) (by omega)]; exact y, Or.inl ⟨c, B2, Bk, fun k hk => by rw [Bv _ (by omega), ub k hk]⟩⟩
    rw [if_neg c]; rfl
theorem x_free (h : Cx φ T I R z e0 nS nL cS cL mx cB bl n) (hi : i < 17) : (I (6 * i + 19) 0 = 2 ∧ I (6 * i + 22) 0 ≤ 0 ∧ f_X1_isFreeMade (φ (6 * i + 19)) (pt φ T I R τ) = some (1, pt φ T I R τ)) ∨ (¬ (I (6 * i + 19) 0 = 2 ∧ I (6 * i + 22) 0 ≤ 0) ∧ f_X1_isFreeMade (φ (6 * i + 19)) (pt φ T I R τ) = some (0, pt φ T I R τ)) := by
  have hj := h.hj
  obtain ⟨T4, R15, T3⟩ : T (6 * i + 19) = (4, 0) ∧ R (6 * i + 19) 15 = some (φ (6 * i + 22)) ∧ T (6 * i + 22) = (3, 0) := by
    obtain ⟨hj, hl, hx, hm, hr⟩ := h; obtain ⟨hx0, hx1, hx2, hx3, hx4, hx5, hx6, hx7, hx8, hx9, hx10, hx11, hx12, hx13, hx14, hx15, hx16, hx17, hx18, hx19, hx20, hx21, hx22, hx23, hx24, hx25, hx26, hx27⟩ := hx; obtain ⟨hm0, hm1, hm2, hm3, hm4, hm5, hm6, hm7, hm8, hm9, hm10, hm11, hm12, hm13, hm14, hm15, hm16, hm17, hm18, hm19, hm20, hm21, hm22, hm23, hm24, hm25, hm26, hm27, hm28, hm29, hm30, hm31, hm32, hm33, hm34, hm35, hm36, hm37, hm38, hm39, hm40, hm41, hm42, hm43, hm44⟩ := hm; obtain ⟨⟨⟨g1, g2⟩, ⟨g3, g4, g5, g6, g7⟩, g8, g9, g10⟩, r1, r2, r3, r4, r5, r6⟩ := hr
    exact ⟨hx15 i hi, hx18 i hi, hx21 i hi⟩
  have O := x_isOpen (I := I) (R := R) (τ := τ) hj T3
  by_cases c1 : I (6 * i + 19) 0 = 2
  · by_cases c2 : I (6 * i + 22) 0 ≤ 0
    · rw [if_pos c2] at O
      refine Or.inl ⟨c1, c2, ?_⟩
      simp (config := {decide := true}) only [b_X1_isFreeMade_23, b_X1_isFreeMade_22, b_X1_isFreeMade_0, f_X1_isFreeMade, O, gI_pt hj, gR_pt hj, ob_pt hj, ck_pt hj, pI_pt hj, pB_pt hj, pR_pt hj, aI_pt hj, aR_pt hj, wI_pt hj, wJ_pt hj, aL_pt hj, cl1_s, cl1_n, cl1_i, cx1_s, cx1_x, cx1_n, cx1_i, nul_n, nul_s, nm, dv2, dv3, dv4, dv5, dv8, dv10, dv20, dv40, thr, bo, mI_pt hj, mT_pt hj, sB_pt, mZ_pt, mJ_pt, mJ_sJ, mZ_sJ, tn0, tn1, tn2, tn3, tn4, tn5, tn6, T4, R15, T3, c1, ii0, ii1, ii2, ii3, ii4, if_true, if_false, ne_eq, not_false_eq_true, not_true_eq_false, true_and, and_true, false_and, and_false, and_self, true_or, or_true, false_or, or_false, or_self, Nat.reduceAdd, Nat.reduceLT, Nat.reduceLeDiff, Nat.succ_ne_zero, reduceIte, reduceCtorEq]
    · rw [if_neg c2] at O
      refine Or.inr ⟨fun y => c2 y.2, ?_⟩
      simp (config := {decide := true}) only [b_X1_isFreeMade_23, b_X1_isFreeMade_22, b_X1_isFreeMade_0, f_X1_isFreeMade, O, gI_pt hj, gR_pt hj, ob_pt hj, ck_pt hj, pI_pt hj, pB_pt hj, pR_pt hj, aI_pt hj, aR_pt hj, wI_pt hj, wJ_pt hj, aL_pt hj, cl1_s, cl1_n, cl1_i, cx1_s, cx1_x, cx1_n, cx1_i, nul_n, nul_s, nm, dv2, dv3, dv4, dv5, dv8, dv10, dv20, dv40, thr, bo, mI_pt hj, mT_pt hj, sB_pt, mZ_pt, mJ_pt, mJ_sJ, mZ_sJ, tn0, tn1, tn2, tn3, tn4, tn5, tn6, T4, R15, T3, c1, ii0, ii1, ii2, ii3, ii4, if_true, if_false, ne_eq, not_false_eq_true, not_true_eq_false, true_and, and_true, false_and, and_false, and_self, true_or, or_true, false_or, or_false, or_self, Nat.reduceAdd, Nat.reduceLT, Nat.reduceLeDiff, Nat.succ_ne_zero, reduceIte, reduceCtorEq]
  · refine Or.inr ⟨fun y => c1 y.1, ?_⟩
    simp (config := {decide := true}) only [b_X1_isFreeMade_23, b_X1_isFreeMade_22, b_X1_isFreeMade_0, f_X1_isFreeMade, gI_pt hj, gR_pt hj, ob_pt hj, ck_pt hj, pI_pt hj, pB_pt hj, pR_pt hj, aI_pt hj, aR_pt hj, wI_pt hj, wJ_pt hj, aL_pt hj, cl1_s, cl1_n, cl1_i, cx1_s, cx1_x, cx1_n, cx1_i, nul_n, nul_s, nm, dv2, dv3, dv4, dv5, dv8, dv10, dv20, dv40, thr, bo, mI_pt hj, mT_pt hj, sB_pt, mZ_pt, mJ_pt, mJ_sJ, mZ_sJ, tn0, tn1, tn2, tn3, tn4, tn5, tn6, T4, c1, ii0, ii1, ii2, ii3, ii4, if_true, if_false, ne_eq, not_false_eq_true, not_true_eq_false, true_and, and_true, false_and, and_false, and_self, true_or, or_true, false_or, or_false, or_self, Nat.reduceAdd, Nat.reduceLT, Nat.reduceLeDiff, Nat.succ_ne_zero, reduceIte, reduceCtorEq]
theorem m_canMix (h : Cx φ T I R z e0 nS nL cS cL mx cB bl n) (hJ : ∀ v, 125 ≤ v → J v = I v) (hp : InN p nL) (hi : p.toNatClampNeg = i) : (I (6 * i + 19) 0 = 2 ∧ I (6 * i + 22) 0 ≤ 0 ∧ f_X8_canMix (φ 124) p (pt φ T J R τ) = some (1, pt φ T J R τ)) ∨ (¬ (I (6 * i + 19) 0 = 2 ∧ I (6 * i + 22) 0 ≤ 0) ∧ f_X8_canMix (φ 124) p (pt φ T J R τ) = some (0, pt φ T J R τ)) := by
  have iL : i < nL := hi ▸ (idx h.m.2.2.2.2.1 hp.1 hp.2).2.2.2.2
  have hj := h.hj
  have h0 := h.m.1
  have h7 := h.m.2.2.2.1
  have h6 := h.m.2.2.1
  have T8 := h.t8 iL
  have E0 := (h.lr iL).1.1
  have E13 : I (6 * i + 22) 0 = I (10 * i + 150) 13 := (h.lr iL).1.2.2.2.2.2.2.2.2.2.2.2.2
  have G := m_getJ (J := J) (τ := τ) h (hJ 126 (by omega)) hp hi
  have O := m_isOff (I := J) (R := R) (τ := τ) hj T8
  rw [hJ _ (by omega), ← E13] at O
  by_cases c1 : I (6 * i + 19) 0 = 2
  · have S := m_stateJ (J := J) (τ := τ) (s := 2) h (hJ 126 (by omega)) hp hi (by rw [hJ _ (by omega), ← E0]; exact c1)
    by_cases c2 : I (6 * i + 22) 0 ≤ 0
    · rw [if_pos c2] at O
      refine Or.inl ⟨c1, c2, ?_⟩
      simp (config := {decide := true}) only [b_X8_canMix_31, b_X8_canMix_30, b_X8_canMix_0, f_X8_canMix, S, G, O, gI_pt hj, gR_pt hj, ob_pt hj, ck_pt hj, pI_pt hj, pB_pt hj, pR_pt hj, aI_pt hj, aR_pt hj, wI_pt hj, wJ_pt hj, aL_pt hj, cl1_s, cl1_n, cl1_i, cx1_s, cx1_x, cx1_n, cx1_i, nul_n, nul_s, nm, dv2, dv3, dv4, dv5, dv8, dv10, dv20, dv40, thr, bo, mI_pt hj, mT_pt hj, sB_pt, mZ_pt, mJ_pt, mJ_sJ, mZ_sJ, tn0, tn1, tn2, tn3, tn4, tn5, tn6, h0, h7, h6, T8, ii0, ii1, ii2, ii3, ii4, if_true, if_false, ne_eq, not_false_eq_true, not_true_eq_false, true_and, and_true, false_and, and_false, and_self, true_or, or_true, false_or, or_false, or_self, Nat.reduceAdd, Nat.reduceLT, Nat.reduceLeDiff, Nat.succ_ne_zero, reduceIte, reduceCtorEq]
    · rw [if_neg c2] at O
      refine Or.inr ⟨fun y => c2 y.2, ?_⟩
      simp (config := {decide := true}) only [b_X8_canMix_31, b_X8_canMix_30, b_X8_canMix_0, f_X8_canMix, S, G, O, gI_pt hj, gR_pt hj, ob_pt hj, ck_pt hj, pI_pt hj, pB_pt hj, pR_pt hj, aI_pt hj, aR_pt hj, wI_pt hj, wJ_pt hj, aL_pt hj, cl1_s, cl1_n, cl1_i, cx1_s, cx1_x, cx1_n, cx1_i, nul_n, nul_s, nm, dv2, dv3, dv4, dv5, dv8, dv10, dv20, dv40, thr, bo, mI_pt hj, mT_pt hj, sB_pt, mZ_pt, mJ_pt, mJ_sJ, mZ_sJ, tn0, tn1, tn2, tn3, tn4, tn5, tn6, h0, h7, h6, T8, ii0, ii1, ii2, ii3, ii4, if_true, if_false, ne_eq, not_false_eq_true, not_true_eq_false, true_and, and_true, false_and, and_false, and_self, true_or, or_true, false_or, or_false, or_self, Nat.reduceAdd, Nat.reduceLT, Nat.reduceLeDiff, Nat.succ_ne_zero, reduceIte, reduceCtorEq]
  · have S := m_stateNJ (J := J) (τ := τ) (s := 2) h (hJ 126 (by omega)) hp hi (by rw [hJ _ (by omega), ← E0]; exact c1)
    refine Or.inr ⟨fun y => c1 y.1, ?_⟩
    simp (config := {decide := true}) only [b_X8_canMix_31, b_X8_canMix_30, b_X8_canMix_0, f_X8_canMix, S, gI_pt hj, gR_pt hj, ob_pt hj, ck_pt hj, pI_pt hj, pB_pt hj, pR_pt hj, aI_pt hj, aR_pt hj, wI_pt hj, wJ_pt hj, aL_pt hj, cl1_s, cl1_n, cl1_i, cx1_s, cx1_x, cx1_n, cx1_i, nul_n, nul_s, nm, dv2, dv3, dv4, dv5, dv8, dv10, dv20, dv40, thr, bo, mI_pt hj, mT_pt hj, sB_pt, mZ_pt, mJ_pt, mJ_sJ, mZ_sJ, tn0, tn1, tn2, tn3, tn4, tn5, tn6, h0, ii0, ii1, ii2, ii3, ii4, if_true, if_false, ne_eq, not_false_eq_true, not_true_eq_false, true_and, and_true, false_and, and_false, and_self, true_or, or_true, false_or, or_false, or_self, Nat.reduceAdd, Nat.reduceLT, Nat.reduceLeDiff, Nat.succ_ne_zero, reduceIte, reduceCtorEq]
end MX

/-! MIX: notes, and what is left of a lot -/
section MY
variable {φ : Nat → Nat} {T : Nat → Nat × Nat} {I : Nat → Nat → Int32} {R : Nat → Nat → Option Nat} {τ : Mem} {e0 nS nL cS cL n z : Nat} {mx : Nat → Int32} {cB : Nat → Nat} {bl : Nat → List (Nat × Int32)}
variable {mi a b i j k s c g : Nat} {J J' : Nat → Nat → Int32} {R' : Nat → Nat → Option Nat} {p q r d cn u w : Int32} {τ0 τ1 : Mem} {t : Nat → Int32}
theorem nt_b {x y u w : Int32} (hx : 0 ≤ x.toInt ∧ x.toInt ≤ 9) (hy : 0 ≤ y.toInt ∧ y.toInt ≤ 9) (hu : 1 ≤ u.toInt ∧ u.toInt ≤ 5760) (hw : 1 ≤ w.toInt ∧ w.toInt ≤ 5760) : 0 ≤ ((x * u + y * w) / (u + w)).toInt ∧ ((x * u + y * w) / (u + w)).toInt ≤ 9 := by
  have a0 : x.toInt * u.toInt ≤ 9 * u.toInt := Int.mul_le_mul_of_nonneg_right hx.2 (by omega)
  have a1 : 0 ≤ x.toInt * u.toInt := Int.mul_nonneg hx.1 (by omega)
  have b0 : y.toInt * w.toInt ≤ 9 * w.toInt := Int.mul_le_mul_of_nonneg_right hy.2 (by omega)
  have b1 : 0 ≤ y.toInt * w.toInt := Int.mul_nonneg hy.1 (by omega)
  have e1 : (x * u).toInt = x.toInt * u.toInt := tMul (by omega) (by omega)
  have e2 : (y * w).toInt = y.toInt * w.toInt := tMul (by omega) (by omega)
  have e3 : (x * u + y * w).toInt = x.toInt * u.toInt + y.toInt * w.toInt := by rw [tAdd (by omega) (by omega), e1, e2]
  have e4 : (u + w).toInt = u.toInt + w.toInt := tAdd (by omega) (by omega)
  have nn : 0 ≤ (x * u + y * w).toInt := by omega
  have q1 : 0 ≤ (x * u + y * w).toInt / (u + w).toInt := Int.ediv_nonneg nn (by omega)
  have q2 : (x * u + y * w).toInt / (u + w).toInt ≤ 9 := Int.ediv_le_of_le_mul (by omega) (by omega)
  have e5 : ((x * u + y * w) / (u + w)).toInt = (x * u + y * w).toInt / (u + w).toInt := by
    rw [Int32.toInt_div, Int.tdiv_eq_ediv_of_nonneg nn]
    exact Int.bmod_eq_of_le (by omega) (by omega)
  rw [e5]; exact ⟨q1, q2⟩
def ntV (I : Nat → Nat → Int32) (i j : Nat) (u w : Int32) (k : Nat) : Int32 := (NV I i k * u + NV I j k * w) / (u + w)
noncomputable def mxEnd (a0 : Nat) (p2 p4 : Int32) (r5 r6 r7 : Option Nat) (σ : Mem) : Option ((Int32 ⊕ Nat) × Mem) :=
  ob 3 σ r7 fun h29 => cl1 (f_X1_takeUnits h29 r5 p2 σ) fun _ σ28 => ob 3 σ28 r7 fun h32 => cl1 (f_X1_takeUnits h32 r6 p4 σ28) fun _ σ31 => gI 6 4 σ31 (some a0) fun v33 => nm (v33 - 1) fun v34 => some (.inl v34, σ31)
noncomputable def mmEnd (e0 mi a0 : Nat) (p2 p4 : Int32) (r5 r6 r7 : Option Nat) (σ : Mem) : Option (Int32 × Mem) :=
  cl1 (f_X8_take r5 p2 r7 σ) fun _ σ36 => cl1 (f_X8_take r6 p4 r7 σ36) fun _ σ38 => gR 10 7 σ38 (some a0) fun r39 => ob 1 σ38 r39 fun h42 => cl1 (f_Jx4a65c_add_9ea2d e0 mi h42 r7 σ38) fun _ σ41 => gR 10 7 σ41 (some a0) fun r43 => ob 1 σ41 r43 fun h46 => cl1 (f_Jx4a65c_size_8abf5 h46 σ41) fun v44 σ45 => nm (v44 - 1) fun v47 => some (v47, σ45)
theorem x_mixL (h : Cx φ T I R z e0 nS nL cS cL mx cB bl n) (hi : i < 17) (hj7 : j < 17) (hg : g < 17) (n1 : i ≠ g) (n2 : j ≠ g) (f1 : J (6 * i + 19) = I (6 * i + 19)) (f2 : J (6 * i + 21) = I (6 * i + 21)) (f3 : J (6 * j + 19) = I (6 * j + 19)) (f4 : J (6 * j + 21) = I (6 * j + 21)) (hz : u + w ≠ 0) :
    l_X4_mix_134 40 (φ 0) u w (some (φ (6 * i + 19))) (some (φ (6 * j + 19))) (some (φ (6 * g + 19))) (u + w) 0 (pt φ T J R τ) = mxEnd (φ 0) u w (some (φ (6 * i + 19))) (some (φ (6 * j + 19))) (some (φ (6 * g + 19))) (pt φ T (up2 (up2 (up2 J (6 * g + 21) 0 (ntV I i j u w 0)) (6 * g + 21) 1 (ntV I i j u w 1)) (6 * g + 21) 2 (ntV I i j u w 2)) R τ) := by
  have q1 : 6 * i + 19 ≠ 6 * g + 21 := by omega
  have q2 : 6 * i + 21 ≠ 6 * g + 21 := by omega
  have q3 : 6 * j + 19 ≠ 6 * g + 21 := by omega
  have q4 : 6 * j + 21 ≠ 6 * g + 21 := by omega
  have A0 : f_X1_noteOf (φ (6 * i + 19)) 0 (pt φ T J R τ) = some (NV I i 0, pt φ T J R τ) := x_noteJ (k := 0) h hi f1 f2 (by decide)
  have B0 : f_X1_noteOf (φ (6 * j + 19)) 0 (pt φ T J R τ) = some (NV I j 0, pt φ T J R τ) := x_noteJ (k := 0) h hj7 f3 f4 (by decide)
  have A1 : ∀ y, f_X1_noteOf (φ (6 * i + 19)) 1 (pt φ T (up2 J (6 * g + 21) 0 y) R τ) = some (NV I i 1, pt φ T (up2 J (6 * g + 21) 0 y) R τ) := fun y => x_noteJ (k := 1) h hi ((up2_row q1).trans f1) ((up2_row q2).trans f2) (by decide)
  have B1 : ∀ y, f_X1_noteOf (φ (6 * j + 19)) 1 (pt φ T (up2 J (6 * g + 21) 0 y) R τ) = some (NV I j 1, pt φ T (up2 J (6 * g + 21) 0 y) R τ) := fun y => x_noteJ (k := 1) h hj7 ((up2_row q3).trans f3) ((up2_row q4).trans f4) (by decide)
  have A2 : ∀ y z, f_X1_noteOf (φ (6 * i + 19)) 2 (pt φ T (up2 (up2 J (6 * g + 21) 0 y) (6 * g + 21) 1 z) R τ) = some (NV I i 2, pt φ T (up2 (up2 J (6 * g + 21) 0 y) (6 * g + 21) 1 z) R τ) := fun y z => x_noteJ (k := 2) h hi (((up2_row q1).trans (up2_row q1)).trans f1) (((up2_row q2).trans (up2_row q2)).trans f2) (by decide)
  have B2 : ∀ y z, f_X1_noteOf (φ (6 * j + 19)) 2 (pt φ T (up2 (up2 J (6 * g + 21) 0 y) (6 * g + 21) 1 z) R τ) = some (NV I j 2, pt φ T (up2 (up2 J (6 * g + 21) 0 y) (6 * g + 21) 1 z) R τ) := fun y z => x_noteJ (k := 2) h hj7 (((up2_row q3).trans (up2_row q3)).trans f3) (((up2_row q4).trans (up2_row q4)).trans f4) (by decide)
  obtain ⟨hj, hl, hx, hm, hr⟩ := h; obtain ⟨hx0, hx1, hx2, hx3, hx4, hx5, hx6, hx7, hx8, hx9, hx10, hx11, hx12, hx13, hx14, hx15, hx16, hx17, hx18, hx19, hx20, hx21, hx22, hx23, hx24, hx25, hx26, hx27⟩ := hx; obtain ⟨hm0, hm1, hm2, hm3, hm4, hm5, hm6, hm7, hm8, hm9, hm10, hm11, hm12, hm13, hm14, hm15, hm16, hm17, hm18, hm19, hm20, hm21, hm22, hm23, hm24, hm25, hm26, hm27, hm28, hm29, hm30, hm31, hm32, hm33, hm34, hm35, hm36, hm37, hm38, hm39, hm40, hm41, hm42, hm43, hm44⟩ := hm; obtain ⟨⟨⟨g1, g2⟩, ⟨g3, g4, g5, g6, g7⟩, g8, g9, g10⟩, r1, r2, r3, r4, r5, r6⟩ := hr
  have ti := hx15 i hi
  have tj := hx15 j hj7
  have tg := hx15 g hg
  have rg := hx17 g hg
  have tg1 := hx20 g hg
  rw [mxEnd]
  simp only [ntV]
  simp (config := {decide := true}) only [l_X4_mix_134, itr_40, itr_39, itr_38, itr_37, b_X4_mix_134, A0, B0, A1, B1, A2, B2, dv_c hz, gI_pt hj, gR_pt hj, ob_pt hj, ck_pt hj, pI_pt hj, pB_pt hj, pR_pt hj, aI_pt hj, aR_pt hj, wI_pt hj, wJ_pt hj, aL_pt hj, cl1_s, cl1_n, cl1_i, cx1_s, cx1_x, cx1_n, cx1_i, nul_n, nul_s, nm, dv2, dv3, dv4, dv5, dv8, dv10, dv20, dv40, thr, bo, mI_pt hj, mT_pt hj, sB_pt, mZ_pt, mJ_pt, mJ_sJ, mZ_sJ, tn0, tn1, tn2, tn3, tn4, tn5, tn6, ti, tj, tg, rg, tg1, ii0, ii1, ii2, ii3, ii4, if_true, if_false, ne_eq, not_false_eq_true, not_true_eq_false, true_and, and_true, false_and, and_false, and_self, true_or, or_true, false_or, or_false, or_self, Nat.reduceAdd, Nat.reduceLT, Nat.reduceLeDiff, Nat.succ_ne_zero, reduceIte, reduceCtorEq]
theorem m_noteV {φ1 : Nat → Nat} {T1 : Nat → Nat × Nat} {R1 : Nat → Nat → Option Nat} {x xu xn xa xp xt : Nat → Int32} {m : Int32} {bb : List (Nat × Int32)} (hj : Inj φ1 T1) (tb : T1 b = (8, 0)) (rb : R1 b 1 = some (φ1 (b + 1))) (tb1 : T1 (b + 1) = (100, 4)) (r12 : R1 b 12 = if m = 0 then none else some (φ1 (b + 2))) (t12 : m ≠ 0 → T1 (b + 2) = (100, 3)) (hL : LotR x xu xn xa xp xt (J b) (J (b + 1)) (J (b + 2)) m bb n) (hs : x 0 ≠ 3) (hk : k < 3) : f_X5_note (φ1 b) (Int32.ofNat k) (pt φ1 T1 J R1 τ) = some (nvX x xn k, pt φ1 T1 J R1 τ) := by
  obtain ⟨⟨E0, E2, E3, E4, E5, E6, E7, E8, E9, E10, E11, E12, E13⟩, -, ⟨q1, -⟩, ⟨-, q4⟩, -, q6, -⟩ := hL
  have dp := q6.2.1 hs
  have z : (0 : Int32).toInt = 0 := rfl
  have d1 : ¬ x 1 ≤ 0 := fun q => by have := leT q; omega
  have d2 : x 1 ≠ 0 := fun q => by rw [q] at dp; omega
  have D : f_X5_dry (φ1 b) (pt φ1 T1 J R1 τ) = some (x 1, pt φ1 T1 J R1 τ) := by rw [mdry hj tb rb tb1, q1]
  by_cases c : m = 0
  · have R0 : R1 b 12 = none := by rw [r12, if_pos c]
    rw [m_noteL hj tb R0 D d2 hk, nvX, if_pos (by rw [E12, c]), if_neg d1, E2]
    rw [leafT_eq E4 E5 E6 E7 E8 E9 E10 E11]
  · have R0 : R1 b 12 = some (φ1 (b + 2)) := by rw [r12, if_neg c]
    rw [m_noteM hj tb R0 (t12 c) hk, nvX, if_neg (by rw [E12]; exact c), (q4 c k hk).1]
theorem m_goV {φ1 : Nat → Nat} {T1 : Nat → Nat × Nat} {R1 : Nat → Nat → Option Nat} (hj : Inj φ1 T1) (tb : T1 b = (8, 0)) (rb : R1 b 1 = some (φ1 (b + 1))) (tb1 : T1 (b + 1) = (100, 4)) (rb14 : R1 b 14 = some (φ1 (b + 3))) (tb3 : T1 (b + 3) = (2, 0)) (r3 : ∃ x, R1 (b + 3) 1 = some x) (h0 : J (b + 3) 2 = 0) : ∃ J' R', f_X5_go (φ1 b) (pt φ1 T1 J R1 τ) = some ((), pt φ1 T1 J' R' τ) ∧ (∀ v, v ≠ b → v ≠ b + 1 → v ≠ b + 3 → J' v = J v) ∧ J' b 0 = 3 ∧ J' b 13 = 0 ∧ (∀ k, k ≠ 0 → k ≠ 13 → J' b k = J b k) ∧ (∀ k, k < 4 → J' (b + 1) k = 0) ∧ J' (b + 3) 2 = 0 ∧ (∀ v, v ≠ b + 4 → R' v = R1 v) := by
  obtain ⟨J1, R2, C1, C2, C3, C4⟩ := m_clear (J := up2 (up2 J b 0 3) b 13 0) (R := R1) (τ := τ) (l := b + 3) (w := b + 4) (s := 0) (c := 0) hj tb3 (by rw [up2_row (by omega), up2_row (by omega)]; exact h0) (Nat.le_refl _) (by omega) (fun y => absurd y (by omega)) r3 (fun y => absurd y (by omega)) (by omega)
  have n1 : b ≠ b + 1 := by omega
  have n2 : b + 3 ≠ b + 1 := by omega
  have r1 : R2 b = R1 b := C4 _ (by omega)
  refine ⟨up2 (up2 (up2 (up2 J1 (b + 1) 0 0) (b + 1) 1 0) (b + 1) 2 0) (b + 1) 3 0, R2, ?_, fun v h1 h2 h3 => ?_, ?_, ?_, fun k hk hk1 => ?_, fun k hk => ?_, ?_, C4⟩
  · simp (config := {decide := true}) only [f_X5_go, b_X5_go_0, l_X5_go_19, itr_40, itr_39, itr_38, itr_37, itr_36, itr_35, b_X5_go_19, C1, gI_pt hj, gR_pt hj, ob_pt hj, ck_pt hj, pI_pt hj, pB_pt hj, pR_pt hj, aI_pt hj, aR_pt hj, wI_pt hj, wJ_pt hj, aL_pt hj, cl1_s, cl1_n, cl1_i, cx1_s, cx1_x, cx1_n, cx1_i, nul_n, nul_s, nm, dv2, dv3, dv4, dv5, dv8, dv10, dv20, dv40, thr, bo, mI_pt hj, mT_pt hj, sB_pt, mZ_pt, mJ_pt, mJ_sJ, mZ_sJ, tn0, tn1, tn2, tn3, tn4, tn5, tn6, tb, r1, rb, tb1, rb14, tb3, ii0, ii1, ii2, ii3, ii4, if_true, if_false, ne_eq, not_false_eq_true, not_true_eq_false, true_and, and_true, false_and, and_false, and_self, true_or, or_true, false_or, or_false, or_self, Nat.reduceAdd, Nat.reduceLT, Nat.reduceLeDiff, Nat.succ_ne_zero, reduceIte, reduceCtorEq]
  · rw [up2_row h2, up2_row h2, up2_row h2, up2_row h2, C2 v h3, up2_row h1, up2_row h1]
  · rw [up2_row n1, up2_row n1, up2_row n1, up2_row n1, C2 _ (by omega), up2_k (by decide), up2_at]
  · rw [up2_row n1, up2_row n1, up2_row n1, up2_row n1, C2 _ (by omega), up2_at]
  · rw [up2_row n1, up2_row n1, up2_row n1, up2_row n1, C2 _ (by omega), up2_k hk1, up2_k hk]
  · rcases (show k = 0 ∨ k = 1 ∨ k = 2 ∨ k = 3 by omega) with rfl | rfl | rfl | rfl <;> simp (config := {decide := true}) only [up2, and_false, and_true, if_false, if_true]
  · rw [up2_row n2, up2_row n2, up2_row n2, up2_row n2]; exact C3
/-- a lot of which some is taken -/
theorem LotR.less {x xu xn xa xp xt m mu mn' : Nat → Int32} {mx : Int32} {x' xu' m' mu' : Nat → Int32} (h : LotR x xu xn xa xp xt m mu mn' mx [] n) (hx0 : x 0 = 2) (hxa : xa 0 = 0) (ht : Tk mu cn t) (c1 : 1 ≤ cn.toInt) (c2 : cn.toInt ≤ (x 1).toInt) (c3 : (x 1).toInt ≤ 5760)
    (DX : (0 < x 1 - cn ∧ x' 1 = x 1 - cn ∧ x' 2 = mn (x 1 - cn) (x 2) ∧ (∀ k, k ≠ 1 → k ≠ 2 → x' k = x k) ∧ (∀ k, k < 4 → xu' k = xu k - t k)) ∨ (¬ 0 < x 1 - cn ∧ x' 0 = 3 ∧ x' 1 = 0 ∧ x' 2 = mn (x 1 - cn) (x 2) ∧ (∀ k, k ≠ 0 → k ≠ 1 → k ≠ 2 → x' k = x k) ∧ (∀ k, k < 4 → xu' k = 0)))
    (DM : (¬ x 1 - cn = 0 ∧ m' 2 = mn (x 1 - cn) (m 2) ∧ (∀ k, k ≠ 2 → m' k = m k) ∧ (∀ k, k < 4 → mu' k = mu k - t k)) ∨ (x 1 - cn = 0 ∧ m' 0 = 3 ∧ m' 13 = 0 ∧ m' 2 = mn (x 1 - cn) (m 2) ∧ (∀ k, k ≠ 0 → k ≠ 13 → k ≠ 2 → m' k = m k) ∧ (∀ k, k < 4 → mu' k = 0))) :
    LotR x' xu' xn xa xp xt m' mu' mn' mx [] (n + 1) ∧ (x' 1).toInt = (x 1).toInt - cn.toInt := by
  have z : (0 : Int32).toInt = 0 := rfl
  obtain ⟨⟨E0, E2, E3, E4, E5, E6, E7, E8, E9, E10, E11, E12, E13⟩, ⟨B0, B1, B2, B3⟩, ⟨C1, C2, C3, C4, C5, C6⟩, qD, ⟨qE1, qE2, qE3⟩, qF, qG, qH, qK⟩ := h
  obtain ⟨g, sm, df⟩ := tk_b ht C2 C3 C4 C5 (by omega) (by omega) (by omega)
  have sumd := tk_sum ht C2 C3 C4 C5 (by omega) (by omega) (by omega) C1 C6
  have dT : (x 1 - cn).toInt = (x 1).toInt - cn.toInt := tSub (by omega) (by omega)
  rcases DX with ⟨d0, X1, X2, Xk, Xu⟩ | ⟨d0, X0, X1, X2, Xk, Xu⟩
  · have d0' := ltT d0
    rw [z] at d0'
    rcases DM with ⟨-, M2, Mk, Mu⟩ | ⟨e0, -⟩
    · refine ⟨?_, by rw [X1, dT]⟩
      unfold LotR
      rw [X1, X2, M2, Xk 0 (by decide) (by decide), Xk 3 (by decide) (by decide), Xk 4 (by decide) (by decide), Xk 5 (by decide) (by decide), Xk 6 (by decide) (by decide), Xk 7 (by decide) (by decide), Xk 8 (by decide) (by decide), Xk 9 (by decide) (by decide), Xk 10 (by decide) (by decide), Xk 11 (by decide) (by decide), Xk 12 (by decide) (by decide), Mk 0 (by decide), Mk 3 (by decide), Mk 4 (by decide), Mk 5 (by decide), Mk 6 (by decide), Mk 7 (by decide), Mk 8 (by decide), Mk 9 (by decide), Mk 10 (by decide), Mk 11 (by decide), Mk 13 (by decide), Xu 0 (by omega), Xu 1 (by omega), Xu 2 (by omega), Xu 3 (by omega), Mu 0 (by omega), Mu 1 (by omega), Mu 2 (by omega), Mu 3 (by omega)]
      have g0 := g 0 (by omega)
      have g1 := g 1 (by omega)
      have g2 := g 2 (by omega)
      have g3 := g 3 (by omega)
      have d0 := df 0 (by omega)
      have d1 := df 1 (by omega)
      have d2 := df 2 (by omega)
      have d3 := df 3 (by omega)
      refine ⟨⟨E0, by rw [E2], E3, E4, E5, E6, E7, E8, E9, E10, E11, E12, E13⟩, ⟨by rw [B0], by rw [B1], by rw [B2], by rw [B3]⟩, ⟨sumd.symm, by omega, by omega, by omega, by omega, by rw [dT]; omega⟩, qD, ⟨qE1, qE2, qE3⟩, ⟨fun y => absurd (hx0.symm.trans y) (by decide), fun _ => by rw [dT]; omega, qF.2.2⟩, ⟨qG.1, by have := qG.2; omega⟩, qH, qK.mono (Nat.le_succ _)⟩
    · rw [e0, z] at d0'; omega
  · have d0' : (x 1 - cn).toInt ≤ 0 := by
      have := leT (Int32.not_lt.mp d0); rw [z] at this; exact this
    have dz : x 1 - cn = 0 := Int32.toInt_inj.mp (by rw [z]; omega)
    rcases DM with ⟨e0, -⟩ | ⟨-, M0, M13, M2, Mk, Mu⟩
    · exact absurd dz e0
    · refine ⟨?_, by rw [X1, z]; omega⟩
      have W : LotR (fun k => if k = 2 then mn (x 1 - cn) (x 2) else x k) xu xn xa xp xt (fun k => if k = 2 then mn (x 1 - cn) (m 2) else m k) mu mn' mx [] n := ⟨⟨E0, by show mn (x 1 - cn) (x 2) = mn (x 1 - cn) (m 2); rw [E2], E3, E4, E5, E6, E7, E8, E9, E10, E11, E12, E13⟩, ⟨B0, B1, B2, B3⟩, ⟨C1, C2, C3, C4, C5, C6⟩, qD, ⟨qE1, qE2, qE3⟩, qF, qG, qH, qK⟩
      refine W.gone X0 X1 (fun k y1 y2 => ?_) M0 M13 (fun k y1 y2 => ?_) Xu Mu hxa (fun k _ => rfl) (fun k hk => qK.2.2.1 k hk (fun e he => by cases he))
      · by_cases c : k = 2
        · rw [c]; exact X2
        · simp only [if_neg c]; exact Xk k y1 y2 c
      · by_cases c : k = 2
        · rw [c]; exact M2
        · simp only [if_neg c]; exact Mk k y1 y2 c
end MY
