/-! TASTERS: taste, repeat -/
section TS
variable {φ : Nat → Nat} {T : Nat → Nat × Nat} {I : Nat → Nat → Int32} {R : Nat → Nat → Option Nat} {τ : Mem} {e0 nS nL cS cL n z : Nat} {mx : Nat → Int32} {cB : Nat → Nat} {bl : Nat → List (Nat × Int32)}
variable {p q a : Int32} {i k j : Nat}
theorem x_tells (hj : Inj φ T) {v : Nat} (h : T v = (6, 0)) (x : Int32) : f_X3_tells (φ v) x (pt φ T I R τ) = some (hld (x + I v 0), pt φ T I R τ) := by
  simp (config := {decide := true}) only [b_X3_tells_0, f_X3_tells, x_held, gI_pt hj, gR_pt hj, ob_pt hj, ck_pt hj, pI_pt hj, pB_pt hj, pR_pt hj, aI_pt hj, aR_pt hj, wI_pt hj, wJ_pt hj, aL_pt hj, cl1_s, cl1_n, cl1_i, cx1_s, cx1_x, cx1_n, cx1_i, nul_n, nul_s, nm, dv2, dv3, dv4, dv5, dv8, dv10, dv20, dv40, thr, bo, mI_pt hj, mT_pt hj, sB_pt, mZ_pt, mJ_pt, mJ_sJ, mZ_sJ, tn0, tn1, tn2, tn3, tn4, tn5, tn6, h, ii0, ii1, ii2, ii3, ii4, if_true, if_false, ne_eq, not_false_eq_true, not_true_eq_false, true_and, and_true, false_and, and_false, and_self, true_or, or_true, false_or, or_false, or_self, Nat.reduceAdd, Nat.reduceLT, Nat.reduceLeDiff, Nat.succ_ne_zero, reduceIte, reduceCtorEq]
theorem m_tells (hj : Inj φ T) {v : Nat} (h : T v = (10, 0)) (x : Int32) : f_X7_tells (φ v) x (pt φ T I R τ) = some (hld (x + I v 0), pt φ T I R τ) := by
  simp (config := {decide := true}) only [b_X7_tells_0, f_X7_tells, m_held, gI_pt hj, gR_pt hj, ob_pt hj, ck_pt hj, pI_pt hj, pB_pt hj, pR_pt hj, aI_pt hj, aR_pt hj, wI_pt hj, wJ_pt hj, aL_pt hj, cl1_s, cl1_n, cl1_i, cx1_s, cx1_x, cx1_n, cx1_i, nul_n, nul_s, nm, dv2, dv3, dv4, dv5, dv8, dv10, dv20, dv40, thr, bo, mI_pt hj, mT_pt hj, sB_pt, mZ_pt, mJ_pt, mJ_sJ, mZ_sJ, tn0, tn1, tn2, tn3, tn4, tn5, tn6, h, ii0, ii1, ii2, ii3, ii4, if_true, if_false, ne_eq, not_false_eq_true, not_true_eq_false, true_and, and_true, false_and, and_false, and_self, true_or, or_true, false_or, or_false, or_self, Nat.reduceAdd, Nat.reduceLT, Nat.reduceLeDiff, Nat.succ_ne_zero, reduceIte, reduceCtorEq]
def tlV (I : Nat → Nat → Int32) (x : Int32) (j : Nat) : Int32 := hld (x + I (j + 3) 0) - gs (I (j + 3) 1) (I (j + 3) 2)
def TV (I : Nat → Nat → Int32) (x : Int32) : Int32 := hld ((0 + tlV I x 0 + tlV I x 1 + tlV I x 2) / 3)
theorem TV_thr {w x : Int32} : TV (up2 I 124 0 w) x = TV I x := by
  simp (disch := omega) only [TV, tlV, up2_row]
theorem x_tlT (h : Cx φ T I R (mZ τ) e0 nS nL cS cL mx cB bl n) (hj3 : j < 3) (x : Int32) : f_X3_tells (φ (j + 3)) x (pt φ T I R τ) = some (hld (x + I (j + 3) 0), pt φ T I R τ) := by
  obtain ⟨hj, hl, hx, hm, hr⟩ := h; obtain ⟨hx0, hx1, hx2, hx3, hx4, hx5, hx6, hx7, hx8, hx9, hx10, hx11, hx12, hx13, hx14, hx15, hx16, hx17, hx18, hx19, hx20, hx21, hx22, hx23, hx24, hx25, hx26, hx27⟩ := hx; obtain ⟨hm0, hm1, hm2, hm3, hm4, hm5, hm6, hm7, hm8, hm9, hm10, hm11, hm12, hm13, hm14, hm15, hm16, hm17, hm18, hm19, hm20, hm21, hm22, hm23, hm24, hm25, hm26, hm27, hm28, hm29, hm30, hm31, hm32, hm33, hm34, hm35, hm36, hm37, hm38, hm39, hm40, hm41, hm42, hm43, hm44⟩ := hm; obtain ⟨⟨⟨g1, g2⟩, ⟨g3, g4, g5, g6, g7⟩, g8, g9, g10⟩, r1, r2, r3, r4, r5, r6⟩ := hr
  exact x_tells hj (hx27 j hj3) x
theorem x_gsT (h : Cx φ T I R (mZ τ) e0 nS nL cS cL mx cB bl n) (hn : n < 1000) (hj3 : j < 3) : f_X3_guess (φ (j + 3)) (pt φ T I R τ) = some (gs (I (j + 3) 1) (I (j + 3) 2), pt φ T I R τ) := by
  obtain ⟨hj, hl, hx, hm, hr⟩ := h; obtain ⟨hx0, hx1, hx2, hx3, hx4, hx5, hx6, hx7, hx8, hx9, hx10, hx11, hx12, hx13, hx14, hx15, hx16, hx17, hx18, hx19, hx20, hx21, hx22, hx23, hx24, hx25, hx26, hx27⟩ := hx; obtain ⟨hm0, hm1, hm2, hm3, hm4, hm5, hm6, hm7, hm8, hm9, hm10, hm11, hm12, hm13, hm14, hm15, hm16, hm17, hm18, hm19, hm20, hm21, hm22, hm23, hm24, hm25, hm26, hm27, hm28, hm29, hm30, hm31, hm32, hm33, hm34, hm35, hm36, hm37, hm38, hm39, hm40, hm41, hm42, hm43, hm44⟩ := hm; obtain ⟨⟨⟨g1, g2⟩, ⟨g3, g4, g5, g6, g7⟩, g8, g9, g10⟩, r1, r2, r3, r4, r5, r6⟩ := hr
  obtain ⟨-, -, -, u3, u4⟩ := r5 j hj3
  exact x_guess hj (hx27 j hj3) u3 (by omega)
theorem m_tlT (h : Cx φ T I R (mZ τ) e0 nS nL cS cL mx cB bl n) (hj3 : j < 3) (x : Int32) : f_X7_tells (φ (j + 129)) x (pt φ T I R τ) = some (hld (x + I (j + 3) 0), pt φ T I R τ) := by
  obtain ⟨hj, hl, hx, hm, hr⟩ := h; obtain ⟨hx0, hx1, hx2, hx3, hx4, hx5, hx6, hx7, hx8, hx9, hx10, hx11, hx12, hx13, hx14, hx15, hx16, hx17, hx18, hx19, hx20, hx21, hx22, hx23, hx24, hx25, hx26, hx27⟩ := hx; obtain ⟨hm0, hm1, hm2, hm3, hm4, hm5, hm6, hm7, hm8, hm9, hm10, hm11, hm12, hm13, hm14, hm15, hm16, hm17, hm18, hm19, hm20, hm21, hm22, hm23, hm24, hm25, hm26, hm27, hm28, hm29, hm30, hm31, hm32, hm33, hm34, hm35, hm36, hm37, hm38, hm39, hm40, hm41, hm42, hm43, hm44⟩ := hm; obtain ⟨⟨⟨g1, g2⟩, ⟨g3, g4, g5, g6, g7⟩, g8, g9, g10⟩, r1, r2, r3, r4, r5, r6⟩ := hr
  rw [m_tells hj (hm11 j hj3) x, (r5 j hj3).1]
theorem m_gsT (h : Cx φ T I R (mZ τ) e0 nS nL cS cL mx cB bl n) (hn : n < 1000) (hj3 : j < 3) : f_X7_guess (φ (j + 129)) (pt φ T I R τ) = some (gs (I (j + 3) 1) (I (j + 3) 2), pt φ T I R τ) := by
  obtain ⟨hj, hl, hx, hm, hr⟩ := h; obtain ⟨hx0, hx1, hx2, hx3, hx4, hx5, hx6, hx7, hx8, hx9, hx10, hx11, hx12, hx13, hx14, hx15, hx16, hx17, hx18, hx19, hx20, hx21, hx22, hx23, hx24, hx25, hx26, hx27⟩ := hx; obtain ⟨hm0, hm1, hm2, hm3, hm4, hm5, hm6, hm7, hm8, hm9, hm10, hm11, hm12, hm13, hm14, hm15, hm16, hm17, hm18, hm19, hm20, hm21, hm22, hm23, hm24, hm25, hm26, hm27, hm28, hm29, hm30, hm31, hm32, hm33, hm34, hm35, hm36, hm37, hm38, hm39, hm40, hm41, hm42, hm43, hm44⟩ := hm; obtain ⟨⟨⟨g1, g2⟩, ⟨g3, g4, g5, g6, g7⟩, g8, g9, g10⟩, r1, r2, r3, r4, r5, r6⟩ := hr
  obtain ⟨-, u1, u2, u3, u4⟩ := r5 j hj3
  rw [m_guess hj (hm11 j hj3) (by rw [← u2]; omega) (by rw [← u2]; omega), u1, u2]
theorem x_taste (h : Cx φ T I R (mZ τ) e0 nS nL cS cL mx cB bl n) (hn : n < 1000) (hp : InN p nL) (hi : p.toNatClampNeg = i) (hs : I (6 * i + 19) 0 = 2) (hk : k < 3) : f_X4_taste (φ 0) p (Int32.ofNat k) (pt φ T I R τ) = some (.inl (TV I (NV I i k)), pt φ T I R τ) := by
  have N := x_note h hp hi hs hk
  have A0 := x_tlT (j := 0) h (by decide) (NV I i k)
  have A1 := x_tlT (j := 1) h (by decide) (NV I i k)
  have A2 := x_tlT (j := 2) h (by decide) (NV I i k)
  have B0 := x_gsT (j := 0) h hn (by decide)
  have B1 := x_gsT (j := 1) h hn (by decide)
  have B2 := x_gsT (j := 2) h hn (by decide)
  generalize hv : NV I i k = v at *
  obtain ⟨hj, hl, hx, hm, hr⟩ := h; obtain ⟨hx0, hx1, hx2, hx3, hx4, hx5, hx6, hx7, hx8, hx9, hx10, hx11, hx12, hx13, hx14, hx15, hx16, hx17, hx18, hx19, hx20, hx21, hx22, hx23, hx24, hx25, hx26, hx27⟩ := hx; obtain ⟨hm0, hm1, hm2, hm3, hm4, hm5, hm6, hm7, hm8, hm9, hm10, hm11, hm12, hm13, hm14, hm15, hm16, hm17, hm18, hm19, hm20, hm21, hm22, hm23, hm24, hm25, hm26, hm27, hm28, hm29, hm30, hm31, hm32, hm33, hm34, hm35, hm36, hm37, hm38, hm39, hm40, hm41, hm42, hm43, hm44⟩ := hm; obtain ⟨⟨⟨g1, g2⟩, ⟨g3, g4, g5, g6, g7⟩, g8, g9, g10⟩, r1, r2, r3, r4, r5, r6⟩ := hr
  have C0 := hx26 0 (by decide)
  have C1 := hx26 1 (by decide)
  have C2 := hx26 2 (by decide)
  have D0 := hx27 0 (by decide)
  have D1 := hx27 1 (by decide)
  have D2 := hx27 2 (by decide)
  simp only [Nat.reduceAdd] at A0 A1 A2 B0 B1 B2 C0 C1 C2 D0 D1 D2
  simp (config := {decide := true}) only [b_X4_taste_13, b_X4_taste_0, f_X4_taste, l_X4_taste_13, itr_40, itr_39, itr_38, itr_37, itr_36, N, A0, A1, A2, B0, B1, B2, C0, C1, C2, D0, D1, D2, hx0, hx4, hx8, x_held, gI_pt hj, gR_pt hj, ob_pt hj, ck_pt hj, pI_pt hj, pB_pt hj, pR_pt hj, aI_pt hj, aR_pt hj, wI_pt hj, wJ_pt hj, aL_pt hj, cl1_s, cl1_n, cl1_i, cx1_s, cx1_x, cx1_n, cx1_i, nul_n, nul_s, nm, dv2, dv3, dv4, dv5, dv8, dv10, dv20, dv40, thr, bo, mI_pt hj, mT_pt hj, sB_pt, mZ_pt, mJ_pt, mJ_sJ, mZ_sJ, tn0, tn1, tn2, tn3, tn4, tn5, tn6, TV, tlV, ii0, ii1, ii2, ii3, ii4, if_true, if_false, ne_eq, not_false_eq_true, not_true_eq_false, true_and, and_true, false_and, and_false, and_self, true_or, or_true, false_or, or_false, or_self, Nat.reduceAdd, Nat.reduceLT, Nat.reduceLeDiff, Nat.succ_ne_zero, reduceIte, reduceCtorEq]
theorem m_tasteNow (h : Cx φ T I R (mZ τ) e0 nS nL cS cL mx cB bl n) (hn : n < 1000) (hp : InN p nL) (hi : p.toNatClampNeg = i) (hs : I (6 * i + 19) 0 ≠ 3) (hk : k < 3) : f_X8_tasteNow (φ 124) p (Int32.ofNat k) (pt φ T I R τ) = some (TV I (NV I i k), pt φ T I R τ) := by
  have iL : i < nL := hi ▸ (idx h.m.2.2.2.2.1 hp.1 hp.2).2.2.2.2
  have N := m_noteC h iL hs hk
  have G := m_getL h hp hi
  have A0 := m_tlT (j := 0) h (by decide) (NV I i k)
  have A1 := m_tlT (j := 1) h (by decide) (NV I i k)
  have A2 := m_tlT (j := 2) h (by decide) (NV I i k)
  have B0 := m_gsT (j := 0) h hn (by decide)
  have B1 := m_gsT (j := 1) h hn (by decide)
  have B2 := m_gsT (j := 2) h hn (by decide)
  generalize hv : NV I i k = v at *
  obtain ⟨hj, hl, hx, hm, hr⟩ := h; obtain ⟨hx0, hx1, hx2, hx3, hx4, hx5, hx6, hx7, hx8, hx9, hx10, hx11, hx12, hx13, hx14, hx15, hx16, hx17, hx18, hx19, hx20, hx21, hx22, hx23, hx24, hx25, hx26, hx27⟩ := hx; obtain ⟨hm0, hm1, hm2, hm3, hm4, hm5, hm6, hm7, hm8, hm9, hm10, hm11, hm12, hm13, hm14, hm15, hm16, hm17, hm18, hm19, hm20, hm21, hm22, hm23, hm24, hm25, hm26, hm27, hm28, hm29, hm30, hm31, hm32, hm33, hm34, hm35, hm36, hm37, hm38, hm39, hm40, hm41, hm42, hm43, hm44⟩ := hm; obtain ⟨⟨⟨g1, g2⟩, ⟨g3, g4, g5, g6, g7⟩, g8, g9, g10⟩, r1, r2, r3, r4, r5, r6⟩ := hr
  have C0 := hm10 0 (by decide)
  have C1 := hm10 1 (by decide)
  have C2 := hm10 2 (by decide)
  have D0 := hm11 0 (by decide)
  have D1 := hm11 1 (by decide)
  have D2 := hm11 2 (by decide)
  have D := hm29 i iL
  simp only [Nat.reduceAdd] at A0 A1 A2 B0 B1 B2 C0 C1 C2 D0 D1 D2
  simp (config := {decide := true}) only [b_X8_tasteNow_16, b_X8_tasteNow_0, f_X8_tasteNow, l_X8_tasteNow_16, itr_40, itr_39, itr_38, itr_37, itr_36, N, G, A0, A1, A2, B0, B1, B2, C0, C1, C2, D0, D1, D2, D, hm0, hm2, hm3, hm6, hm7, m_held, gI_pt hj, gR_pt hj, ob_pt hj, ck_pt hj, pI_pt hj, pB_pt hj, pR_pt hj, aI_pt hj, aR_pt hj, wI_pt hj, wJ_pt hj, aL_pt hj, cl1_s, cl1_n, cl1_i, cx1_s, cx1_x, cx1_n, cx1_i, nul_n, nul_s, nm, dv2, dv3, dv4, dv5, dv8, dv10, dv20, dv40, thr, bo, mI_pt hj, mT_pt hj, sB_pt, mZ_pt, mJ_pt, mJ_sJ, mZ_sJ, tn0, tn1, tn2, tn3, tn4, tn5, tn6, TV, tlV, ii0, ii1, ii2, ii3, ii4, if_true, if_false, ne_eq, not_false_eq_true, not_true_eq_false, true_and, and_true, false_and, and_false, and_self, true_or, or_true, false_or, or_false, or_self, Nat.reduceAdd, Nat.reduceLT, Nat.reduceLeDiff, Nat.succ_ne_zero, reduceIte, reduceCtorEq]
theorem x_tasteN {e : Nat} {σ' : Mem} (hj : Inj φ T) (hx0 : T 0 = (7, 0)) (N : f_X4_note (φ 0) p a (pt φ T I R τ) = some (.inr e, σ')) : f_X4_taste (φ 0) p a (pt φ T I R τ) = some (.inr e, σ') := by
  simp (config := {decide := true}) only [f_X4_taste, b_X4_taste_0, N, ob_pt hj, hx0, cx1_x, thr]
theorem op_taste {x m o : Nat} {σ : Mem} (p a : Int32) (hn : n < 600) (h : Jn e0 x m o n σ) : Agr e0 x m o n (f_L_taste (some x) p a (some o) σ) (fun σ => f_X8_taste m p a σ) := by
  obtain ⟨φ, T, I, R, τ, nS, nL, cS, cL, mx, cB, bl, rfl, ⟨rfl, rfl, rfl⟩, h⟩ := h
  have h : Cx φ T I R (mZ τ) e0 nS nL cS cL mx cB bl n := h
  have hj := h.hj
  have h0 := h.m.1
  have hx0 := h.m.2.2.2.2.2.2.2
  have h132 := h.m.2.2.2.2.2.2.1
  by_cases hp : InN p nL
  · by_cases ha : 0 ≤ a ∧ a ≤ 2
    · have iL := (idx h.m.2.2.2.2.1 hp.1 hp.2).2.2.2.2
      have hN := h.m.2.2.2.2.1
      generalize hi : p.toNatClampNeg = i at iL
      by_cases hs : I (6 * i + 19) 0 = 2
      · obtain ⟨k, -, rfl, hk1, -⟩ := natOf ha.1 ha.2 (by decide)
        have hk : k < 3 := by have : (2 : Int32).toInt = 2 := rfl
                              omega
        have i16 : i < 16 := by omega
        refine Agr.val (v := TV I (NV I i k)) (τ' := sJ τ (φ 132) 0 (TV I (NV I i k)).toInt64) h (Nat.le_refl _) sJ_at ?_ ?_
        · simp (config := {decide := true}) only [f_L_taste, b_L_taste_0, x_taste h (by omega) hp hi hs hk, gI_pt hj, gR_pt hj, ob_pt hj, ck_pt hj, pI_pt hj, pB_pt hj, pR_pt hj, aI_pt hj, aR_pt hj, wI_pt hj, wJ_pt hj, aL_pt hj, cl1_s, cl1_n, cl1_i, cx1_s, cx1_x, cx1_n, cx1_i, nul_n, nul_s, nm, dv2, dv3, dv4, dv5, dv8, dv10, dv20, dv40, thr, bo, mI_pt hj, mT_pt hj, sB_pt, mZ_pt, mJ_pt, mJ_sJ, mZ_sJ, tn0, tn1, tn2, tn3, tn4, tn5, tn6, hx0, h132, ii0, ii1, ii2, ii3, ii4, if_true, if_false, ne_eq, not_false_eq_true, not_true_eq_false, true_and, and_true, false_and, and_false, and_self, true_or, or_true, false_or, or_false, or_self, Nat.reduceAdd, Nat.reduceLT, Nat.reduceLeDiff, Nat.succ_ne_zero, reduceIte, reduceCtorEq]
        · have h' : Cx φ T I R (mZ (sJ τ (φ 132) 0 (TV I (NV I i k)).toInt64)) e0 nS nL cS cL mx cB bl n := h
          have hs' : (up2 I 124 0 0) (6 * i + 19) 0 ≠ 3 := by
            rw [up2_row (by omega), hs]; decide
          simp (config := {decide := true}) only [f_X8_taste, b_X8_taste_0, b_X8_taste_19, m_isNote h' hp hi hs ha.1 ha.2, m_tasteNow (Cx.thr h') (by omega) hp hi hs' hk, NV_thr i16, TV_thr, gI_pt hj, gR_pt hj, ob_pt hj, ck_pt hj, pI_pt hj, pB_pt hj, pR_pt hj, aI_pt hj, aR_pt hj, wI_pt hj, wJ_pt hj, aL_pt hj, cl1_s, cl1_n, cl1_i, cx1_s, cx1_x, cx1_n, cx1_i, nul_n, nul_s, nm, dv2, dv3, dv4, dv5, dv8, dv10, dv20, dv40, thr, bo, mI_pt hj, mT_pt hj, sB_pt, mZ_pt, mJ_pt, mJ_sJ, mZ_sJ, tn0, tn1, tn2, tn3, tn4, tn5, tn6, h0, ii0, ii1, ii2, ii3, ii4, if_true, if_false, ne_eq, not_false_eq_true, not_true_eq_false, true_and, and_true, false_and, and_false, and_self, true_or, or_true, false_or, or_false, or_self, Nat.reduceAdd, Nat.reduceLT, Nat.reduceLeDiff, Nat.succ_ne_zero, reduceIte, reduceCtorEq]
      · refine Agr.bad (k := 3) (b := 0) h (by decide) ?_ ?_
        · simp (config := {decide := true}) only [f_L_taste, b_L_taste_0, x_tasteN hj hx0 (x_noteN2 h hp hi ha.1 ha.2 hs), gI_pt hj, gR_pt hj, ob_pt hj, ck_pt hj, pI_pt hj, pB_pt hj, pR_pt hj, aI_pt hj, aR_pt hj, wI_pt hj, wJ_pt hj, aL_pt hj, cl1_s, cl1_n, cl1_i, cx1_s, cx1_x, cx1_n, cx1_i, nul_n, nul_s, nm, dv2, dv3, dv4, dv5, dv8, dv10, dv20, dv40, thr, bo, mI_pt hj, mT_pt hj, sB_pt, mZ_pt, mJ_pt, mJ_sJ, mZ_sJ, tn0, tn1, tn2, tn3, tn4, tn5, tn6, hx0, ii0, ii1, ii2, ii3, ii4, if_true, if_false, ne_eq, not_false_eq_true, not_true_eq_false, true_and, and_true, false_and, and_false, and_self, true_or, or_true, false_or, or_false, or_self, Nat.reduceAdd, Nat.reduceLT, Nat.reduceLeDiff, Nat.succ_ne_zero, reduceIte, reduceCtorEq]
        · have h' : Cx φ T I R (mZ (sB τ)) e0 nS nL cS cL mx cB bl n := h.up (Nat.le_succ _)
          simp (config := {decide := true}) only [f_X8_taste, b_X8_taste_0, b_X8_taste_19, m_isNoteN2 h' hp hi hs ha.1 ha.2, gI_pt hj, gR_pt hj, ob_pt hj, ck_pt hj, pI_pt hj, pB_pt hj, pR_pt hj, aI_pt hj, aR_pt hj, wI_pt hj, wJ_pt hj, aL_pt hj, cl1_s, cl1_n, cl1_i, cx1_s, cx1_x, cx1_n, cx1_i, nul_n, nul_s, nm, dv2, dv3, dv4, dv5, dv8, dv10, dv20, dv40, thr, bo, mI_pt hj, mT_pt hj, sB_pt, mZ_pt, mJ_pt, mJ_sJ, mZ_sJ, tn0, tn1, tn2, tn3, tn4, tn5, tn6, h0, ii0, ii1, ii2, ii3, ii4, if_true, if_false, ne_eq, not_false_eq_true, not_true_eq_false, true_and, and_true, false_and, and_false, and_self, true_or, or_true, false_or, or_false, or_self, Nat.reduceAdd, Nat.reduceLT, Nat.reduceLeDiff, Nat.succ_ne_zero, reduceIte, reduceCtorEq]
    · refine Agr.bad (k := 2) (b := 0) h (by decide) ?_ ?_
      · simp (config := {decide := true}) only [f_L_taste, b_L_taste_0, x_tasteN hj hx0 (x_noteN1 h hp rfl ha), gI_pt hj, gR_pt hj, ob_pt hj, ck_pt hj, pI_pt hj, pB_pt hj, pR_pt hj, aI_pt hj, aR_pt hj, wI_pt hj, wJ_pt hj, aL_pt hj, cl1_s, cl1_n, cl1_i, cx1_s, cx1_x, cx1_n, cx1_i, nul_n, nul_s, nm, dv2, dv3, dv4, dv5, dv8, dv10, dv20, dv40, thr, bo, mI_pt hj, mT_pt hj, sB_pt, mZ_pt, mJ_pt, mJ_sJ, mZ_sJ, tn0, tn1, tn2, tn3, tn4, tn5, tn6, hx0, ii0, ii1, ii2, ii3, ii4, if_true, if_false, ne_eq, not_false_eq_true, not_true_eq_false, true_and, and_true, false_and, and_false, and_self, true_or, or_true, false_or, or_false, or_self, Nat.reduceAdd, Nat.reduceLT, Nat.reduceLeDiff, Nat.succ_ne_zero, reduceIte, reduceCtorEq]
      · have h' : Cx φ T I R (mZ (sB τ)) e0 nS nL cS cL mx cB bl n := h.up (Nat.le_succ _)
        simp (config := {decide := true}) only [f_X8_taste, b_X8_taste_0, b_X8_taste_19, m_isNoteN1 h' hp ha, gI_pt hj, gR_pt hj, ob_pt hj, ck_pt hj, pI_pt hj, pB_pt hj, pR_pt hj, aI_pt hj, aR_pt hj, wI_pt hj, wJ_pt hj, aL_pt hj, cl1_s, cl1_n, cl1_i, cx1_s, cx1_x, cx1_n, cx1_i, nul_n, nul_s, nm, dv2, dv3, dv4, dv5, dv8, dv10, dv20, dv40, thr, bo, mI_pt hj, mT_pt hj, sB_pt, mZ_pt, mJ_pt, mJ_sJ, mZ_sJ, tn0, tn1, tn2, tn3, tn4, tn5, tn6, h0, ii0, ii1, ii2, ii3, ii4, if_true, if_false, ne_eq, not_false_eq_true, not_true_eq_false, true_and, and_true, false_and, and_false, and_self, true_or, or_true, false_or, or_false, or_self, Nat.reduceAdd, Nat.reduceLT, Nat.reduceLeDiff, Nat.succ_ne_zero, reduceIte, reduceCtorEq]
  · refine Agr.bad (k := 1) (b := 0) h (by decide) ?_ ?_
    · simp (config := {decide := true}) only [f_L_taste, b_L_taste_0, x_tasteN hj hx0 (x_noteN3 h hp), gI_pt hj, gR_pt hj, ob_pt hj, ck_pt hj, pI_pt hj, pB_pt hj, pR_pt hj, aI_pt hj, aR_pt hj, wI_pt hj, wJ_pt hj, aL_pt hj, cl1_s, cl1_n, cl1_i, cx1_s, cx1_x, cx1_n, cx1_i, nul_n, nul_s, nm, dv2, dv3, dv4, dv5, dv8, dv10, dv20, dv40, thr, bo, mI_pt hj, mT_pt hj, sB_pt, mZ_pt, mJ_pt, mJ_sJ, mZ_sJ, tn0, tn1, tn2, tn3, tn4, tn5, tn6, hx0, ii0, ii1, ii2, ii3, ii4, if_true, if_false, ne_eq, not_false_eq_true, not_true_eq_false, true_and, and_true, false_and, and_false, and_self, true_or, or_true, false_or, or_false, or_self, Nat.reduceAdd, Nat.reduceLT, Nat.reduceLeDiff, Nat.succ_ne_zero, reduceIte, reduceCtorEq]
    · have h' : Cx φ T I R (mZ (sB τ)) e0 nS nL cS cL mx cB bl n := h.up (Nat.le_succ _)
      simp (config := {decide := true}) only [f_X8_taste, b_X8_taste_0, b_X8_taste_19, m_isNoteN3 h' hp, gI_pt hj, gR_pt hj, ob_pt hj, ck_pt hj, pI_pt hj, pB_pt hj, pR_pt hj, aI_pt hj, aR_pt hj, wI_pt hj, wJ_pt hj, aL_pt hj, cl1_s, cl1_n, cl1_i, cx1_s, cx1_x, cx1_n, cx1_i, nul_n, nul_s, nm, dv2, dv3, dv4, dv5, dv8, dv10, dv20, dv40, thr, bo, mI_pt hj, mT_pt hj, sB_pt, mZ_pt, mJ_pt, mJ_sJ, mZ_sJ, tn0, tn1, tn2, tn3, tn4, tn5, tn6, h0, ii0, ii1, ii2, ii3, ii4, if_true, if_false, ne_eq, not_false_eq_true, not_true_eq_false, true_and, and_true, false_and, and_false, and_self, true_or, or_true, false_or, or_false, or_self, Nat.reduceAdd, Nat.reduceLT, Nat.reduceLeDiff, Nat.succ_ne_zero, reduceIte, reduceCtorEq]
end TS

/-! REPEAT -/
section RP
variable {φ : Nat → Nat} {T : Nat → Nat × Nat} {I : Nat → Nat → Int32} {R : Nat → Nat → Option Nat} {τ : Mem} {e0 nS nL cS cL n z : Nat} {mx : Nat → Int32} {cB : Nat → Nat} {bl : Nat → List (Nat × Int32)}
variable {J : Nat → Nat → Int32} {p q a x y s : Int32} {i k j v w : Nat}
theorem u10 {f : Nat → Nat → Int32} : up2 f v 1 x w 0 = f w 0 := up2_k (by decide)
theorem u12 {f : Nat → Nat → Int32} : up2 f v 1 x w 2 = f w 2 := up2_k (by decide)
theorem u20 {f : Nat → Nat → Int32} : up2 f v 2 x w 0 = f w 0 := up2_k (by decide)
theorem u21 {f : Nat → Nat → Int32} : up2 f v 2 x w 1 = f w 1 := up2_k (by decide)
theorem Agr.fin {X : Option (Int32 × Mem)} {M : Mem → Option (Int32 × Mem)} {b : Int32} {σ1 τ2 : Mem} {φ2 : Nat → Nat} {T2 : Nat → Nat × Nat} {I2 : Nat → Nat → Int32} {R2 : Nat → Nat → Option Nat} {nS2 nL2 cS2 cL2 : Nat} {mx2 : Nat → Int32} {cB2 : Nat → Nat} {bl2 : Nat → List (Nat × Int32)} (h : Cx φ2 T2 I2 R2 (mZ τ2) e0 nS2 nL2 cS2 cL2 mx2 cB2 bl2 (n + 1)) (hX : X = some (0, σ1)) (hM : M σ1 = some (b, pt φ2 T2 I2 R2 τ2)) (h0 : I2 124 0 = 0) (hJ : mJ τ2 (φ2 132) 0 = b.toInt64) : Agr e0 (φ2 0) (φ2 124) (φ2 132) n X M := by
  refine Agr.of hX hM h.jn ?_ (fun _ => hJ)
  rw [mI_pt h.1 (by rw [h.m.1]; decide)]; exact h0
theorem Cx.rel {I' : Nat → Nat → Int32} {n' : Nat} (h : Cx φ T I R z e0 nS nL cS cL mx cB bl n) (he : ∀ v, v = 125 ∨ v = 126 ∨ (∃ i k, i < nL ∧ 3 ≤ k ∧ k < 9 ∧ v = 10 * i + 150 + k) → I' v = I v) (hr : Rel I' nS nL mx bl n') : Cx φ T I' R z e0 nS nL cS cL mx cB bl n' := ⟨h.1, h.2.1, h.2.2.1, h.2.2.2.1.rows he, hr⟩
theorem m_dryJ (h : Cx φ T I R z e0 nS nL cS cL mx cB bl n) (hi : i < nL) (h1 : J (10 * i + 151) = I (10 * i + 151)) : f_X5_dry (φ (10 * i + 150)) (pt φ T J R τ) = some (I (6 * i + 19) 1, pt φ T J R τ) := by
  obtain ⟨hj, hl, hx, hm, hr⟩ := h; obtain ⟨hx0, hx1, hx2, hx3, hx4, hx5, hx6, hx7, hx8, hx9, hx10, hx11, hx12, hx13, hx14, hx15, hx16, hx17, hx18, hx19, hx20, hx21, hx22, hx23, hx24, hx25, hx26, hx27⟩ := hx; obtain ⟨hm0, hm1, hm2, hm3, hm4, hm5, hm6, hm7, hm8, hm9, hm10, hm11, hm12, hm13, hm14, hm15, hm16, hm17, hm18, hm19, hm20, hm21, hm22, hm23, hm24, hm25, hm26, hm27, hm28, hm29, hm30, hm31, hm32, hm33, hm34, hm35, hm36, hm37, hm38, hm39, hm40, hm41, hm42, hm43, hm44⟩ := hm; obtain ⟨⟨⟨g1, g2⟩, ⟨g3, g4, g5, g6, g7⟩, g8, g9, g10⟩, r1, r2, r3, r4, r5, r6⟩ := hr
  rw [mdry hj (hm29 i hi) (hm30 i hi) (hm31 i hi), (r1 i hi).2.2.1.1, h1]
theorem m_noteJ (h : Cx φ T I R z e0 nS nL cS cL mx cB bl n) (hi : i < nL) (h1 : J (10 * i + 150) = I (10 * i + 150)) (h2 : J (10 * i + 151) = I (10 * i + 151)) (h3 : J (10 * i + 152) = I (10 * i + 152)) (hs : I (6 * i + 19) 0 ≠ 3) (hk : k < 3) : f_X5_note (φ (10 * i + 150)) (Int32.ofNat k) (pt φ T J R τ) = some (NV I i k, pt φ T J R τ) := by
  have D := m_dryJ (τ := τ) h hi h2
  obtain ⟨hj, hl, hx, hm, hr⟩ := h; obtain ⟨hx0, hx1, hx2, hx3, hx4, hx5, hx6, hx7, hx8, hx9, hx10, hx11, hx12, hx13, hx14, hx15, hx16, hx17, hx18, hx19, hx20, hx21, hx22, hx23, hx24, hx25, hx26, hx27⟩ := hx; obtain ⟨hm0, hm1, hm2, hm3, hm4, hm5, hm6, hm7, hm8, hm9, hm10, hm11, hm12, hm13, hm14, hm15, hm16, hm17, hm18, hm19, hm20, hm21, hm22, hm23, hm24, hm25, hm26, hm27, hm28, hm29, hm30, hm31, hm32, hm33, hm34, hm35, hm36, hm37, hm38, hm39, hm40, hm41, hm42, hm43, hm44⟩ := hm; obtain ⟨⟨⟨g1, g2⟩, ⟨g3, g4, g5, g6, g7⟩, g8, g9, g10⟩, r1, r2, r3, r4, r5, r6⟩ := hr
  obtain ⟨⟨E0, E2, E3, E4, E5, E6, E7, E8, E9, E10, E11, E12, E13⟩, -, -, ⟨-, q4⟩, -, q6, -⟩ := r1 i hi
  have dp := q6.2.1 hs
  have z : (0 : Int32).toInt = 0 := rfl
  have d1 : ¬ I (6 * i + 19) 1 ≤ 0 := fun q => by have := leT q; omega
  have d2 : I (6 * i + 19) 1 ≠ 0 := fun q => by rw [q] at dp; omega
  by_cases c : mx i = 0
  · have R0 : R (10 * i + 150) 12 = none := by rw [hm32 i hi, if_pos c]
    rw [m_noteL hj (hm29 i hi) R0 D d2 hk, NV, nvX, if_pos (by rw [E12, c]), if_neg d1, E2, h1]
    rw [leafT_eq E4 E5 E6 E7 E8 E9 E10 E11]
  · have R0 : R (10 * i + 150) 12 = some (φ (10 * i + 152)) := by rw [hm32 i hi, if_neg c]
    rw [m_noteM hj (hm29 i hi) R0 (hm33 i hi c) hk, NV, nvX, if_neg (by rw [E12]; exact c), (q4 c k hk).1, h3]
theorem x_noteJ (h : Cx φ T I R z e0 nS nL cS cL mx cB bl n) (hi : i < 17) (h1 : J (6 * i + 19) = I (6 * i + 19)) (h2 : J (6 * i + 21) = I (6 * i + 21)) (hk : k < 3) : f_X1_noteOf (φ (6 * i + 19)) (Int32.ofNat k) (pt φ T J R τ) = some (NV I i k, pt φ T J R τ) := by
  obtain ⟨hj, hl, hx, hm, hr⟩ := h; obtain ⟨hx0, hx1, hx2, hx3, hx4, hx5, hx6, hx7, hx8, hx9, hx10, hx11, hx12, hx13, hx14, hx15, hx16, hx17, hx18, hx19, hx20, hx21, hx22, hx23, hx24, hx25, hx26, hx27⟩ := hx; obtain ⟨hm0, hm1, hm2, hm3, hm4, hm5, hm6, hm7, hm8, hm9, hm10, hm11, hm12, hm13, hm14, hm15, hm16, hm17, hm18, hm19, hm20, hm21, hm22, hm23, hm24, hm25, hm26, hm27, hm28, hm29, hm30, hm31, hm32, hm33, hm34, hm35, hm36, hm37, hm38, hm39, hm40, hm41, hm42, hm43, hm44⟩ := hm; obtain ⟨⟨⟨g1, g2⟩, ⟨g3, g4, g5, g6, g7⟩, g8, g9, g10⟩, r1, r2, r3, r4, r5, r6⟩ := hr
  rw [x_noteOf hj (hx15 i hi) (fun _ => ⟨hx17 i hi, hx20 i hi⟩) hk, h1, h2, NV]
def dfV (x l : Int32) : Int32 := hld (x + l) - x
def RS (I : Nat → Nat → Int32) (i j : Nat) : Int32 := I (j + 3) 1 + dfV (NV I i 0) (I (j + 3) 0) + dfV (NV I i 1) (I (j + 3) 0) + dfV (NV I i 2) (I (j + 3) 0)
theorem x_repLoop (h : Cx φ T I R (mZ τ) e0 nS nL cS cL mx cB bl n) (hn : n < 999) (hi : i < 16) (hj3 : j < 3) : l_X4_repeat_16 40 (some (φ (j + 3))) (some (φ (6 * i + 19))) 0 (pt φ T I R τ) = some (.inl (gs (RS I i j) (I (j + 3) 2 + 1)), pt φ T (up2 (up2 I (j + 3) 1 (RS I i j)) (j + 3) 2 (I (j + 3) 2 + 1)) R τ) := by
  have n1 : 6 * i + 19 ≠ j + 3 := by omega
  have n2 : 6 * i + 21 ≠ j + 3 := by omega
  have N0 : ∀ x, f_X1_noteOf (φ (6 * i + 19)) 0 (pt φ T (up2 I (j + 3) 1 x) R τ) = some (NV I i 0, pt φ T (up2 I (j + 3) 1 x) R τ) := fun x => x_noteJ (k := 0) h (by omega) (up2_row n1) (up2_row n2) (by decide)
  have N0' : f_X1_noteOf (φ (6 * i + 19)) 0 (pt φ T I R τ) = some (NV I i 0, pt φ T I R τ) := x_noteJ (k := 0) h (by omega) rfl rfl (by decide)
  have N1 : ∀ x, f_X1_noteOf (φ (6 * i + 19)) 1 (pt φ T (up2 I (j + 3) 1 x) R τ) = some (NV I i 1, pt φ T (up2 I (j + 3) 1 x) R τ) := fun x => x_noteJ (k := 1) h (by omega) (up2_row n1) (up2_row n2) (by decide)
  have N2 : ∀ x, f_X1_noteOf (φ (6 * i + 19)) 2 (pt φ T (up2 I (j + 3) 1 x) R τ) = some (NV I i 2, pt φ T (up2 I (j + 3) 1 x) R τ) := fun x => x_noteJ (k := 2) h (by omega) (up2_row n1) (up2_row n2) (by decide)
  obtain ⟨hj, hl, hx, hm, hr⟩ := h; obtain ⟨hx0, hx1, hx2, hx3, hx4, hx5, hx6, hx7, hx8, hx9, hx10, hx11, hx12, hx13, hx14, hx15, hx16, hx17, hx18, hx19, hx20, hx21, hx22, hx23, hx24, hx25, hx26, hx27⟩ := hx; obtain ⟨hm0, hm1, hm2, hm3, hm4, hm5, hm6, hm7, hm8, hm9, hm10, hm11, hm12, hm13, hm14, hm15, hm16, hm17, hm18, hm19, hm20, hm21, hm22, hm23, hm24, hm25, hm26, hm27, hm28, hm29, hm30, hm31, hm32, hm33, hm34, hm35, hm36, hm37, hm38, hm39, hm40, hm41, hm42, hm43, hm44⟩ := hm; obtain ⟨⟨⟨g1, g2⟩, ⟨g3, g4, g5, g6, g7⟩, g8, g9, g10⟩, r1, r2, r3, r4, r5, r6⟩ := hr
  obtain ⟨-, -, -, u3, u4⟩ := r5 j hj3
  have z1 : (1 : Int32).toInt = 1 := rfl
  have e1 : (I (j + 3) 2 + 1).toInt = (I (j + 3) 2).toInt + 1 := tAdd (by omega) (by omega)
  have G := x_guess (I := up2 (up2 I (j + 3) 1 (RS I i j)) (j + 3) 2 (I (j + 3) 2 + 1)) (R := R) (τ := τ) hj (hx27 j hj3) (by rw [up2_at]; omega) (by rw [up2_at]; omega)
  rw [up2_at, u21, up2_at] at G
  have T1 := hx27 j hj3
  have T2 := hx15 i (by omega)
  simp only [RS, dfV] at G ⊢
  simp (config := {decide := true}) only [l_X4_repeat_16, itr_40, itr_39, itr_38, itr_37, itr_36, b_X4_repeat_16, N0, N0', N1, N2, x_tells hj T1, up2_up2, up2_at, u10, u12, G, T1, T2, gI_pt hj, gR_pt hj, ob_pt hj, ck_pt hj, pI_pt hj, pB_pt hj, pR_pt hj, aI_pt hj, aR_pt hj, wI_pt hj, wJ_pt hj, aL_pt hj, cl1_s, cl1_n, cl1_i, cx1_s, cx1_x, cx1_n, cx1_i, nul_n, nul_s, nm, dv2, dv3, dv4, dv5, dv8, dv10, dv20, dv40, thr, bo, mI_pt hj, mT_pt hj, sB_pt, mZ_pt, mJ_pt, mJ_sJ, mZ_sJ, tn0, tn1, tn2, tn3, tn4, tn5, tn6, ii0, ii1, ii2, ii3, ii4, if_true, if_false, ne_eq, not_false_eq_true, not_true_eq_false, true_and, and_true, false_and, and_false, and_self, true_or, or_true, false_or, or_false, or_self, Nat.reduceAdd, Nat.reduceLT, Nat.reduceLeDiff, Nat.succ_ne_zero, reduceIte, reduceCtorEq]
theorem m_repLoop (h : Cx φ T I R (mZ τ) e0 nS nL cS cL mx cB bl n) (hn : n < 999) (hp : InN p nL) (hi : p.toNatClampNeg = i) (hs : I (6 * i + 19) 0 ≠ 3) (hj3 : j < 3) (hJ : ∀ v, v ≠ 124 → v ≠ j + 3 → J v = I v) : l_X8_repeat_62 40 (φ 124) p (some (φ (j + 129))) 0 (pt φ T J R τ) = some (gs (RS I i j) (I (j + 3) 2 + 1), pt φ T (up2 (up2 J (j + 129) 1 (RS I i j)) (j + 129) 2 (I (j + 3) 2 + 1)) R τ) := by
  have iL : i < nL := hi ▸ (idx h.m.2.2.2.2.1 hp.1 hp.2).2.2.2.2
  have N : ∀ k, k < 3 → ∀ x, f_X5_note (φ (10 * i + 150)) (Int32.ofNat k) (pt φ T (up2 J (j + 129) 1 x) R τ) = some (NV I i k, pt φ T (up2 J (j + 129) 1 x) R τ) := fun k hk x => m_noteJ h iL ((up2_row (by omega)).trans (hJ _ (by omega) (by omega))) ((up2_row (by omega)).trans (hJ _ (by omega) (by omega))) ((up2_row (by omega)).trans (hJ _ (by omega) (by omega))) hs hk
  have N0 : ∀ x, f_X5_note (φ (10 * i + 150)) 0 (pt φ T (up2 J (j + 129) 1 x) R τ) = some (NV I i 0, pt φ T (up2 J (j + 129) 1 x) R τ) := N 0 (by decide)
  have N1 : ∀ x, f_X5_note (φ (10 * i + 150)) 1 (pt φ T (up2 J (j + 129) 1 x) R τ) = some (NV I i 1, pt φ T (up2 J (j + 129) 1 x) R τ) := N 1 (by decide)
  have N2 : ∀ x, f_X5_note (φ (10 * i + 150)) 2 (pt φ T (up2 J (j + 129) 1 x) R τ) = some (NV I i 2, pt φ T (up2 J (j + 129) 1 x) R τ) := N 2 (by decide)
  have N0' : f_X5_note (φ (10 * i + 150)) 0 (pt φ T J R τ) = some (NV I i 0, pt φ T J R τ) := m_noteJ (k := 0) h iL (hJ _ (by omega) (by omega)) (hJ _ (by omega) (by omega)) (hJ _ (by omega) (by omega)) hs (by decide)
  have G1 : ∀ x, f_Jx4a65c_get_915e3 (φ 126) p (pt φ T (up2 J (j + 129) 1 x) R τ) = some (some (φ (10 * i + 150)), pt φ T (up2 J (j + 129) 1 x) R τ) := fun x => m_getJ h ((up2_row (by omega)).trans (hJ _ (by omega) (by omega))) hp hi
  have G0 : f_Jx4a65c_get_915e3 (φ 126) p (pt φ T J R τ) = some (some (φ (10 * i + 150)), pt φ T J R τ) := m_getJ h (hJ _ (by omega) (by omega)) hp hi
  have Jt : J (j + 129) = I (j + 129) := hJ _ (by omega) (by omega)
  obtain ⟨hj, hl, hx, hm, hr⟩ := h; obtain ⟨hx0, hx1, hx2, hx3, hx4, hx5, hx6, hx7, hx8, hx9, hx10, hx11, hx12, hx13, hx14, hx15, hx16, hx17, hx18, hx19, hx20, hx21, hx22, hx23, hx24, hx25, hx26, hx27⟩ := hx; obtain ⟨hm0, hm1, hm2, hm3, hm4, hm5, hm6, hm7, hm8, hm9, hm10, hm11, hm12, hm13, hm14, hm15, hm16, hm17, hm18, hm19, hm20, hm21, hm22, hm23, hm24, hm25, hm26, hm27, hm28, hm29, hm30, hm31, hm32, hm33, hm34, hm35, hm36, hm37, hm38, hm39, hm40, hm41, hm42, hm43, hm44⟩ := hm; obtain ⟨⟨⟨g1, g2⟩, ⟨g3, g4, g5, g6, g7⟩, g8, g9, g10⟩, r1, r2, r3, r4, r5, r6⟩ := hr
  obtain ⟨v0, v1, v2, u3, u4⟩ := r5 j hj3
  have z1 : (1 : Int32).toInt = 1 := rfl
  have e1 : (I (j + 3) 2 + 1).toInt = (I (j + 3) 2).toInt + 1 := tAdd (by omega) (by omega)
  have G := m_guess (I := up2 (up2 J (j + 129) 1 (RS I i j)) (j + 129) 2 (I (j + 3) 2 + 1)) (R := R) (τ := τ) hj (hm11 j hj3) (by rw [up2_at]; omega) (by rw [up2_at]; omega)
  rw [up2_at, u21, up2_at] at G
  have T1 := hm11 j hj3
  have T2 := hm29 i iL
  simp only [RS, dfV] at G ⊢
  simp (config := {decide := true}) only [l_X8_repeat_62, itr_40, itr_39, itr_38, itr_37, itr_36, b_X8_repeat_62, N0, N0', N1, N2, G0, G1, m_tells hj T1, up2_up2, up2_at, u10, u12, Jt, ← v0, ← v1, ← v2, G, T1, T2, hm0, hm2, hm6, gI_pt hj, gR_pt hj, ob_pt hj, ck_pt hj, pI_pt hj, pB_pt hj, pR_pt hj, aI_pt hj, aR_pt hj, wI_pt hj, wJ_pt hj, aL_pt hj, cl1_s, cl1_n, cl1_i, cx1_s, cx1_x, cx1_n, cx1_i, nul_n, nul_s, nm, dv2, dv3, dv4, dv5, dv8, dv10, dv20, dv40, thr, bo, mI_pt hj, mT_pt hj, sB_pt, mZ_pt, mJ_pt, mJ_sJ, mZ_sJ, tn0, tn1, tn2, tn3, tn4, tn5, tn6, ii0, ii1, ii2, ii3, ii4, if_true, if_false, ne_eq, not_false_eq_true, not_true_eq_false, true_and, and_true, false_and, and_false, and_self, true_or, or_true, false_or, or_false, or_self, Nat.reduceAdd, Nat.reduceLT, Nat.reduceLeDiff, Nat.succ_ne_zero, reduceIte, reduceCtorEq]
theorem op_repeat {x m o : Nat} {σ : Mem} (p q : Int32) (hn : n < 600) (h : Jn e0 x m o n σ) : Agr e0 x m o n (f_L_repeat (some x) p q (some o) σ) (fun σ => f_X8_repeat m p q σ) := by
  obtain ⟨φ, T, I, R, τ, nS, nL, cS, cL, mx, cB, bl, rfl, ⟨rfl, rfl, rfl⟩, h⟩ := h
  have h : Cx φ T I R (mZ τ) e0 nS nL cS cL mx cB bl n := h
  have hj := h.hj
  have h0 := h.m.1
  have hx0 := h.m.2.2.2.2.2.2.2
  have h132 := h.m.2.2.2.2.2.2.1
  have h' : Cx φ T I R (mZ (sB τ)) e0 nS nL cS cL mx cB bl n := h.up (Nat.le_succ _)
  by_cases hp : InN p 3
  · have j3 := (idx (show 3 ≤ 16 by decide) hp.1 hp.2).2.2.2.2
    generalize hpj : p.toNatClampNeg = j at j3
    by_cases hq : InN q nL
    · have iL := (idx h.m.2.2.2.2.1 hq.1 hq.2).2.2.2.2
      have hN := h.m.2.2.2.2.1
      generalize hi : q.toNatClampNeg = i at iL
      have i16 : i < 16 := by omega
      have T4 : T (6 * i + 19) = (4, 0) := h.2.2.1.2.2.2.2.2.2.2.2.2.2.2.2.2.2.2.1 i (by omega)
      have E0 : I (6 * i + 19) 0 = I (10 * i + 150) 0 := (h.2.2.2.2.2.1 i iL).1.1
      by_cases hs : I (6 * i + 19) 0 = 2
      · refine Agr.fin (b := gs (RS I i j) (I (j + 3) 2 + 1)) (σ1 := pt φ T (up2 (up2 I (j + 3) 1 (RS I i j)) (j + 3) 2 (I (j + 3) 2 + 1)) R (sJ τ (φ 132) 0 (gs (RS I i j) (I (j + 3) 2 + 1)).toInt64)) (τ2 := sJ τ (φ 132) 0 (gs (RS I i j) (I (j + 3) 2 + 1)).toInt64) (T2 := T) (R2 := R) (φ2 := φ) (I2 := up2 (up2 (up2 (up2 (up2 I (j + 3) 1 (RS I i j)) (j + 3) 2 (I (j + 3) 2 + 1)) 124 0 0) (j + 129) 1 (RS I i j)) (j + 129) 2 (I (j + 3) 2 + 1)) (nS2 := nS) (nL2 := nL) (cS2 := cS) (cL2 := cL) (mx2 := mx) (cB2 := cB) (bl2 := bl) ?_ ?_ ?_ ?_ sJ_at
        · refine Cx.rel (n' := n + 1) h ?_ ?_
          · rintro v (rfl | rfl | ⟨i', k, h1, h2, h3, rfl⟩) <;> simp (disch := omega) only [up2_row]
          · refine Rel.tas h.2.2.2.2 j j3 hN h.m.2.2.2.2.2.1 ?_ ?_ ?_
            · intro v y1 y2 y3; simp (disch := omega) only [up2_row]
            · intro k y1 y2; simp (disch := omega) only [up2_row, up2_k]
            · obtain ⟨v0, v1, v2, u3, u4⟩ := h.2.2.2.2.2.2.2.2.2.1 j j3
              have z1 : (1 : Int32).toInt = 1 := rfl
              have e1 : (I (j + 3) 2 + 1).toInt = (I (j + 3) 2).toInt + 1 := tAdd (by omega) (by omega)
              unfold TasR
              simp (disch := omega) only [up2_row, up2_at, up2_k]
              refine ⟨v0, trivial, trivial, by omega, by omega⟩
        · have XL := x_repLoop (τ := τ) h (by omega) i16 j3
          simp (config := {decide := true}) only [f_L_repeat, b_L_repeat_0, f_X4_repeat, b_X4_repeat_0, f_X4_madeLotAt, b_X4_madeLotAt_0, b_X4_madeLotAt_19, x_tasAt h hp hpj, x_lotAt h hq hi, x_st1, hs, T4, XL, gI_pt hj, gR_pt hj, ob_pt hj, ck_pt hj, pI_pt hj, pB_pt hj, pR_pt hj, aI_pt hj, aR_pt hj, wI_pt hj, wJ_pt hj, aL_pt hj, cl1_s, cl1_n, cl1_i, cx1_s, cx1_x, cx1_n, cx1_i, nul_n, nul_s, nm, dv2, dv3, dv4, dv5, dv8, dv10, dv20, dv40, thr, bo, mI_pt hj, mT_pt hj, sB_pt, mZ_pt, mJ_pt, mJ_sJ, mZ_sJ, tn0, tn1, tn2, tn3, tn4, tn5, tn6, hx0, h132, ii0, ii1, ii2, ii3, ii4, if_true, if_false, ne_eq, not_false_eq_true, not_true_eq_false, true_and, and_true, false_and, and_false, and_self, true_or, or_true, false_or, or_false, or_self, Nat.reduceAdd, Nat.reduceLT, Nat.reduceLeDiff, Nat.succ_ne_zero, reduceIte, reduceCtorEq]
        · have hs' : I (6 * i + 19) 0 ≠ 3 := by rw [hs]; decide
          have NT := m_noTas (pt φ T (up2 (up2 I (j + 3) 1 (RS I i j)) (j + 3) 2 (I (j + 3) 2 + 1)) R (sJ τ (φ 132) 0 (gs (RS I i j) (I (j + 3) 2 + 1)).toInt64)) hp
          have NL : f_X8_isNoLot (φ 124) q (pt φ T (up2 (up2 I (j + 3) 1 (RS I i j)) (j + 3) 2 (I (j + 3) 2 + 1)) R (sJ τ (φ 132) 0 (gs (RS I i j) (I (j + 3) 2 + 1)).toInt64)) = some (0, pt φ T (up2 (up2 I (j + 3) 1 (RS I i j)) (j + 3) 2 (I (j + 3) 2 + 1)) R (sJ τ (φ 132) 0 (gs (RS I i j) (I (j + 3) 2 + 1)).toInt64)) := m_noLotJ h (by simp (disch := omega) only [up2_row]) hq
          have ML := m_repLoop (J := up2 (up2 (up2 I (j + 3) 1 (RS I i j)) (j + 3) 2 (I (j + 3) 2 + 1)) 124 0 0) (τ := sJ τ (φ 132) 0 (gs (RS I i j) (I (j + 3) 2 + 1)).toInt64) h (by omega) hq hi hs' j3 (by intro v y1 y2; simp (disch := omega) only [up2_row])
          have MS := m_stateJ (J := up2 (up2 (up2 I (j + 3) 1 (RS I i j)) (j + 3) 2 (I (j + 3) 2 + 1)) 124 0 0) (τ := sJ τ (φ 132) 0 (gs (RS I i j) (I (j + 3) 2 + 1)).toInt64) (s := 2) h (by simp (disch := omega) only [up2_row]) hq hi (by simp (disch := omega) only [up2_row]; rw [← E0]; exact hs)
          have M10 : R 127 p.toNatClampNeg = some (φ (j + 129)) := by
            rw [hpj]; exact h.2.2.2.1.2.2.2.2.2.2.2.2.2.2.1 j j3
          have M3 : R 124 8 = some (φ 127) := h.2.2.2.1.2.2.2.1
          have M7 : T 127 = (105, 3) := h.2.2.2.1.2.2.2.2.2.2.2.1
          rw [hpj] at M10
          simp (config := {decide := true}) only [f_X8_repeat, b_X8_repeat_0, b_X8_repeat_21, b_X8_repeat_43, NT, NL, m_start0 hj h0, m_ref0 hj h0, MS, hpj, hp.1, j3, M10, M3, M7, ML, gI_pt hj, gR_pt hj, ob_pt hj, ck_pt hj, pI_pt hj, pB_pt hj, pR_pt hj, aI_pt hj, aR_pt hj, wI_pt hj, wJ_pt hj, aL_pt hj, cl1_s, cl1_n, cl1_i, cx1_s, cx1_x, cx1_n, cx1_i, nul_n, nul_s, nm, dv2, dv3, dv4, dv5, dv8, dv10, dv20, dv40, thr, bo, mI_pt hj, mT_pt hj, sB_pt, mZ_pt, mJ_pt, mJ_sJ, mZ_sJ, tn0, tn1, tn2, tn3, tn4, tn5, tn6, h0, ii0, ii1, ii2, ii3, ii4, if_true, if_false, ne_eq, not_false_eq_true, not_true_eq_false, true_and, and_true, false_and, and_false, and_self, true_or, or_true, false_or, or_false, or_self, Nat.reduceAdd, Nat.reduceLT, Nat.reduceLeDiff, Nat.succ_ne_zero, reduceIte, reduceCtorEq]
        · simp (disch := omega) only [up2_row, up2_at]
      · refine Agr.bad (k := 2) (b := 0) h (by decide) ?_ ?_
        · simp (config := {decide := true}) only [f_L_repeat, b_L_repeat_0, f_X4_repeat, b_X4_repeat_0, f_X4_madeLotAt, b_X4_madeLotAt_0, b_X4_madeLotAt_19, x_tasAt h hp hpj, x_lotAt h hq hi, x_st0, hs, T4, gI_pt hj, gR_pt hj, ob_pt hj, ck_pt hj, pI_pt hj, pB_pt hj, pR_pt hj, aI_pt hj, aR_pt hj, wI_pt hj, wJ_pt hj, aL_pt hj, cl1_s, cl1_n, cl1_i, cx1_s, cx1_x, cx1_n, cx1_i, nul_n, nul_s, nm, dv2, dv3, dv4, dv5, dv8, dv10, dv20, dv40, thr, bo, mI_pt hj, mT_pt hj, sB_pt, mZ_pt, mJ_pt, mJ_sJ, mZ_sJ, tn0, tn1, tn2, tn3, tn4, tn5, tn6, hx0, h132, ii0, ii1, ii2, ii3, ii4, if_true, if_false, ne_eq, not_false_eq_true, not_true_eq_false, true_and, and_true, false_and, and_false, and_self, true_or, or_true, false_or, or_false, or_self, Nat.reduceAdd, Nat.reduceLT, Nat.reduceLeDiff, Nat.succ_ne_zero, reduceIte, reduceCtorEq]
        · have MS := m_stateN (s := 2) (Cx.thr (k := 0) h') hq hi (by rw [up2_row (by omega), ← E0]; exact hs)
          simp (config := {decide := true}) only [f_X8_repeat, b_X8_repeat_0, b_X8_repeat_21, b_X8_repeat_43, b_X8_repeat_50, m_noTas _ hp, m_noLot h' hq, m_start0 hj h0, m_ref1 hj h0 (show ¬ (2 : Int32) ≤ 0 by decide), MS, gI_pt hj, gR_pt hj, ob_pt hj, ck_pt hj, pI_pt hj, pB_pt hj, pR_pt hj, aI_pt hj, aR_pt hj, wI_pt hj, wJ_pt hj, aL_pt hj, cl1_s, cl1_n, cl1_i, cx1_s, cx1_x, cx1_n, cx1_i, nul_n, nul_s, nm, dv2, dv3, dv4, dv5, dv8, dv10, dv20, dv40, thr, bo, mI_pt hj, mT_pt hj, sB_pt, mZ_pt, mJ_pt, mJ_sJ, mZ_sJ, tn0, tn1, tn2, tn3, tn4, tn5, tn6, h0, ii0, ii1, ii2, ii3, ii4, if_true, if_false, ne_eq, not_false_eq_true, not_true_eq_false, true_and, and_true, false_and, and_false, and_self, true_or, or_true, false_or, or_false, or_self, Nat.reduceAdd, Nat.reduceLT, Nat.reduceLeDiff, Nat.succ_ne_zero, reduceIte, reduceCtorEq]
    · refine Agr.bad (k := 1) (b := 0) h (by decide) ?_ ?_
      · simp (config := {decide := true}) only [f_L_repeat, b_L_repeat_0, f_X4_repeat, b_X4_repeat_0, f_X4_madeLotAt, b_X4_madeLotAt_0, x_tasAt h hp hpj, x_lotAtN h hq, gI_pt hj, gR_pt hj, ob_pt hj, ck_pt hj, pI_pt hj, pB_pt hj, pR_pt hj, aI_pt hj, aR_pt hj, wI_pt hj, wJ_pt hj, aL_pt hj, cl1_s, cl1_n, cl1_i, cx1_s, cx1_x, cx1_n, cx1_i, nul_n, nul_s, nm, dv2, dv3, dv4, dv5, dv8, dv10, dv20, dv40, thr, bo, mI_pt hj, mT_pt hj, sB_pt, mZ_pt, mJ_pt, mJ_sJ, mZ_sJ, tn0, tn1, tn2, tn3, tn4, tn5, tn6, hx0, h132, ii0, ii1, ii2, ii3, ii4, if_true, if_false, ne_eq, not_false_eq_true, not_true_eq_false, true_and, and_true, false_and, and_false, and_self, true_or, or_true, false_or, or_false, or_self, Nat.reduceAdd, Nat.reduceLT, Nat.reduceLeDiff, Nat.succ_ne_zero, reduceIte, reduceCtorEq]
      · simp (config := {decide := true}) only [f_X8_repeat, b_X8_repeat_0, b_X8_repeat_16, b_X8_repeat_21, b_X8_repeat_50, m_noTas _ hp, m_noLotN h' hq, m_start1 hj h0 (show ¬ (1 : Int32) ≤ 0 by decide), gI_pt hj, gR_pt hj, ob_pt hj, ck_pt hj, pI_pt hj, pB_pt hj, pR_pt hj, aI_pt hj, aR_pt hj, wI_pt hj, wJ_pt hj, aL_pt hj, cl1_s, cl1_n, cl1_i, cx1_s, cx1_x, cx1_n, cx1_i, nul_n, nul_s, nm, dv2, dv3, dv4, dv5, dv8, dv10, dv20, dv40, thr, bo, mI_pt hj, mT_pt hj, sB_pt, mZ_pt, mJ_pt, mJ_sJ, mZ_sJ, tn0, tn1, tn2, tn3, tn4, tn5, tn6, h0, ii0, ii1, ii2, ii3, ii4, if_true, if_false, ne_eq, not_false_eq_true, not_true_eq_false, true_and, and_true, false_and, and_false, and_self, true_or, or_true, false_or, or_false, or_self, Nat.reduceAdd, Nat.reduceLT, Nat.reduceLeDiff, Nat.succ_ne_zero, reduceIte, reduceCtorEq]
  · refine Agr.bad (k := 1) (b := 0) h (by decide) ?_ ?_
    · simp (config := {decide := true}) only [f_L_repeat, b_L_repeat_0, f_X4_repeat, b_X4_repeat_0, x_tasAtN h hp, gI_pt hj, gR_pt hj, ob_pt hj, ck_pt hj, pI_pt hj, pB_pt hj, pR_pt hj, aI_pt hj, aR_pt hj, wI_pt hj, wJ_pt hj, aL_pt hj, cl1_s, cl1_n, cl1_i, cx1_s, cx1_x, cx1_n, cx1_i, nul_n, nul_s, nm, dv2, dv3, dv4, dv5, dv8, dv10, dv20, dv40, thr, bo, mI_pt hj, mT_pt hj, sB_pt, mZ_pt, mJ_pt, mJ_sJ, mZ_sJ, tn0, tn1, tn2, tn3, tn4, tn5, tn6, hx0, h132, ii0, ii1, ii2, ii3, ii4, if_true, if_false, ne_eq, not_false_eq_true, not_true_eq_false, true_and, and_true, false_and, and_false, and_self, true_or, or_true, false_or, or_false, or_self, Nat.reduceAdd, Nat.reduceLT, Nat.reduceLeDiff, Nat.succ_ne_zero, reduceIte, reduceCtorEq]
    · simp (config := {decide := true}) only [f_X8_repeat, b_X8_repeat_0, b_X8_repeat_16, b_X8_repeat_21, b_X8_repeat_50, m_noTasN _ hp, m_start1 hj h0 (show ¬ (1 : Int32) ≤ 0 by decide), gI_pt hj, gR_pt hj, ob_pt hj, ck_pt hj, pI_pt hj, pB_pt hj, pR_pt hj, aI_pt hj, aR_pt hj, wI_pt hj, wJ_pt hj, aL_pt hj, cl1_s, cl1_n, cl1_i, cx1_s, cx1_x, cx1_n, cx1_i, nul_n, nul_s, nm, dv2, dv3, dv4, dv5, dv8, dv10, dv20, dv40, thr, bo, mI_pt hj, mT_pt hj, sB_pt, mZ_pt, mJ_pt, mJ_sJ, mZ_sJ, tn0, tn1, tn2, tn3, tn4, tn5, tn6, h0, ii0, ii1, ii2, ii3, ii4, if_true, if_false, ne_eq, not_false_eq_true, not_true_eq_false, true_and, and_true, false_and, and_false, and_self, true_or, or_true, false_or, or_false, or_self, Nat.reduceAdd, Nat.reduceLT, Nat.reduceLeDiff, Nat.succ_ne_zero, reduceIte, reduceCtorEq]
end RP
