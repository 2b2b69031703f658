/-! MANY -/
section MN
variable {φ : Nat → Nat} {T : Nat → Nat × Nat} {I : Nat → Nat → Int32} {R : Nat → Nat → Option Nat} {τ : Mem} {e0 nS nL cS cL n z : Nat} {mx : Nat → Int32} {cB : Nat → Nat} {bl : Nat → List (Nat × Int32)}
variable {mi a b c k j : Nat} {J : Nat → Nat → Int32} {p v : Int32} {τ0 τ1 τ2 : Mem}
theorem wI_ex (hj : Inj φ T) (ho : Off φ T b) (hT : mT τ1 b = (100, c)) (h1 : ¬ p < 0) (h2 : p.toNatClampNeg = k) (hk : k < c) : ∃ τ', (∀ (β : Type) (K : Mem → Option β), wI (pt φ T J R τ1) (some b) p v K = K (pt φ T J R τ')) ∧ mT τ' b = (100, c) ∧ mI τ' b k = v ∧ (∀ j, j ≠ k → mI τ' b j = mI τ1 b j) ∧ Kp b τ1 τ' ∧ mZ τ' = mZ τ1 := by
  refine ⟨sI τ1 b k v, fun β K => ?_, hT, up2_at, fun j hjk => up2_k hjk, Kp.sI (Nat.le_refl _), rfl⟩
  rw [wI_off ho (by rw [hT]) h1 (by rw [hT, h2]; exact hk), h2]
theorem nA_ex (ho : Off φ T (mZ τ1)) {t bd : Nat} (h1 : ¬ p < 0) (h2 : p.toNatClampNeg = c) (h3 : c ≤ bd) : ∃ τ', (∀ (β : Type) (K : Mem → Option Nat → Option β), nA t bd (pt φ T J R τ1) p K = K (pt φ T J R τ') (some (mZ τ1))) ∧ mT τ' (mZ τ1) = (100 + t, c) ∧ (∀ j, mI τ' (mZ τ1) j = 0) ∧ (∀ j, mR τ' (mZ τ1) j = none) ∧ Kp (mZ τ1) τ1 τ' ∧ mZ τ' = mZ τ1 + 1 := by
  refine ⟨sN τ1 (100 + t, c), fun β K => ?_, mT_sN_at, fun j => mI_sN_at, fun j => mR_sN_at, Kp.sN (Nat.le_refl _), rfl⟩
  rw [nA_off ho h1 (by rw [h2]; exact h3), h2]
def dyV (I : Nat → Nat → Int32) (k : Nat) : Int32 := I (6 * k + 19) 1
def MV (I : Nat → Nat → Int32) (nL k : Nat) : Int32 :=
  if k = 0 then I 0 1 else if k = 1 then I 0 2 else if k = 2 then I 0 4 else if k = 3 then sm (ctV I 0) nL else if k = 4 then sm (ctV I 1) nL else if k = 5 then sm (ctV I 2) nL
  else if k = 6 then I 0 8 else if k = 7 then I 0 9 else if k = 8 then sm (dyV I) nL else if k = 9 then I 0 11 else if k = 10 then I 0 10 else I 10 (k - 11)
theorem le14 {k : Nat} (h : k ≤ 14) : k = 0 ∨ k = 1 ∨ k = 2 ∨ k = 3 ∨ k = 4 ∨ k = 5 ∨ k = 6 ∨ k = 7 ∨ k = 8 ∨ k = 9 ∨ k = 10 ∨ k = 11 ∨ k = 12 ∨ k = 13 ∨ k = 14 := by omega
theorem x_dryAll (h : Cx φ T I R (mZ τ) e0 nS nL cS cL mx cB bl n) : f_X4_dryOfAll (φ 0) (pt φ T I R τ) = some (sm (dyV I) nL, pt φ T I R τ) := by
  have hj := h.hj
  have L := itr_loop (fun n (s' : Int32 × Int32) => l_X4_dryOfAll_4 n (φ 0) s'.1 s'.2 (pt φ T I R τ)) (fun k s' => s'.1 = sm (dyV I) k ∧ s'.2 = Int32.ofNat k) nL (by
    rintro n k ⟨acc, j⟩ hk ⟨rfl, rfl⟩
    refine ⟨(sm (dyV I) (k + 1), Int32.ofNat (k + 1)), ⟨rfl, rfl⟩, ?_⟩
    obtain ⟨hj, hl, hx, hm, hr⟩ := h; obtain ⟨hx0, hx1, hx2, hx3, hx4, hx5, hx6, hx7, hx8, hx9, hx10, hx11, hx12, hx13, hx14, hx15, hx16, hx17, hx18, hx19, hx20, hx21, hx22, hx23, hx24, hx25, hx26, hx27⟩ := hx; obtain ⟨hm0, hm1, hm2, hm3, hm4, hm5, hm6, hm7, hm8, hm9, hm10, hm11, hm12, hm13, hm14, hm15, hm16, hm17, hm18, hm19, hm20, hm21, hm22, hm23, hm24, hm25, hm26, hm27, hm28, hm29, hm30, hm31, hm32, hm33, hm34, hm35, hm36, hm37, hm38, hm39, hm40, hm41, hm42, hm43, hm44⟩ := hm; obtain ⟨⟨⟨g1, g2⟩, ⟨g3, g4, g5, g6, g7⟩, g8, g9, g10⟩, r1, r2, r3, r4, r5, r6⟩ := hr
    have c1 : ¬ Int32.ofNat nL ≤ Int32.ofNat k := by rw [kN_le (by omega) (by omega)]; omega
    have c2 := kN_nn (a := k) (by omega)
    have c3 := tnK (k := k) (by omega)
    have c4 : k < 16 := by omega
    simp (config := {decide := true}) only [l_X4_dryOfAll_4, itr_succ, b_X4_dryOfAll_4, gI_pt hj, gR_pt hj, ob_pt hj, ck_pt hj, pI_pt hj, pB_pt hj, pR_pt hj, aI_pt hj, aR_pt hj, wI_pt hj, wJ_pt hj, aL_pt hj, cl1_s, cl1_n, cl1_i, cx1_s, cx1_x, cx1_n, cx1_i, nul_n, nul_s, nm, dv2, dv3, dv4, dv5, dv8, dv10, dv20, dv40, thr, bo, mI_pt hj, mT_pt hj, sB_pt, mZ_pt, mJ_pt, mJ_sJ, mZ_sJ, tn0, tn1, tn2, tn3, tn4, tn5, tn6, hx0, hx2, hx7, hx14 k c4, hx15 k (by omega), g2, c1, c2, c3, c4, sm, dyV, kN_s, ii0, ii1, ii2, ii3, ii4, if_true, if_false, ne_eq, not_false_eq_true, not_true_eq_false, true_and, and_true, false_and, and_false, and_self, true_or, or_true, false_or, or_false, or_self, Nat.reduceAdd, Nat.reduceLT, Nat.reduceLeDiff, Nat.succ_ne_zero, reduceIte, reduceCtorEq])
  have hN := h.m.2.2.2.2.1
  obtain ⟨⟨acc, j⟩, ⟨rfl, rfl⟩, h5⟩ := L nL 0 40 (0, 0) (by omega) (by omega) ⟨rfl, rfl⟩
  obtain ⟨m, hm⟩ : ∃ m, 40 - nL = m + 1 := ⟨39 - nL, by omega⟩
  simp only [hm] at h5
  rw [f_X4_dryOfAll, b_X4_dryOfAll_0, h5]
  obtain ⟨hj, hl, hx, hm, hr⟩ := h; obtain ⟨hx0, hx1, hx2, hx3, hx4, hx5, hx6, hx7, hx8, hx9, hx10, hx11, hx12, hx13, hx14, hx15, hx16, hx17, hx18, hx19, hx20, hx21, hx22, hx23, hx24, hx25, hx26, hx27⟩ := hx; obtain ⟨hm0, hm1, hm2, hm3, hm4, hm5, hm6, hm7, hm8, hm9, hm10, hm11, hm12, hm13, hm14, hm15, hm16, hm17, hm18, hm19, hm20, hm21, hm22, hm23, hm24, hm25, hm26, hm27, hm28, hm29, hm30, hm31, hm32, hm33, hm34, hm35, hm36, hm37, hm38, hm39, hm40, hm41, hm42, hm43, hm44⟩ := hm; obtain ⟨⟨⟨g1, g2⟩, ⟨g3, g4, g5, g6, g7⟩, g8, g9, g10⟩, r1, r2, r3, r4, r5, r6⟩ := hr
  have c1 : Int32.ofNat nL ≤ Int32.ofNat nL := by rw [kN_le (by omega) (by omega)]; omega
  simp (config := {decide := true}) only [l_X4_dryOfAll_4, itr_succ, b_X4_dryOfAll_4, gI_pt hj, gR_pt hj, ob_pt hj, ck_pt hj, pI_pt hj, pB_pt hj, pR_pt hj, aI_pt hj, aR_pt hj, wI_pt hj, wJ_pt hj, aL_pt hj, cl1_s, cl1_n, cl1_i, cx1_s, cx1_x, cx1_n, cx1_i, nul_n, nul_s, nm, dv2, dv3, dv4, dv5, dv8, dv10, dv20, dv40, thr, bo, mI_pt hj, mT_pt hj, sB_pt, mZ_pt, mJ_pt, mJ_sJ, mZ_sJ, tn0, tn1, tn2, tn3, tn4, tn5, tn6, hx0, g2, c1, ii0, ii1, ii2, ii3, ii4, if_true, if_false, ne_eq, not_false_eq_true, not_true_eq_false, true_and, and_true, false_and, and_false, and_self, true_or, or_true, false_or, or_false, or_self, Nat.reduceAdd, Nat.reduceLT, Nat.reduceLeDiff, Nat.succ_ne_zero, reduceIte, reduceCtorEq]
theorem x_many (h : Cx φ T I R (mZ τ) e0 nS nL cS cL mx cB bl n) (hk : k ≤ 14) : f_X4_many (φ 0) (Int32.ofNat k) (pt φ T I R τ) = some (.inl (MV I nL k), pt φ T I R τ) := by
  have C0 := x_count (τ := τ) (s := 0) h
  have C1 := x_count (τ := τ) (s := 1) h
  have C2 := x_count (τ := τ) (s := 2) h
  have D := x_dryAll (τ := τ) h
  obtain ⟨hj, hl, hx, hm, hr⟩ := h; obtain ⟨hx0, hx1, hx2, hx3, hx4, hx5, hx6, hx7, hx8, hx9, hx10, hx11, hx12, hx13, hx14, hx15, hx16, hx17, hx18, hx19, hx20, hx21, hx22, hx23, hx24, hx25, hx26, hx27⟩ := hx; obtain ⟨hm0, hm1, hm2, hm3, hm4, hm5, hm6, hm7, hm8, hm9, hm10, hm11, hm12, hm13, hm14, hm15, hm16, hm17, hm18, hm19, hm20, hm21, hm22, hm23, hm24, hm25, hm26, hm27, hm28, hm29, hm30, hm31, hm32, hm33, hm34, hm35, hm36, hm37, hm38, hm39, hm40, hm41, hm42, hm43, hm44⟩ := hm; obtain ⟨⟨⟨g1, g2⟩, ⟨g3, g4, g5, g6, g7⟩, g8, g9, g10⟩, r1, r2, r3, r4, r5, r6⟩ := hr
  rcases le14 hk with rfl | rfl | rfl | rfl | rfl | rfl | rfl | rfl | rfl | rfl | rfl | rfl | rfl | rfl | rfl <;>
  simp (config := {decide := true}) only [b_X4_many_0, f_X4_many, b_X4_requireArgument_10, b_X4_requireArgument_0, f_X4_requireArgument, C0, C1, C2, D, gI_pt hj, gR_pt hj, ob_pt hj, ck_pt hj, pI_pt hj, pB_pt hj, pR_pt hj, aI_pt hj, aR_pt hj, wI_pt hj, wJ_pt hj, aL_pt hj, cl1_s, cl1_n, cl1_i, cx1_s, cx1_x, cx1_n, cx1_i, nul_n, nul_s, nm, dv2, dv3, dv4, dv5, dv8, dv10, dv20, dv40, thr, bo, mI_pt hj, mT_pt hj, sB_pt, mZ_pt, mJ_pt, mJ_sJ, mZ_sJ, tn0, tn1, tn2, tn3, tn4, tn5, tn6, hx0, hx5, hx9, MV, ii0, ii1, ii2, ii3, ii4, if_true, if_false, ne_eq, not_false_eq_true, not_true_eq_false, true_and, and_true, false_and, and_false, and_self, true_or, or_true, false_or, or_false, or_self, Nat.reduceAdd, Nat.reduceLT, Nat.reduceLeDiff, Nat.succ_ne_zero, reduceIte, reduceCtorEq] <;> rfl
theorem m_manyL (h : Cx φ T I R (mZ τ) e0 nS nL cS cL mx cB bl n) (hJ : ∀ v, 125 ≤ v → J v = I v) (h1 : Itr τ0 a (φ 126) (I 126 0) 0) (ha : mZ τ ≤ a) : ∃ τ' m, l_X8_manyNow_26 e0 mi 40 (φ 124) p 0 (some a) (pt φ T J R τ0) = b_X8_manyNow_26 e0 mi (l_X8_manyNow_26 e0 mi m) (φ 124) p (sm (dyV I) nL) (some a) (pt φ T J R τ') ∧ Itr τ' a (φ 126) (I 126 0) nL ∧ Kp a τ0 τ' := by
  have hj := h.hj
  have ho := h.offZ ha
  have L := itr_loop (fun n (s' : Int32 × Mem) => l_X8_manyNow_26 e0 mi n (φ 124) p s'.1 (some a) s'.2) (fun k s' => s'.1 = sm (dyV I) k ∧ ∃ τ1, s'.2 = pt φ T J R τ1 ∧ Itr τ1 a (φ 126) (I 126 0) k ∧ Kp a τ0 τ1) nL (by
    rintro n k ⟨acc, σ⟩ hk ⟨rfl, τ1, rfl, hi, hK⟩
    obtain ⟨e1, e2⟩ := m_itL (mi := mi) h (hJ 126 (by omega)) ha hi hk
    refine ⟨(sm (dyV I) (k + 1), pt φ T J R (itS τ1 a k)), ⟨rfl, _, rfl, itS_I hi, hK.trans (itS_K (Nat.le_refl _))⟩, ?_⟩
    have i1 := hi.1
    have i2 : mT (itS τ1 a k) a = (1, 0) := hi.1
    have DD := m_dryJ (J := J) (τ := itS τ1 a k) h hk (hJ _ (by omega))
    have T8 := h.t8 hk
    simp (config := {decide := true}) only [l_X8_manyNow_26, itr_succ, b_X8_manyNow_26, e1, e2, DD, gI_pt hj, gR_pt hj, ob_pt hj, ck_pt hj, pI_pt hj, pB_pt hj, pR_pt hj, aI_pt hj, aR_pt hj, wI_pt hj, wJ_pt hj, aL_pt hj, cl1_s, cl1_n, cl1_i, cx1_s, cx1_x, cx1_n, cx1_i, nul_n, nul_s, nm, dv2, dv3, dv4, dv5, dv8, dv10, dv20, dv40, thr, bo, gI_off, gR_off, ob_off, ck_off, pI_off, pB_off, pR_off, aI_off, wI_off, aR_off, nA_off, nO_off, mT_sI, mT_sR, mT_sJ, mT_sN_at, mI_sN_at, mR_sN_at, mI_sI, mI_sR, mI_sJ, mR_sI, mR_sR, mR_sJ, mZ_sI, mZ_sR, mZ_sN, mJ_sI, mJ_sR, ho, mI_pt hj, mT_pt hj, sB_pt, mZ_pt, mJ_pt, mJ_sJ, mZ_sJ, tn0, tn1, tn2, tn3, tn4, tn5, tn6, i1, i2, T8, sm, dyV, ii0, ii1, ii2, ii3, ii4, if_true, if_false, ne_eq, not_false_eq_true, not_true_eq_false, true_and, and_true, false_and, and_false, and_self, true_or, or_true, false_or, or_false, or_self, Nat.reduceAdd, Nat.reduceLT, Nat.reduceLeDiff, Nat.succ_ne_zero, reduceIte, reduceCtorEq])
  have hN := h.m.2.2.2.2.1
  obtain ⟨⟨acc, σ⟩, ⟨rfl, τ1, rfl, hi, hK⟩, h5⟩ := L nL 0 40 (0, pt φ T J R τ0) (by omega) (by omega) ⟨rfl, τ0, rfl, h1, Kp.refl⟩
  obtain ⟨m, hm⟩ : ∃ m, 40 - nL = m + 1 := ⟨39 - nL, by omega⟩
  refine ⟨τ1, m, ?_, hi, hK⟩
  simp only [hm] at h5
  rw [h5]; rfl
theorem m_manyT (h : Cx φ T I R (mZ τ) e0 nS nL cS cL mx cB bl n) (hJ : ∀ v, 125 ≤ v → J v = I v) (hi : Itr τ0 a (φ 126) (I 126 0) nL) (ha : mZ τ ≤ a) (hb : a < mZ τ0) {m : Nat} {D : Int32} (hk : k ≤ 10) : ∃ τ', b_X8_manyNow_26 e0 mi (l_X8_manyNow_26 e0 mi m) (φ 124) (Int32.ofNat k) D (some a) (pt φ T J R τ0) = some (if k = 0 then Int32.ofNat nS else if k = 1 then J 124 1 else if k = 2 then Int32.ofNat nL else if k = 3 then sm (ctV I 0) nL else if k = 4 then sm (ctV I 1) nL else if k = 5 then sm (ctV I 2) nL else if k = 6 then J 124 2 else if k = 7 then J 124 3 else if k = 8 then D else if k = 9 then J 124 4 else J 124 5, pt φ T J R τ') ∧ Kp (mZ τ0) τ0 τ' := by
  have hj := h.hj
  have ho := h.offZ ha
  have e1 := m_itL0 h (hJ 126 (by omega)) ha hi
  have i1 := hi.1
  have hob := h.offZ (a := mZ τ0) (by omega)
  have hz0 : mZ τ ≤ mZ τ0 := by omega
  have J125 := hJ 125 (by omega)
  have J126 := hJ 126 (by omega)
  have HC := fun (s : Int32) (τ1 : Mem) (hz : mZ τ ≤ mZ τ1) => m_count (mi := mi) (s := s) (τ1 := τ1) h hJ hz
  obtain ⟨hj, hl, hx, hm, hr⟩ := h; obtain ⟨hx0, hx1, hx2, hx3, hx4, hx5, hx6, hx7, hx8, hx9, hx10, hx11, hx12, hx13, hx14, hx15, hx16, hx17, hx18, hx19, hx20, hx21, hx22, hx23, hx24, hx25, hx26, hx27⟩ := hx; obtain ⟨hm0, hm1, hm2, hm3, hm4, hm5, hm6, hm7, hm8, hm9, hm10, hm11, hm12, hm13, hm14, hm15, hm16, hm17, hm18, hm19, hm20, hm21, hm22, hm23, hm24, hm25, hm26, hm27, hm28, hm29, hm30, hm31, hm32, hm33, hm34, hm35, hm36, hm37, hm38, hm39, hm40, hm41, hm42, hm43, hm44⟩ := hm; obtain ⟨⟨⟨g1, g2⟩, ⟨g3, g4, g5, g6, g7⟩, g8, g9, g10⟩, r1, r2, r3, r4, r5, r6⟩ := hr
  generalize hC0 : sm (ctV I 0) nL = C0 at HC ⊢
  generalize hC1 : sm (ctV I 1) nL = C1 at HC ⊢
  generalize hC2 : sm (ctV I 2) nL = C2 at HC ⊢
  have S1 : f_Jx4a65c_size_8abf5 (φ 125) = fun σ => gI 1 2 σ (some (φ 125)) fun v => some (v, σ) := rfl
  have S2 : f_Jx4a65c_size_8abf5 (φ 126) = fun σ => gI 1 2 σ (some (φ 126)) fun v => some (v, σ) := rfl
  obtain ⟨t0, W, T0, Z0, -, K0, z0⟩ := nA_ex (J := J) (R := R) (p := 11) (c := 11) (t := 0) (bd := 11) hob (by decide) rfl (by decide)
  generalize hbb : mZ τ0 = b at *
  have T0' : mT t0 b = (100, 11) := T0
  simp (config := {decide := true}) only [b_X8_manyNow_26, e1, W, S1, S2, gI_pt hj, gR_pt hj, ob_pt hj, ck_pt hj, pI_pt hj, pB_pt hj, pR_pt hj, aI_pt hj, aR_pt hj, wI_pt hj, wJ_pt hj, aL_pt hj, cl1_s, cl1_n, cl1_i, cx1_s, cx1_x, cx1_n, cx1_i, nul_n, nul_s, nm, dv2, dv3, dv4, dv5, dv8, dv10, dv20, dv40, thr, bo, ho, gI_off, gR_off, ob_off, ck_off, pI_off, pB_off, pR_off, aI_off, wI_off, aR_off, nA_off, nO_off, mT_sI, mT_sR, mT_sJ, mT_sN_at, mI_sN_at, mR_sN_at, mI_sI, mI_sR, mI_sJ, mR_sI, mR_sR, mR_sJ, mZ_sI, mZ_sR, mZ_sN, mJ_sI, mJ_sR, mI_pt hj, mT_pt hj, sB_pt, mZ_pt, mJ_pt, mJ_sJ, mZ_sJ, tn0, tn1, tn2, tn3, tn4, tn5, tn6, i1, hm0, hm1, hm2, hm5, hm6, J125, J126, hm12, hm13, ii0, ii1, ii2, ii3, ii4, if_true, if_false, ne_eq, not_false_eq_true, not_true_eq_false, true_and, and_true, false_and, and_false, and_self, true_or, or_true, false_or, or_false, or_self, Nat.reduceAdd, Nat.reduceLT, Nat.reduceLeDiff, Nat.succ_ne_zero, reduceIte, reduceCtorEq]
  obtain ⟨t1, W0, T1, A0, B0, K1, z1⟩ := wI_ex (J := J) (R := R) (p := 0) (v := Int32.ofNat nS) (k := 0) hj hob T0' (by decide) rfl (by decide)
  rw [z0] at z1
  obtain ⟨t2, W1, T2, A1, B1, K2, z2⟩ := wI_ex (J := J) (R := R) (p := 1) (v := J 124 1) (k := 1) hj hob T1 (by decide) rfl (by decide)
  rw [z1] at z2
  obtain ⟨t3, W2, T3, A2, B2, K3, z3⟩ := wI_ex (J := J) (R := R) (p := 2) (v := Int32.ofNat nL) (k := 2) hj hob T2 (by decide) rfl (by decide)
  rw [z2] at z3
  obtain ⟨s3, Q3, KQ3⟩ := HC 0 t3 (by rw [z3]; omega)
  rw [hC0] at Q3
  have KR3 : mI s3 b = mI t3 b := (KQ3.2 b (by rw [z3]; omega)).1
  have TR3 : mT s3 b = (100, 11) := by rw [(KQ3.2 b (by rw [z3]; omega)).2.2.2]; exact T3
  have zR3 : b + 1 ≤ mZ s3 := by have := KQ3.1; rw [z3] at this; omega
  have KP3 : Kp b t3 s3 := KQ3.less (by rw [z3]; omega)
  obtain ⟨y3, hy3⟩ : ∃ y, y = mZ s3 := ⟨_, rfl⟩
  rw [← hy3] at zR3
  obtain ⟨t4, W3, T4, A3, B3, K4, z4⟩ := wI_ex (J := J) (R := R) (p := 3) (v := C0) (k := 3) hj hob TR3 (by decide) rfl (by decide)
  rw [← hy3] at z4
  obtain ⟨s4, Q4, KQ4⟩ := HC 1 t4 (by rw [z4]; omega)
  rw [hC1] at Q4
  have KR4 : mI s4 b = mI t4 b := (KQ4.2 b (by rw [z4]; omega)).1
  have TR4 : mT s4 b = (100, 11) := by rw [(KQ4.2 b (by rw [z4]; omega)).2.2.2]; exact T4
  have zR4 : b + 1 ≤ mZ s4 := by have := KQ4.1; rw [z4] at this; omega
  have KP4 : Kp b t4 s4 := KQ4.less (by rw [z4]; omega)
  obtain ⟨y4, hy4⟩ : ∃ y, y = mZ s4 := ⟨_, rfl⟩
  rw [← hy4] at zR4
  obtain ⟨t5, W4, T5, A4, B4, K5, z5⟩ := wI_ex (J := J) (R := R) (p := 4) (v := C1) (k := 4) hj hob TR4 (by decide) rfl (by decide)
  rw [← hy4] at z5
  obtain ⟨s5, Q5, KQ5⟩ := HC 2 t5 (by rw [z5]; omega)
  rw [hC2] at Q5
  have KR5 : mI s5 b = mI t5 b := (KQ5.2 b (by rw [z5]; omega)).1
  have TR5 : mT s5 b = (100, 11) := by rw [(KQ5.2 b (by rw [z5]; omega)).2.2.2]; exact T5
  have zR5 : b + 1 ≤ mZ s5 := by have := KQ5.1; rw [z5] at this; omega
  have KP5 : Kp b t5 s5 := KQ5.less (by rw [z5]; omega)
  obtain ⟨y5, hy5⟩ : ∃ y, y = mZ s5 := ⟨_, rfl⟩
  rw [← hy5] at zR5
  obtain ⟨t6, W5, T6, A5, B5, K6, z6⟩ := wI_ex (J := J) (R := R) (p := 5) (v := C2) (k := 5) hj hob TR5 (by decide) rfl (by decide)
  rw [← hy5] at z6
  obtain ⟨t7, W6, T7, A6, B6, K7, z7⟩ := wI_ex (J := J) (R := R) (p := 6) (v := J 124 2) (k := 6) hj hob T6 (by decide) rfl (by decide)
  rw [z6] at z7
  obtain ⟨t8, W7, T8, A7, B7, K8, z8⟩ := wI_ex (J := J) (R := R) (p := 7) (v := J 124 3) (k := 7) hj hob T7 (by decide) rfl (by decide)
  rw [z7] at z8
  obtain ⟨t9, W8, T9, A8, B8, K9, z9⟩ := wI_ex (J := J) (R := R) (p := 8) (v := D) (k := 8) hj hob T8 (by decide) rfl (by decide)
  rw [z8] at z9
  obtain ⟨t10, W9, T10, A9, B9, K10, z10⟩ := wI_ex (J := J) (R := R) (p := 9) (v := J 124 4) (k := 9) hj hob T9 (by decide) rfl (by decide)
  rw [z9] at z10
  obtain ⟨t11, W10, T11, A10, B10, K11, z11⟩ := wI_ex (J := J) (R := R) (p := 10) (v := J 124 5) (k := 10) hj hob T10 (by decide) rfl (by decide)
  rw [z10] at z11
  simp (config := {decide := true}) only [W0, W1, W2, W3, W4, W5, W6, W7, W8, W9, W10, Q3, Q4, Q5, S1, S2, gI_pt hj, gR_pt hj, ob_pt hj, ck_pt hj, pI_pt hj, pB_pt hj, pR_pt hj, aI_pt hj, aR_pt hj, wI_pt hj, wJ_pt hj, aL_pt hj, cl1_s, cl1_n, cl1_i, cx1_s, cx1_x, cx1_n, cx1_i, nul_n, nul_s, nm, dv2, dv3, dv4, dv5, dv8, dv10, dv20, dv40, thr, bo, mI_pt hj, mT_pt hj, sB_pt, mZ_pt, mJ_pt, mJ_sJ, mZ_sJ, tn0, tn1, tn2, tn3, tn4, tn5, tn6, hm0, hm1, hm2, hm5, hm6, J125, J126, hm12, hm13, ii0, ii1, ii2, ii3, ii4, if_true, if_false, ne_eq, not_false_eq_true, not_true_eq_false, true_and, and_true, false_and, and_false, and_self, true_or, or_true, false_or, or_false, or_self, Nat.reduceAdd, Nat.reduceLT, Nat.reduceLeDiff, Nat.succ_ne_zero, reduceIte, reduceCtorEq]
  refine ⟨t11, ?_, K0.trans (K1.trans (K2.trans (K3.trans (KP3.trans (K4.trans (KP4.trans (K5.trans (KP5.trans (K6.trans (K7.trans (K8.trans (K9.trans (K10.trans K11)))))))))))))⟩
  have hT := T11
  have hk1 : ¬ Int32.ofNat k < 0 := kN_nn (by omega)
  have hk2 : (Int32.ofNat k).toNatClampNeg = k := tnK (by omega)
  rw [aI_off hob (by rw [hT]) hk1 (by rw [hk2, hT]; exact Nat.lt_succ_of_le hk), hk2]
  refine congrArg (fun v => some (v, pt φ T J R t11)) ?_
  rcases le10 hk with rfl | rfl | rfl | rfl | rfl | rfl | rfl | rfl | rfl | rfl | rfl
  · rw [B10 0 (by decide), B9 0 (by decide), B8 0 (by decide), B7 0 (by decide), B6 0 (by decide), B5 0 (by decide), KR5, B4 0 (by decide), KR4, B3 0 (by decide), KR3, B2 0 (by decide), B1 0 (by decide), A0]; rfl
  · rw [B10 1 (by decide), B9 1 (by decide), B8 1 (by decide), B7 1 (by decide), B6 1 (by decide), B5 1 (by decide), KR5, B4 1 (by decide), KR4, B3 1 (by decide), KR3, B2 1 (by decide), A1]; rfl
  · rw [B10 2 (by decide), B9 2 (by decide), B8 2 (by decide), B7 2 (by decide), B6 2 (by decide), B5 2 (by decide), KR5, B4 2 (by decide), KR4, B3 2 (by decide), KR3, A2]; rfl
  · rw [B10 3 (by decide), B9 3 (by decide), B8 3 (by decide), B7 3 (by decide), B6 3 (by decide), B5 3 (by decide), KR5, B4 3 (by decide), KR4, A3]; rfl
  · rw [B10 4 (by decide), B9 4 (by decide), B8 4 (by decide), B7 4 (by decide), B6 4 (by decide), B5 4 (by decide), KR5, A4]; rfl
  · rw [B10 5 (by decide), B9 5 (by decide), B8 5 (by decide), B7 5 (by decide), B6 5 (by decide), A5]; rfl
  · rw [B10 6 (by decide), B9 6 (by decide), B8 6 (by decide), B7 6 (by decide), A6]; rfl
  · rw [B10 7 (by decide), B9 7 (by decide), B8 7 (by decide), A7]; rfl
  · rw [B10 8 (by decide), B9 8 (by decide), A8]; rfl
  · rw [B10 9 (by decide), A9]; rfl
  · rw [A10]; rfl
theorem m_manyNow (h : Cx φ T I R (mZ τ) e0 nS nL cS cL mx cB bl n) (hJ : ∀ v, 125 ≤ v → J v = I v) (hJ0 : ∀ k, 1 ≤ k → J 124 k = I 124 k) (hz : mZ τ ≤ mZ τ1) (hk : k ≤ 14) : ∃ τ', f_X8_manyNow e0 mi (φ 124) (Int32.ofNat k) (pt φ T J R τ1) = some (MV I nL k, pt φ T J R τ') ∧ Kp (mZ τ1) τ1 τ' := by
  have ho := h.offZ hz
  by_cases c : k ≤ 10
  · obtain ⟨τ2, m, e1, hi, e2⟩ := m_manyL (mi := mi) (p := Int32.ofNat k) h hJ (itN_I τ1 (φ 126) (I 126 0)) hz
    obtain ⟨τ3, e3, e4⟩ := m_manyT (mi := mi) (m := m) (D := sm (dyV I) nL) h hJ hi hz (Nat.lt_of_lt_of_le (Nat.lt_succ_self _) e2.1) c
    refine ⟨τ3, ?_, ((itN_K (Nat.le_refl _)).trans e2).trans (e4.less (Nat.le_trans (Nat.le_succ _) e2.1))⟩
    rw [e3] at e1
    obtain ⟨hj, hl, hx, hm, hr⟩ := h; obtain ⟨hx0, hx1, hx2, hx3, hx4, hx5, hx6, hx7, hx8, hx9, hx10, hx11, hx12, hx13, hx14, hx15, hx16, hx17, hx18, hx19, hx20, hx21, hx22, hx23, hx24, hx25, hx26, hx27⟩ := hx; obtain ⟨hm0, hm1, hm2, hm3, hm4, hm5, hm6, hm7, hm8, hm9, hm10, hm11, hm12, hm13, hm14, hm15, hm16, hm17, hm18, hm19, hm20, hm21, hm22, hm23, hm24, hm25, hm26, hm27, hm28, hm29, hm30, hm31, hm32, hm33, hm34, hm35, hm36, hm37, hm38, hm39, hm40, hm41, hm42, hm43, hm44⟩ := hm; obtain ⟨⟨⟨g1, g2⟩, ⟨g3, g4, g5, g6, g7⟩, g8, g9, g10⟩, r1, r2, r3, r4, r5, r6⟩ := hr
    have M := m_iter (I := J) (R := R) hj ho hm6
    rw [hJ 126 (by omega)] at M
    have c1 : Int32.ofNat k ≤ 10 := (kN_le (b := 10) (by omega) (by omega)).mpr c
    simp (config := {decide := true}) only [f_X8_manyNow, b_X8_manyNow_0, M, c1, e1, gI_pt hj, gR_pt hj, ob_pt hj, ck_pt hj, pI_pt hj, pB_pt hj, pR_pt hj, aI_pt hj, aR_pt hj, wI_pt hj, wJ_pt hj, aL_pt hj, cl1_s, cl1_n, cl1_i, cx1_s, cx1_x, cx1_n, cx1_i, nul_n, nul_s, nm, dv2, dv3, dv4, dv5, dv8, dv10, dv20, dv40, thr, bo, mI_pt hj, mT_pt hj, sB_pt, mZ_pt, mJ_pt, mJ_sJ, mZ_sJ, tn0, tn1, tn2, tn3, tn4, tn5, tn6, hm0, hm2, hm6, ii0, ii1, ii2, ii3, ii4, if_true, if_false, ne_eq, not_false_eq_true, not_true_eq_false, true_and, and_true, false_and, and_false, and_self, true_or, or_true, false_or, or_false, or_self, Nat.reduceAdd, Nat.reduceLT, Nat.reduceLeDiff, Nat.succ_ne_zero, reduceIte, reduceCtorEq]
    refine congrArg (fun v => some (v, pt φ T J R τ3)) ?_
    rw [hJ0 1 (by omega), hJ0 2 (by omega), hJ0 3 (by omega), hJ0 4 (by omega), hJ0 5 (by omega)]
    rcases le10 c with rfl | rfl | rfl | rfl | rfl | rfl | rfl | rfl | rfl | rfl | rfl <;> simp (config := {decide := true}) only [MV, g1, g2, g3, g4, g5, g6, g7, ii0, ii1, ii2, ii3, ii4, if_true, if_false, ne_eq, not_false_eq_true, not_true_eq_false, true_and, and_true, false_and, and_false, and_self, true_or, or_true, false_or, or_false, or_self, Nat.reduceAdd, Nat.reduceLT, Nat.reduceLeDiff, Nat.succ_ne_zero, reduceIte, reduceCtorEq]
  · refine ⟨τ1, ?_, Kp.refl⟩
    obtain ⟨hj, hl, hx, hm, hr⟩ := h; obtain ⟨hx0, hx1, hx2, hx3, hx4, hx5, hx6, hx7, hx8, hx9, hx10, hx11, hx12, hx13, hx14, hx15, hx16, hx17, hx18, hx19, hx20, hx21, hx22, hx23, hx24, hx25, hx26, hx27⟩ := hx; obtain ⟨hm0, hm1, hm2, hm3, hm4, hm5, hm6, hm7, hm8, hm9, hm10, hm11, hm12, hm13, hm14, hm15, hm16, hm17, hm18, hm19, hm20, hm21, hm22, hm23, hm24, hm25, hm26, hm27, hm28, hm29, hm30, hm31, hm32, hm33, hm34, hm35, hm36, hm37, hm38, hm39, hm40, hm41, hm42, hm43, hm44⟩ := hm; obtain ⟨⟨⟨g1, g2⟩, ⟨g3, g4, g5, g6, g7⟩, g8, g9, g10⟩, r1, r2, r3, r4, r5, r6⟩ := hr
    have k4 := hJ 128 (by omega)
    rcases (show k = 11 ∨ k = 12 ∨ k = 13 ∨ k = 14 by omega) with rfl | rfl | rfl | rfl
    · have P := g8 0 (by decide)
      simp (config := {decide := true}) only [f_X8_manyNow, b_X8_manyNow_0, gI_pt hj, gR_pt hj, ob_pt hj, ck_pt hj, pI_pt hj, pB_pt hj, pR_pt hj, aI_pt hj, aR_pt hj, wI_pt hj, wJ_pt hj, aL_pt hj, cl1_s, cl1_n, cl1_i, cx1_s, cx1_x, cx1_n, cx1_i, nul_n, nul_s, nm, dv2, dv3, dv4, dv5, dv8, dv10, dv20, dv40, thr, bo, mI_pt hj, mT_pt hj, sB_pt, mZ_pt, mJ_pt, mJ_sJ, mZ_sJ, tn0, tn1, tn2, tn3, tn4, tn5, tn6, hm0, hm4, hm8, k4, MV, P, show Int32.ofNat 11 - 11 = 0 by decide, ii0, ii1, ii2, ii3, ii4, if_true, if_false, ne_eq, not_false_eq_true, not_true_eq_false, true_and, and_true, false_and, and_false, and_self, true_or, or_true, false_or, or_false, or_self, Nat.reduceAdd, Nat.reduceLT, Nat.reduceLeDiff, Nat.succ_ne_zero, reduceIte, reduceCtorEq]
    · have P := g8 1 (by decide)
      simp (config := {decide := true}) only [f_X8_manyNow, b_X8_manyNow_0, gI_pt hj, gR_pt hj, ob_pt hj, ck_pt hj, pI_pt hj, pB_pt hj, pR_pt hj, aI_pt hj, aR_pt hj, wI_pt hj, wJ_pt hj, aL_pt hj, cl1_s, cl1_n, cl1_i, cx1_s, cx1_x, cx1_n, cx1_i, nul_n, nul_s, nm, dv2, dv3, dv4, dv5, dv8, dv10, dv20, dv40, thr, bo, mI_pt hj, mT_pt hj, sB_pt, mZ_pt, mJ_pt, mJ_sJ, mZ_sJ, tn0, tn1, tn2, tn3, tn4, tn5, tn6, hm0, hm4, hm8, k4, MV, P, show Int32.ofNat 12 - 11 = 1 by decide, ii0, ii1, ii2, ii3, ii4, if_true, if_false, ne_eq, not_false_eq_true, not_true_eq_false, true_and, and_true, false_and, and_false, and_self, true_or, or_true, false_or, or_false, or_self, Nat.reduceAdd, Nat.reduceLT, Nat.reduceLeDiff, Nat.succ_ne_zero, reduceIte, reduceCtorEq]
    · have P := g8 2 (by decide)
      simp (config := {decide := true}) only [f_X8_manyNow, b_X8_manyNow_0, gI_pt hj, gR_pt hj, ob_pt hj, ck_pt hj, pI_pt hj, pB_pt hj, pR_pt hj, aI_pt hj, aR_pt hj, wI_pt hj, wJ_pt hj, aL_pt hj, cl1_s, cl1_n, cl1_i, cx1_s, cx1_x, cx1_n, cx1_i, nul_n, nul_s, nm, dv2, dv3, dv4, dv5, dv8, dv10, dv20, dv40, thr, bo, mI_pt hj, mT_pt hj, sB_pt, mZ_pt, mJ_pt, mJ_sJ, mZ_sJ, tn0, tn1, tn2, tn3, tn4, tn5, tn6, hm0, hm4, hm8, k4, MV, P, show Int32.ofNat 13 - 11 = 2 by decide, ii0, ii1, ii2, ii3, ii4, if_true, if_false, ne_eq, not_false_eq_true, not_true_eq_false, true_and, and_true, false_and, and_false, and_self, true_or, or_true, false_or, or_false, or_self, Nat.reduceAdd, Nat.reduceLT, Nat.reduceLeDiff, Nat.succ_ne_zero, reduceIte, reduceCtorEq]
    · have P := g8 3 (by decide)
      simp (config := {decide := true}) only [f_X8_manyNow, b_X8_manyNow_0, gI_pt hj, gR_pt hj, ob_pt hj, ck_pt hj, pI_pt hj, pB_pt hj, pR_pt hj, aI_pt hj, aR_pt hj, wI_pt hj, wJ_pt hj, aL_pt hj, cl1_s, cl1_n, cl1_i, cx1_s, cx1_x, cx1_n, cx1_i, nul_n, nul_s, nm, dv2, dv3, dv4, dv5, dv8, dv10, dv20, dv40, thr, bo, mI_pt hj, mT_pt hj, sB_pt, mZ_pt, mJ_pt, mJ_sJ, mZ_sJ, tn0, tn1, tn2, tn3, tn4, tn5, tn6, hm0, hm4, hm8, k4, MV, P, show Int32.ofNat 14 - 11 = 3 by decide, ii0, ii1, ii2, ii3, ii4, if_true, if_false, ne_eq, not_false_eq_true, not_true_eq_false, true_and, and_true, false_and, and_false, and_self, true_or, or_true, false_or, or_false, or_self, Nat.reduceAdd, Nat.reduceLT, Nat.reduceLeDiff, Nat.succ_ne_zero, reduceIte, reduceCtorEq]
theorem op_many {x m o : Nat} {σ : Mem} (p : Int32) (h : Jn e0 x m o n σ) : Agr e0 x m o n (f_L_many (some x) p (some o) σ) (fun σ => f_X8_many e0 mi m p σ) := by
  obtain ⟨φ, T, I, R, τ, nS, nL, cS, cL, mx, cB, bl, rfl, ⟨rfl, rfl, rfl⟩, h⟩ := h
  have h : Cx φ T I R (mZ τ) e0 nS nL cS cL mx cB bl n := h
  have hj := h.hj
  have h0 := h.m.1
  have hx0 := h.m.2.2.2.2.2.2.2
  have h132 := h.m.2.2.2.2.2.2.1
  by_cases ha : 0 ≤ p ∧ p ≤ 14
  · obtain ⟨k, -, rfl, hk1, -⟩ := natOf ha.1 ha.2 (by decide)
    have hk : k ≤ 14 := by have : (14 : Int32).toInt = 14 := rfl
                           omega
    obtain ⟨τ', e1, e2⟩ := m_manyNow (mi := mi) (J := up2 I 124 0 0) (τ1 := sJ τ (φ 132) 0 (MV I nL k).toInt64) h (fun v hv => up2_row (by omega)) (fun k hk => up2_k (by omega)) (Nat.le_refl _) hk
    refine Agr.val (v := MV I nL k) (τ' := τ') h e2.1 ((e2.out h.out).trans sJ_at) ?_ ?_
    · simp (config := {decide := true}) only [f_L_many, b_L_many_0, x_many h hk, gI_pt hj, gR_pt hj, ob_pt hj, ck_pt hj, pI_pt hj, pB_pt hj, pR_pt hj, aI_pt hj, aR_pt hj, wI_pt hj, wJ_pt hj, aL_pt hj, cl1_s, cl1_n, cl1_i, cx1_s, cx1_x, cx1_n, cx1_i, nul_n, nul_s, nm, dv2, dv3, dv4, dv5, dv8, dv10, dv20, dv40, thr, bo, mI_pt hj, mT_pt hj, sB_pt, mZ_pt, mJ_pt, mJ_sJ, mZ_sJ, tn0, tn1, tn2, tn3, tn4, tn5, tn6, hx0, h132, ii0, ii1, ii2, ii3, ii4, if_true, if_false, ne_eq, not_false_eq_true, not_true_eq_false, true_and, and_true, false_and, and_false, and_self, true_or, or_true, false_or, or_false, or_self, Nat.reduceAdd, Nat.reduceLT, Nat.reduceLeDiff, Nat.succ_ne_zero, reduceIte, reduceCtorEq]
    · simp (config := {decide := true}) only [f_X8_many, b_X8_many_0, b_X8_many_16, b_X8_many_32, m_isIn _ ha.1 ha.2, m_start0 hj h0, e1, gI_pt hj, gR_pt hj, ob_pt hj, ck_pt hj, pI_pt hj, pB_pt hj, pR_pt hj, aI_pt hj, aR_pt hj, wI_pt hj, wJ_pt hj, aL_pt hj, cl1_s, cl1_n, cl1_i, cx1_s, cx1_x, cx1_n, cx1_i, nul_n, nul_s, nm, dv2, dv3, dv4, dv5, dv8, dv10, dv20, dv40, thr, bo, mI_pt hj, mT_pt hj, sB_pt, mZ_pt, mJ_pt, mJ_sJ, mZ_sJ, tn0, tn1, tn2, tn3, tn4, tn5, tn6, h0, ii0, ii1, ii2, ii3, ii4, if_true, if_false, ne_eq, not_false_eq_true, not_true_eq_false, true_and, and_true, false_and, and_false, and_self, true_or, or_true, false_or, or_false, or_self, Nat.reduceAdd, Nat.reduceLT, Nat.reduceLeDiff, Nat.succ_ne_zero, reduceIte, reduceCtorEq]
  · refine Agr.bad (k := 1) (b := 0) h (by decide) ?_ ?_
    · simp (config := {decide := true}) only [f_L_many, b_L_many_0, f_X4_many, b_X4_many_0, x_reqN _ ha, gI_pt hj, gR_pt hj, ob_pt hj, ck_pt hj, pI_pt hj, pB_pt hj, pR_pt hj, aI_pt hj, aR_pt hj, wI_pt hj, wJ_pt hj, aL_pt hj, cl1_s, cl1_n, cl1_i, cx1_s, cx1_x, cx1_n, cx1_i, nul_n, nul_s, nm, dv2, dv3, dv4, dv5, dv8, dv10, dv20, dv40, thr, bo, mI_pt hj, mT_pt hj, sB_pt, mZ_pt, mJ_pt, mJ_sJ, mZ_sJ, tn0, tn1, tn2, tn3, tn4, tn5, tn6, hx0, h132, ii0, ii1, ii2, ii3, ii4, if_true, if_false, ne_eq, not_false_eq_true, not_true_eq_false, true_and, and_true, false_and, and_false, and_self, true_or, or_true, false_or, or_false, or_self, Nat.reduceAdd, Nat.reduceLT, Nat.reduceLeDiff, Nat.succ_ne_zero, reduceIte, reduceCtorEq]
    · have h' : Cx φ T I R (mZ (sB τ)) e0 nS nL cS cL mx cB bl n := h.up (Nat.le_succ _)
      simp (config := {decide := true}) only [f_X8_many, b_X8_many_0, b_X8_many_16, b_X8_many_32, m_isInN _ ha, m_start1 hj h0 (show ¬ (1 : Int32) ≤ 0 by decide), gI_pt hj, gR_pt hj, ob_pt hj, ck_pt hj, pI_pt hj, pB_pt hj, pR_pt hj, aI_pt hj, aR_pt hj, wI_pt hj, wJ_pt hj, aL_pt hj, cl1_s, cl1_n, cl1_i, cx1_s, cx1_x, cx1_n, cx1_i, nul_n, nul_s, nm, dv2, dv3, dv4, dv5, dv8, dv10, dv20, dv40, thr, bo, mI_pt hj, mT_pt hj, sB_pt, mZ_pt, mJ_pt, mJ_sJ, mZ_sJ, tn0, tn1, tn2, tn3, tn4, tn5, tn6, h0, ii0, ii1, ii2, ii3, ii4, if_true, if_false, ne_eq, not_false_eq_true, not_true_eq_false, true_and, and_true, false_and, and_false, and_self, true_or, or_true, false_or, or_false, or_self, Nat.reduceAdd, Nat.reduceLT, Nat.reduceLeDiff, Nat.succ_ne_zero, reduceIte, reduceCtorEq]
end MN
