/-! OFFER -/
section OF
variable {φ : Nat → Nat} {T : Nat → Nat × Nat} {I : Nat → Nat → Int32} {R : Nat → Nat → Option Nat} {τ : Mem} {e0 nS nL cS cL n z : Nat} {mx : Nat → Int32} {cB : Nat → Nat} {bl : Nat → List (Nat × Int32)}
variable {mi a k i : Nat} {J : Nat → Nat → Int32} {p q r : Int32} {τ0 τ1 : Mem}
def opX (J : Nat → Nat → Int32) (k : Nat) : Int32 := if J (6 * k + 22) 0 ≤ 0 then 0 else 1
def opM (J : Nat → Nat → Int32) (k : Nat) : Int32 := if J (10 * k + 150) 13 ≤ 0 then 0 else 1
theorem x_isOpen (hj : Inj φ T) {v : Nat} (h : T v = (3, 0)) : f_X0_isOpen (φ v) (pt φ T I R τ) = some (if I v 0 ≤ 0 then 0 else 1, pt φ T I R τ) := by
  by_cases c : I v 0 ≤ 0 <;> simp (config := {decide := true}) only [b_X0_isOpen_12, b_X0_isOpen_0, f_X0_isOpen, gI_pt hj, gR_pt hj, ob_pt hj, ck_pt hj, pI_pt hj, pB_pt hj, pR_pt hj, aI_pt hj, aR_pt hj, wI_pt hj, wJ_pt hj, aL_pt hj, cl1_s, cl1_n, cl1_i, cx1_s, cx1_x, cx1_n, cx1_i, nul_n, nul_s, nm, dv2, dv3, dv4, dv5, dv8, dv10, dv20, dv40, thr, bo, mI_pt hj, mT_pt hj, sB_pt, mZ_pt, mJ_pt, mJ_sJ, mZ_sJ, tn0, tn1, tn2, tn3, tn4, tn5, tn6, h, c, ii0, ii1, ii2, ii3, ii4, if_true, if_false, ne_eq, not_false_eq_true, not_true_eq_false, true_and, and_true, false_and, and_false, and_self, true_or, or_true, false_or, or_false, or_self, Nat.reduceAdd, Nat.reduceLT, Nat.reduceLeDiff, Nat.succ_ne_zero, reduceIte, reduceCtorEq]
theorem m_isOff (hj : Inj φ T) {v : Nat} (h : T v = (8, 0)) : f_X5_isOffered (φ v) (pt φ T I R τ) = some (if I v 13 ≤ 0 then 0 else 1, pt φ T I R τ) := by
  by_cases c : I v 13 ≤ 0 <;> simp (config := {decide := true}) only [b_X5_isOffered_12, b_X5_isOffered_0, f_X5_isOffered, gI_pt hj, gR_pt hj, ob_pt hj, ck_pt hj, pI_pt hj, pB_pt hj, pR_pt hj, aI_pt hj, aR_pt hj, wI_pt hj, wJ_pt hj, aL_pt hj, cl1_s, cl1_n, cl1_i, cx1_s, cx1_x, cx1_n, cx1_i, nul_n, nul_s, nm, dv2, dv3, dv4, dv5, dv8, dv10, dv20, dv40, thr, bo, mI_pt hj, mT_pt hj, sB_pt, mZ_pt, mJ_pt, mJ_sJ, mZ_sJ, tn0, tn1, tn2, tn3, tn4, tn5, tn6, h, c, ii0, ii1, ii2, ii3, ii4, if_true, if_false, ne_eq, not_false_eq_true, not_true_eq_false, true_and, and_true, false_and, and_false, and_self, true_or, or_true, false_or, or_false, or_self, Nat.reduceAdd, Nat.reduceLT, Nat.reduceLeDiff, Nat.succ_ne_zero, reduceIte, reduceCtorEq]
theorem x_offL (h : Cx φ T I R z e0 nS nL cS cL mx cB bl n) (hJ : J 0 = I 0) : l_X4_offer_43 40 (φ 0) 0 0 (pt φ T J R τ) = some (.inl (sm (opX J) nL), pt φ T J R τ) := by
  have hj := h.hj
  have L := itr_loop (fun n (s' : Int32 × Int32) => l_X4_offer_43 n (φ 0) s'.1 s'.2 (pt φ T J R τ)) (fun k s' => s'.1 = sm (opX J) k ∧ s'.2 = Int32.ofNat k) nL (by
    rintro n k ⟨acc, j⟩ hk ⟨rfl, rfl⟩
    refine ⟨(sm (opX J) (k + 1), Int32.ofNat (k + 1)), ⟨rfl, rfl⟩, ?_⟩
    obtain ⟨hj, hl, hx, hm, hr⟩ := h; obtain ⟨hx0, hx1, hx2, hx3, hx4, hx5, hx6, hx7, hx8, hx9, hx10, hx11, hx12, hx13, hx14, hx15, hx16, hx17, hx18, hx19, hx20, hx21, hx22, hx23, hx24, hx25, hx26, hx27⟩ := hx; obtain ⟨hm0, hm1, hm2, hm3, hm4, hm5, hm6, hm7, hm8, hm9, hm10, hm11, hm12, hm13, hm14, hm15, hm16, hm17, hm18, hm19, hm20, hm21, hm22, hm23, hm24, hm25, hm26, hm27, hm28, hm29, hm30, hm31, hm32, hm33, hm34, hm35, hm36, hm37, hm38, hm39, hm40, hm41, hm42, hm43, hm44⟩ := hm; obtain ⟨⟨⟨g1, g2⟩, ⟨g3, g4, g5, g6, g7⟩, g8, g9, g10⟩, r1, r2, r3, r4, r5, r6⟩ := hr
    have c1 : ¬ Int32.ofNat nL ≤ Int32.ofNat k := by rw [kN_le (by omega) (by omega)]; omega
    have c2 := kN_nn (a := k) (by omega)
    have c3 := tnK (k := k) (by omega)
    have c4 : k < 16 := by omega
    have O := x_isOpen (I := J) (R := R) (τ := τ) hj (hx21 k (by omega))
    by_cases c : J (6 * k + 22) 0 ≤ 0
    · rw [if_pos c] at O
      simp (config := {decide := true}) only [l_X4_offer_43, itr_succ, b_X4_offer_43, b_X4_offer_71, O, gI_pt hj, gR_pt hj, ob_pt hj, ck_pt hj, pI_pt hj, pB_pt hj, pR_pt hj, aI_pt hj, aR_pt hj, wI_pt hj, wJ_pt hj, aL_pt hj, cl1_s, cl1_n, cl1_i, cx1_s, cx1_x, cx1_n, cx1_i, nul_n, nul_s, nm, dv2, dv3, dv4, dv5, dv8, dv10, dv20, dv40, thr, bo, mI_pt hj, mT_pt hj, sB_pt, mZ_pt, mJ_pt, mJ_sJ, mZ_sJ, tn0, tn1, tn2, tn3, tn4, tn5, tn6, hJ, hx0, hx2, hx7, hx14 k c4, hx15 k (by omega), hx18 k (by omega), hx21 k (by omega), g2, c1, c2, c3, c4, c, sm, opX, kN_s, Int32.add_zero, ii0, ii1, ii2, ii3, ii4, if_true, if_false, ne_eq, not_false_eq_true, not_true_eq_false, true_and, and_true, false_and, and_false, and_self, true_or, or_true, false_or, or_false, or_self, Nat.reduceAdd, Nat.reduceLT, Nat.reduceLeDiff, Nat.succ_ne_zero, reduceIte, reduceCtorEq]
    · rw [if_neg c] at O
      simp (config := {decide := true}) only [l_X4_offer_43, itr_succ, b_X4_offer_43, b_X4_offer_71, O, gI_pt hj, gR_pt hj, ob_pt hj, ck_pt hj, pI_pt hj, pB_pt hj, pR_pt hj, aI_pt hj, aR_pt hj, wI_pt hj, wJ_pt hj, aL_pt hj, cl1_s, cl1_n, cl1_i, cx1_s, cx1_x, cx1_n, cx1_i, nul_n, nul_s, nm, dv2, dv3, dv4, dv5, dv8, dv10, dv20, dv40, thr, bo, mI_pt hj, mT_pt hj, sB_pt, mZ_pt, mJ_pt, mJ_sJ, mZ_sJ, tn0, tn1, tn2, tn3, tn4, tn5, tn6, hJ, hx0, hx2, hx7, hx14 k c4, hx15 k (by omega), hx18 k (by omega), hx21 k (by omega), g2, c1, c2, c3, c4, c, sm, opX, kN_s, ii0, ii1, ii2, ii3, ii4, if_true, if_false, ne_eq, not_false_eq_true, not_true_eq_false, true_and, and_true, false_and, and_false, and_self, true_or, or_true, false_or, or_false, or_self, Nat.reduceAdd, Nat.reduceLT, Nat.reduceLeDiff, Nat.succ_ne_zero, reduceIte, reduceCtorEq])
  have hN := h.m.2.2.2.2.1
  obtain ⟨⟨acc, j⟩, ⟨rfl, rfl⟩, h5⟩ := L nL 0 40 (0, 0) (by omega) (by omega) ⟨rfl, rfl⟩
  obtain ⟨m, hm⟩ : ∃ m, 40 - nL = m + 1 := ⟨39 - nL, by omega⟩
  simp only [hm] at h5
  rw [h5]
  obtain ⟨hj, hl, hx, hm, hr⟩ := h; obtain ⟨hx0, hx1, hx2, hx3, hx4, hx5, hx6, hx7, hx8, hx9, hx10, hx11, hx12, hx13, hx14, hx15, hx16, hx17, hx18, hx19, hx20, hx21, hx22, hx23, hx24, hx25, hx26, hx27⟩ := hx; obtain ⟨hm0, hm1, hm2, hm3, hm4, hm5, hm6, hm7, hm8, hm9, hm10, hm11, hm12, hm13, hm14, hm15, hm16, hm17, hm18, hm19, hm20, hm21, hm22, hm23, hm24, hm25, hm26, hm27, hm28, hm29, hm30, hm31, hm32, hm33, hm34, hm35, hm36, hm37, hm38, hm39, hm40, hm41, hm42, hm43, hm44⟩ := hm; obtain ⟨⟨⟨g1, g2⟩, ⟨g3, g4, g5, g6, g7⟩, g8, g9, g10⟩, r1, r2, r3, r4, r5, r6⟩ := hr
  have c1 : Int32.ofNat nL ≤ Int32.ofNat nL := by rw [kN_le (by omega) (by omega)]; omega
  simp (config := {decide := true}) only [l_X4_offer_43, itr_succ, b_X4_offer_43, gI_pt hj, gR_pt hj, ob_pt hj, ck_pt hj, pI_pt hj, pB_pt hj, pR_pt hj, aI_pt hj, aR_pt hj, wI_pt hj, wJ_pt hj, aL_pt hj, cl1_s, cl1_n, cl1_i, cx1_s, cx1_x, cx1_n, cx1_i, nul_n, nul_s, nm, dv2, dv3, dv4, dv5, dv8, dv10, dv20, dv40, thr, bo, mI_pt hj, mT_pt hj, sB_pt, mZ_pt, mJ_pt, mJ_sJ, mZ_sJ, tn0, tn1, tn2, tn3, tn4, tn5, tn6, hJ, hx0, g2, c1, ii0, ii1, ii2, ii3, ii4, if_true, if_false, ne_eq, not_false_eq_true, not_true_eq_false, true_and, and_true, false_and, and_false, and_self, true_or, or_true, false_or, or_false, or_self, Nat.reduceAdd, Nat.reduceLT, Nat.reduceLeDiff, Nat.succ_ne_zero, reduceIte, reduceCtorEq]
theorem m_offL (h : Cx φ T I R (mZ τ) e0 nS nL cS cL mx cB bl n) (hJ : J 126 = I 126) (h1 : Itr τ0 a (φ 126) (I 126 0) 0) (ha : mZ τ ≤ a) : ∃ τ', l_X8_offer_86 e0 mi 40 0 (some a) (pt φ T J R τ0) = some (sm (opM J) nL, pt φ T J R τ') ∧ Kp a τ0 τ' := by
  have hj := h.hj
  have ho := h.offZ ha
  have L := itr_loop (fun n (s' : Int32 × Mem) => l_X8_offer_86 e0 mi n s'.1 (some a) s'.2) (fun k s' => s'.1 = sm (opM J) k ∧ ∃ τ1, s'.2 = pt φ T J R τ1 ∧ Itr τ1 a (φ 126) (I 126 0) k ∧ Kp a τ0 τ1) nL (by
    rintro n k ⟨acc, σ⟩ hk ⟨rfl, τ1, rfl, hi, hK⟩
    obtain ⟨e1, e2⟩ := m_itL (mi := mi) h hJ ha hi hk
    refine ⟨(sm (opM J) (k + 1), pt φ T J R (itS τ1 a k)), ⟨rfl, _, rfl, itS_I hi, hK.trans (itS_K (Nat.le_refl _))⟩, ?_⟩
    have i1 := hi.1
    have i2 : mT (itS τ1 a k) a = (1, 0) := hi.1
    have T8 := h.t8 hk
    have O := m_isOff (I := J) (R := R) (τ := itS τ1 a k) hj T8
    by_cases c : J (10 * k + 150) 13 ≤ 0
    · rw [if_pos c] at O
      simp (config := {decide := true}) only [l_X8_offer_86, itr_succ, b_X8_offer_86, b_X8_offer_122, e1, e2, O, gI_pt hj, gR_pt hj, ob_pt hj, ck_pt hj, pI_pt hj, pB_pt hj, pR_pt hj, aI_pt hj, aR_pt hj, wI_pt hj, wJ_pt hj, aL_pt hj, cl1_s, cl1_n, cl1_i, cx1_s, cx1_x, cx1_n, cx1_i, nul_n, nul_s, nm, dv2, dv3, dv4, dv5, dv8, dv10, dv20, dv40, thr, bo, gI_off, gR_off, ob_off, ck_off, pI_off, pB_off, pR_off, aI_off, wI_off, aR_off, nA_off, nO_off, mT_sI, mT_sR, mT_sJ, mT_sN_at, mI_sN_at, mR_sN_at, mI_sI, mI_sR, mI_sJ, mR_sI, mR_sR, mR_sJ, mZ_sI, mZ_sR, mZ_sN, mJ_sI, mJ_sR, ho, mI_pt hj, mT_pt hj, sB_pt, mZ_pt, mJ_pt, mJ_sJ, mZ_sJ, tn0, tn1, tn2, tn3, tn4, tn5, tn6, i1, i2, T8, sm, opM, c, ii0, ii1, ii2, ii3, ii4, if_true, if_false, ne_eq, not_false_eq_true, not_true_eq_false, true_and, and_true, false_and, and_false, and_self, true_or, or_true, false_or, or_false, or_self, Nat.reduceAdd, Nat.reduceLT, Nat.reduceLeDiff, Nat.succ_ne_zero, reduceIte, reduceCtorEq]
    · rw [if_neg c] at O
      simp (config := {decide := true}) only [l_X8_offer_86, itr_succ, b_X8_offer_86, b_X8_offer_122, e1, e2, O, gI_pt hj, gR_pt hj, ob_pt hj, ck_pt hj, pI_pt hj, pB_pt hj, pR_pt hj, aI_pt hj, aR_pt hj, wI_pt hj, wJ_pt hj, aL_pt hj, cl1_s, cl1_n, cl1_i, cx1_s, cx1_x, cx1_n, cx1_i, nul_n, nul_s, nm, dv2, dv3, dv4, dv5, dv8, dv10, dv20, dv40, thr, bo, gI_off, gR_off, ob_off, ck_off, pI_off, pB_off, pR_off, aI_off, wI_off, aR_off, nA_off, nO_off, mT_sI, mT_sR, mT_sJ, mT_sN_at, mI_sN_at, mR_sN_at, mI_sI, mI_sR, mI_sJ, mR_sI, mR_sR, mR_sJ, mZ_sI, mZ_sR, mZ_sN, mJ_sI, mJ_sR, ho, mI_pt hj, mT_pt hj, sB_pt, mZ_pt, mJ_pt, mJ_sJ, mZ_sJ, tn0, tn1, tn2, tn3, tn4, tn5, tn6, i1, i2, T8, sm, opM, c, ii0, ii1, ii2, ii3, ii4, if_true, if_false, ne_eq, not_false_eq_true, not_true_eq_false, true_and, and_true, false_and, and_false, and_self, true_or, or_true, false_or, or_false, or_self, Nat.reduceAdd, Nat.reduceLT, Nat.reduceLeDiff, Nat.succ_ne_zero, reduceIte, reduceCtorEq])
  have hN := h.m.2.2.2.2.1
  obtain ⟨⟨acc, σ⟩, ⟨rfl, τ1, rfl, hi, hK⟩, h5⟩ := L nL 0 40 (0, pt φ T J R τ0) (by omega) (by omega) ⟨rfl, τ0, rfl, h1, Kp.refl⟩
  refine ⟨τ1, ?_, hK⟩
  have e1 := m_itL0 h hJ ha hi
  have i1 := hi.1
  obtain ⟨m, hm⟩ : ∃ m, 40 - nL = m + 1 := ⟨39 - nL, by omega⟩
  simp only [hm] at h5
  rw [h5]
  simp (config := {decide := true}) only [l_X8_offer_86, itr_succ, b_X8_offer_86, e1, gI_pt hj, gR_pt hj, ob_pt hj, ck_pt hj, pI_pt hj, pB_pt hj, pR_pt hj, aI_pt hj, aR_pt hj, wI_pt hj, wJ_pt hj, aL_pt hj, cl1_s, cl1_n, cl1_i, cx1_s, cx1_x, cx1_n, cx1_i, nul_n, nul_s, nm, dv2, dv3, dv4, dv5, dv8, dv10, dv20, dv40, thr, bo, gI_off, gR_off, ob_off, ck_off, pI_off, pB_off, pR_off, aI_off, wI_off, aR_off, nA_off, nO_off, mT_sI, mT_sR, mT_sJ, mT_sN_at, mI_sN_at, mR_sN_at, mI_sI, mI_sR, mI_sJ, mR_sI, mR_sR, mR_sJ, mZ_sI, mZ_sR, mZ_sN, mJ_sI, mJ_sR, ho, mI_pt hj, mT_pt hj, sB_pt, mZ_pt, mJ_pt, mJ_sJ, mZ_sJ, tn0, tn1, tn2, tn3, tn4, tn5, tn6, i1, ii0, ii1, ii2, ii3, ii4, if_true, if_false, ne_eq, not_false_eq_true, not_true_eq_false, true_and, and_true, false_and, and_false, and_self, true_or, or_true, false_or, or_false, or_self, Nat.reduceAdd, Nat.reduceLT, Nat.reduceLeDiff, Nat.succ_ne_zero, reduceIte, reduceCtorEq]
theorem op_offer {x m o : Nat} {σ : Mem} (p r : Int32) (h : Jn e0 x m o n σ) : Agr e0 x m o n (f_L_offer (some x) p r (some o) σ) (fun σ => f_X8_offer e0 mi m p r σ) := by
  obtain ⟨φ, T, I, R, τ, nS, nL, cS, cL, mx, cB, bl, rfl, ⟨rfl, rfl, rfl⟩, h⟩ := h
  have h : Cx φ T I R (mZ τ) e0 nS nL cS cL mx cB bl n := h
  have hj := h.hj
  have h0 := h.m.1
  have hx0 := h.m.2.2.2.2.2.2.2
  have h132 := h.m.2.2.2.2.2.2.1
  have h7 := h.m.2.2.2.1
  have h6 := h.m.2.2.1
  have hN := h.m.2.2.2.2.1
  have h' : Cx φ T I R (mZ (sB τ)) e0 nS nL cS cL mx cB bl n := h.up (Nat.le_succ _)
  by_cases hp : InN p nL
  · have iL := (idx h.m.2.2.2.2.1 hp.1 hp.2).2.2.2.2
    generalize hi : p.toNatClampNeg = i at iL
    have T4 : T (6 * i + 19) = (4, 0) := h.t4 (by omega)
    have T8 := h.t8 iL
    have E0 := (h.lr iL).1.1
    by_cases ha : 1 ≤ r ∧ r ≤ 99
    · by_cases hs : I (6 * i + 19) 0 = 2
      · have n1 : (0 : Nat) ≠ 6 * i + 22 := by omega
        have n2 : (126 : Nat) ≠ 10 * i + 150 := by omega
        have XL := x_offL (τ := τ) (J := up2 I (6 * i + 22) 0 r) h (up2_row n1)
        obtain ⟨v, hv⟩ : ∃ v, v = sm (opX (up2 I (6 * i + 22) 0 r)) nL := ⟨_, rfl⟩
        rw [← hv] at XL
        have hCx : Cx φ T (up2 (up2 (up2 I (6 * i + 22) 0 r) 124 0 0) (10 * i + 150) 13 r) R (mZ (sJ τ (φ 132) 0 v.toInt64)) e0 nS nL cS cL mx cB bl (n + 1) := by
          refine Cx.rel (n' := n + 1) h ?_ (Rel.lot h.2.2.2.2 i iL hN h.m.2.2.2.2.2.1 ?_ ?_ ?_ ?_)
          · rintro v (rfl | rfl | ⟨i', k, h1, h2, h3, rfl⟩) <;> simp (disch := omega) only [up2_row]
          · intro v y1 y2 y3; simp (disch := omega) only [up2_row]
          · intro k y1 y2; simp (disch := omega) only [up2_row, up2_k]
          · obtain ⟨⟨E0, E2, E3, E4, E5, E6, E7, E8, E9, E10, E11, E12, E13⟩, qB, qC, qD, qE, qF, qG, ⟨qH1, qH2, qH3, qH4⟩, qK⟩ := h.lr iL
            unfold LotR
            simp (disch := omega) only [up2_row, up2_at, up2_k]
            have l1 := leT ha.1
            have l2 := leT ha.2
            have z1 : (1 : Int32).toInt = 1 := rfl
            have z9 : (99 : Int32).toInt = 99 := rfl
            refine ⟨⟨E0, E2, E3, E4, E5, E6, E7, E8, E9, E10, E11, E12, trivial⟩, qB, qC, qD, qE, qF, ⟨qG.1, by omega⟩, ⟨by omega, by omega, fun _ => hs, fun _ q => ?_⟩, ?_⟩
            · rw [q] at l1; exact absurd l1 (by decide)
            · obtain ⟨k1, k2, k3, k4⟩ := qK
              refine ⟨⟨?_, ?_⟩, ?_, k3, k4⟩
              · simp (disch := omega) only [up2_k]; exact k1.1
              · simp (disch := omega) only [up2_k]; have := k1.2; omega
              · intro e he; simp (disch := omega) only [up2_k]; exact k2 e he
          · simp (disch := omega) only [up2_row, up2_k]
        have ho : mZ τ ≤ mZ (sJ τ (φ 132) 0 v.toInt64) := Nat.le_refl _
        obtain ⟨τ', M1, M2⟩ := m_offL (mi := mi) (τ := τ) (τ0 := itN (sJ τ (φ 132) 0 v.toInt64) (φ 126) (I 126 0)) (a := mZ τ) (J := up2 (up2 (up2 I (6 * i + 22) 0 r) 124 0 0) (10 * i + 150) 13 r) h (by simp (disch := omega) only [up2_row]) (itN_I (sJ τ (φ 132) 0 v.toInt64) _ _) (Nat.le_refl _)
        have KK : Kp (mZ τ) (sJ τ (φ 132) 0 v.toInt64) τ' := (itN_K (Nat.le_refl _)).trans M2
        have hv2 : sm (opM (up2 (up2 (up2 I (6 * i + 22) 0 r) 124 0 0) (10 * i + 150) 13 r)) nL = v := by
          rw [hv]
          refine sm_congr (fun k hk => ?_)
          have := (hCx.lr hk).1.2.2.2.2.2.2.2.2.2.2.2.2
          simp only [opX, opM, ← this]
          simp (disch := omega) only [up2_row]
        rw [hv2] at M1
        refine Agr.fin (σ1 := pt φ T (up2 I (6 * i + 22) 0 r) R (sJ τ (φ 132) 0 v.toInt64)) (hCx.up KK.1) ?_ ?_ ?_ ((KK.out h.out).trans sJ_at)
        · have T3 : T (6 * i + 22) = (3, 0) := by
            obtain ⟨hj, hl, hx, hm, hr⟩ := h; obtain ⟨hx0, hx1, hx2, hx3, hx4, hx5, hx6, hx7, hx8, hx9, hx10, hx11, hx12, hx13, hx14, hx15, hx16, hx17, hx18, hx19, hx20, hx21, hx22, hx23, hx24, hx25, hx26, hx27⟩ := hx; obtain ⟨hm0, hm1, hm2, hm3, hm4, hm5, hm6, hm7, hm8, hm9, hm10, hm11, hm12, hm13, hm14, hm15, hm16, hm17, hm18, hm19, hm20, hm21, hm22, hm23, hm24, hm25, hm26, hm27, hm28, hm29, hm30, hm31, hm32, hm33, hm34, hm35, hm36, hm37, hm38, hm39, hm40, hm41, hm42, hm43, hm44⟩ := hm; obtain ⟨⟨⟨g1, g2⟩, ⟨g3, g4, g5, g6, g7⟩, g8, g9, g10⟩, r1, r2, r3, r4, r5, r6⟩ := hr
            exact hx21 i (by omega)
          have R15 : R (6 * i + 19) 15 = some (φ (6 * i + 22)) := by
            obtain ⟨hj, hl, hx, hm, hr⟩ := h; obtain ⟨hx0, hx1, hx2, hx3, hx4, hx5, hx6, hx7, hx8, hx9, hx10, hx11, hx12, hx13, hx14, hx15, hx16, hx17, hx18, hx19, hx20, hx21, hx22, hx23, hx24, hx25, hx26, hx27⟩ := hx; obtain ⟨hm0, hm1, hm2, hm3, hm4, hm5, hm6, hm7, hm8, hm9, hm10, hm11, hm12, hm13, hm14, hm15, hm16, hm17, hm18, hm19, hm20, hm21, hm22, hm23, hm24, hm25, hm26, hm27, hm28, hm29, hm30, hm31, hm32, hm33, hm34, hm35, hm36, hm37, hm38, hm39, hm40, hm41, hm42, hm43, hm44⟩ := hm; obtain ⟨⟨⟨g1, g2⟩, ⟨g3, g4, g5, g6, g7⟩, g8, g9, g10⟩, r1, r2, r3, r4, r5, r6⟩ := hr
            exact hx18 i (by omega)
          simp (config := {decide := true}) only [f_L_offer, b_L_offer_0, f_X4_offer, b_X4_offer_0, b_X4_offer_26, x_lotAt h hp hi, x_req _ ha.1 ha.2, x_st1, hs, T4, R15, T3, XL, gI_pt hj, gR_pt hj, ob_pt hj, ck_pt hj, pI_pt hj, pB_pt hj, pR_pt hj, aI_pt hj, aR_pt hj, wI_pt hj, wJ_pt hj, aL_pt hj, cl1_s, cl1_n, cl1_i, cx1_s, cx1_x, cx1_n, cx1_i, nul_n, nul_s, nm, dv2, dv3, dv4, dv5, dv8, dv10, dv20, dv40, thr, bo, mI_pt hj, mT_pt hj, sB_pt, mZ_pt, mJ_pt, mJ_sJ, mZ_sJ, tn0, tn1, tn2, tn3, tn4, tn5, tn6, hx0, h132, ii0, ii1, ii2, ii3, ii4, if_true, if_false, ne_eq, not_false_eq_true, not_true_eq_false, true_and, and_true, false_and, and_false, and_self, true_or, or_true, false_or, or_false, or_self, Nat.reduceAdd, Nat.reduceLT, Nat.reduceLeDiff, Nat.succ_ne_zero, reduceIte, reduceCtorEq]
        · have JJ : ∀ v, v ≠ 6 * i + 22 → v ≠ 124 → up2 (up2 I (6 * i + 22) 0 r) 124 0 0 v = I v := fun v h1 h2 => (up2_row h2).trans (up2_row h1)
          have NL := m_noLotJ (J := up2 I (6 * i + 22) 0 r) (τ := sJ τ (φ 132) 0 v.toInt64) h (up2_row (by omega)) hp
          have MS := m_stateJ (J := up2 (up2 I (6 * i + 22) 0 r) 124 0 0) (τ := sJ τ (φ 132) 0 v.toInt64) (s := 2) h (JJ 126 (by omega) (by omega)) hp hi (by rw [JJ _ (by omega) (by omega), ← E0]; exact hs)
          have MG := m_getJ (J := up2 (up2 I (6 * i + 22) 0 r) 124 0 0) (τ := sJ τ (φ 132) 0 v.toInt64) h (JJ 126 (by omega) (by omega)) hp hi
          have MI := m_iter (I := up2 (up2 (up2 I (6 * i + 22) 0 r) 124 0 0) (10 * i + 150) 13 r) (R := R) (τ := sJ τ (φ 132) 0 v.toInt64) hj (h.offZ ho) h6
          rw [up2_row n2, JJ 126 (by omega) (by omega)] at MI
          simp (config := {decide := true}) only [f_X8_offer, b_X8_offer_0, b_X8_offer_29, b_X8_offer_51, NL, m_start0 hj h0, m_isIn _ ha.1 ha.2, m_ref0 hj h0, MS, MG, T8, MI, show mZ (sJ τ (φ 132) 0 v.toInt64) = mZ τ from rfl, M1, gI_pt hj, gR_pt hj, ob_pt hj, ck_pt hj, pI_pt hj, pB_pt hj, pR_pt hj, aI_pt hj, aR_pt hj, wI_pt hj, wJ_pt hj, aL_pt hj, cl1_s, cl1_n, cl1_i, cx1_s, cx1_x, cx1_n, cx1_i, nul_n, nul_s, nm, dv2, dv3, dv4, dv5, dv8, dv10, dv20, dv40, thr, bo, mI_pt hj, mT_pt hj, sB_pt, mZ_pt, mJ_pt, mJ_sJ, mZ_sJ, tn0, tn1, tn2, tn3, tn4, tn5, tn6, h0, h7, h6, ii0, ii1, ii2, ii3, ii4, if_true, if_false, ne_eq, not_false_eq_true, not_true_eq_false, true_and, and_true, false_and, and_false, and_self, true_or, or_true, false_or, or_false, or_self, Nat.reduceAdd, Nat.reduceLT, Nat.reduceLeDiff, Nat.succ_ne_zero, reduceIte, reduceCtorEq]
        · simp (disch := omega) only [up2_row, up2_at]
      · refine Agr.bad (k := 3) (b := 0) h (by decide) ?_ ?_
        · simp (config := {decide := true}) only [f_L_offer, b_L_offer_0, f_X4_offer, b_X4_offer_0, b_X4_offer_26, x_lotAt h hp hi, x_req _ ha.1 ha.2, x_st0, hs, T4, gI_pt hj, gR_pt hj, ob_pt hj, ck_pt hj, pI_pt hj, pB_pt hj, pR_pt hj, aI_pt hj, aR_pt hj, wI_pt hj, wJ_pt hj, aL_pt hj, cl1_s, cl1_n, cl1_i, cx1_s, cx1_x, cx1_n, cx1_i, nul_n, nul_s, nm, dv2, dv3, dv4, dv5, dv8, dv10, dv20, dv40, thr, bo, mI_pt hj, mT_pt hj, sB_pt, mZ_pt, mJ_pt, mJ_sJ, mZ_sJ, tn0, tn1, tn2, tn3, tn4, tn5, tn6, hx0, h132, ii0, ii1, ii2, ii3, ii4, if_true, if_false, ne_eq, not_false_eq_true, not_true_eq_false, true_and, and_true, false_and, and_false, and_self, true_or, or_true, false_or, or_false, or_self, Nat.reduceAdd, Nat.reduceLT, Nat.reduceLeDiff, Nat.succ_ne_zero, reduceIte, reduceCtorEq]
        · have MS := m_stateN (s := 2) (Cx.thr (k := 0) h') hp hi (by rw [up2_row (by omega), ← E0]; exact hs)
          simp (config := {decide := true}) only [f_X8_offer, b_X8_offer_0, b_X8_offer_29, b_X8_offer_51, b_X8_offer_58, m_noLot h' hp, m_isIn _ ha.1 ha.2, m_start0 hj h0, m_ref0 hj h0, m_ref1 hj h0 (show ¬ (3 : Int32) ≤ 0 by decide), MS, gI_pt hj, gR_pt hj, ob_pt hj, ck_pt hj, pI_pt hj, pB_pt hj, pR_pt hj, aI_pt hj, aR_pt hj, wI_pt hj, wJ_pt hj, aL_pt hj, cl1_s, cl1_n, cl1_i, cx1_s, cx1_x, cx1_n, cx1_i, nul_n, nul_s, nm, dv2, dv3, dv4, dv5, dv8, dv10, dv20, dv40, thr, bo, mI_pt hj, mT_pt hj, sB_pt, mZ_pt, mJ_pt, mJ_sJ, mZ_sJ, tn0, tn1, tn2, tn3, tn4, tn5, tn6, h0, ii0, ii1, ii2, ii3, ii4, if_true, if_false, ne_eq, not_false_eq_true, not_true_eq_false, true_and, and_true, false_and, and_false, and_self, true_or, or_true, false_or, or_false, or_self, Nat.reduceAdd, Nat.reduceLT, Nat.reduceLeDiff, Nat.succ_ne_zero, reduceIte, reduceCtorEq]
    · refine Agr.bad (k := 2) (b := 0) h (by decide) ?_ ?_
      · simp (config := {decide := true}) only [f_L_offer, b_L_offer_0, f_X4_offer, b_X4_offer_0, x_lotAt h hp hi, x_reqN _ ha, gI_pt hj, gR_pt hj, ob_pt hj, ck_pt hj, pI_pt hj, pB_pt hj, pR_pt hj, aI_pt hj, aR_pt hj, wI_pt hj, wJ_pt hj, aL_pt hj, cl1_s, cl1_n, cl1_i, cx1_s, cx1_x, cx1_n, cx1_i, nul_n, nul_s, nm, dv2, dv3, dv4, dv5, dv8, dv10, dv20, dv40, thr, bo, mI_pt hj, mT_pt hj, sB_pt, mZ_pt, mJ_pt, mJ_sJ, mZ_sJ, tn0, tn1, tn2, tn3, tn4, tn5, tn6, hx0, h132, ii0, ii1, ii2, ii3, ii4, if_true, if_false, ne_eq, not_false_eq_true, not_true_eq_false, true_and, and_true, false_and, and_false, and_self, true_or, or_true, false_or, or_false, or_self, Nat.reduceAdd, Nat.reduceLT, Nat.reduceLeDiff, Nat.succ_ne_zero, reduceIte, reduceCtorEq]
      · simp (config := {decide := true}) only [f_X8_offer, b_X8_offer_0, b_X8_offer_29, b_X8_offer_58, m_noLot h' hp, m_isInN _ ha, m_start0 hj h0, m_ref1 hj h0 (show ¬ (2 : Int32) ≤ 0 by decide), gI_pt hj, gR_pt hj, ob_pt hj, ck_pt hj, pI_pt hj, pB_pt hj, pR_pt hj, aI_pt hj, aR_pt hj, wI_pt hj, wJ_pt hj, aL_pt hj, cl1_s, cl1_n, cl1_i, cx1_s, cx1_x, cx1_n, cx1_i, nul_n, nul_s, nm, dv2, dv3, dv4, dv5, dv8, dv10, dv20, dv40, thr, bo, mI_pt hj, mT_pt hj, sB_pt, mZ_pt, mJ_pt, mJ_sJ, mZ_sJ, tn0, tn1, tn2, tn3, tn4, tn5, tn6, h0, ii0, ii1, ii2, ii3, ii4, if_true, if_false, ne_eq, not_false_eq_true, not_true_eq_false, true_and, and_true, false_and, and_false, and_self, true_or, or_true, false_or, or_false, or_self, Nat.reduceAdd, Nat.reduceLT, Nat.reduceLeDiff, Nat.succ_ne_zero, reduceIte, reduceCtorEq]
  · refine Agr.bad (k := 1) (b := 0) h (by decide) ?_ ?_
    · simp (config := {decide := true}) only [f_L_offer, b_L_offer_0, f_X4_offer, b_X4_offer_0, x_lotAtN h hp, gI_pt hj, gR_pt hj, ob_pt hj, ck_pt hj, pI_pt hj, pB_pt hj, pR_pt hj, aI_pt hj, aR_pt hj, wI_pt hj, wJ_pt hj, aL_pt hj, cl1_s, cl1_n, cl1_i, cx1_s, cx1_x, cx1_n, cx1_i, nul_n, nul_s, nm, dv2, dv3, dv4, dv5, dv8, dv10, dv20, dv40, thr, bo, mI_pt hj, mT_pt hj, sB_pt, mZ_pt, mJ_pt, mJ_sJ, mZ_sJ, tn0, tn1, tn2, tn3, tn4, tn5, tn6, hx0, h132, ii0, ii1, ii2, ii3, ii4, if_true, if_false, ne_eq, not_false_eq_true, not_true_eq_false, true_and, and_true, false_and, and_false, and_self, true_or, or_true, false_or, or_false, or_self, Nat.reduceAdd, Nat.reduceLT, Nat.reduceLeDiff, Nat.succ_ne_zero, reduceIte, reduceCtorEq]
    · simp (config := {decide := true}) only [f_X8_offer, b_X8_offer_0, b_X8_offer_58, m_noLotN h' hp, m_start1 hj h0 (show ¬ (1 : Int32) ≤ 0 by decide), gI_pt hj, gR_pt hj, ob_pt hj, ck_pt hj, pI_pt hj, pB_pt hj, pR_pt hj, aI_pt hj, aR_pt hj, wI_pt hj, wJ_pt hj, aL_pt hj, cl1_s, cl1_n, cl1_i, cx1_s, cx1_x, cx1_n, cx1_i, nul_n, nul_s, nm, dv2, dv3, dv4, dv5, dv8, dv10, dv20, dv40, thr, bo, mI_pt hj, mT_pt hj, sB_pt, mZ_pt, mJ_pt, mJ_sJ, mZ_sJ, tn0, tn1, tn2, tn3, tn4, tn5, tn6, h0, ii0, ii1, ii2, ii3, ii4, if_true, if_false, ne_eq, not_false_eq_true, not_true_eq_false, true_and, and_true, false_and, and_false, and_self, true_or, or_true, false_or, or_false, or_self, Nat.reduceAdd, Nat.reduceLT, Nat.reduceLeDiff, Nat.succ_ne_zero, reduceIte, reduceCtorEq]
end OF
