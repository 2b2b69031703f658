/-! a lot that goes; KNOCK -/
section KN
variable {φ : Nat → Nat} {T : Nat → Nat × Nat} {I : Nat → Nat → Int32} {R : Nat → Nat → Option Nat} {τ : Mem} {e0 nS nL cS cL n z : Nat} {mx : Nat → Int32} {cB : Nat → Nat} {bl : Nat → List (Nat × Int32)}
variable {mi a k i j l w s c : Nat} {J J' : Nat → Nat → Int32} {R' : Nat → Nat → Option Nat} {p q r : Int32} {τ0 τ1 : Mem}
theorem x_close (h : Cx φ T I R z e0 nS nL cS cL mx cB bl n) (hi : i < 17) : ∃ J', f_X0_close (φ (6 * i + 22)) (pt φ T J R τ) = some ((), pt φ T J' R τ) ∧ (∀ v, v ≠ 6 * i + 22 → v ≠ 6 * i + 23 → J' v = J v) ∧ J' (6 * i + 22) 0 = 0 ∧ (∀ k, k ≠ 0 → J' (6 * i + 22) k = J (6 * i + 22) k) ∧ (∀ k, k < 4 → J' (6 * i + 23) k = 0) := by
  obtain ⟨hj, hl, hx, hm, hr⟩ := h; obtain ⟨hx0, hx1, hx2, hx3, hx4, hx5, hx6, hx7, hx8, hx9, hx10, hx11, hx12, hx13, hx14, hx15, hx16, hx17, hx18, hx19, hx20, hx21, hx22, hx23, hx24, hx25, hx26, hx27⟩ := hx; obtain ⟨hm0, hm1, hm2, hm3, hm4, hm5, hm6, hm7, hm8, hm9, hm10, hm11, hm12, hm13, hm14, hm15, hm16, hm17, hm18, hm19, hm20, hm21, hm22, hm23, hm24, hm25, hm26, hm27, hm28, hm29, hm30, hm31, hm32, hm33, hm34, hm35, hm36, hm37, hm38, hm39, hm40, hm41, hm42, hm43, hm44⟩ := hm; obtain ⟨⟨⟨g1, g2⟩, ⟨g3, g4, g5, g6, g7⟩, g8, g9, g10⟩, r1, r2, r3, r4, r5, r6⟩ := hr
  have n1 : 6 * i + 22 ≠ 6 * i + 23 := by omega
  refine ⟨up2 (up2 (up2 (up2 (up2 J (6 * i + 22) 0 0) (6 * i + 23) 0 0) (6 * i + 23) 1 0) (6 * i + 23) 2 0) (6 * i + 23) 3 0, ?_, fun v h1 h2 => by simp (disch := omega) only [up2_row], ?_, fun k hk => ?_, fun k hk => ?_⟩
  · simp (config := {decide := true}) only [b_X0_close_7, b_X0_close_0, f_X0_close, l_X0_close_7, itr_40, itr_39, itr_38, itr_37, itr_36, itr_35, gI_pt hj, gR_pt hj, ob_pt hj, ck_pt hj, pI_pt hj, pB_pt hj, pR_pt hj, aI_pt hj, aR_pt hj, wI_pt hj, wJ_pt hj, aL_pt hj, cl1_s, cl1_n, cl1_i, cx1_s, cx1_x, cx1_n, cx1_i, nul_n, nul_s, nm, dv2, dv3, dv4, dv5, dv8, dv10, dv20, dv40, thr, bo, mI_pt hj, mT_pt hj, sB_pt, mZ_pt, mJ_pt, mJ_sJ, mZ_sJ, tn0, tn1, tn2, tn3, tn4, tn5, tn6, hx21 i hi, hx22 i hi, hx24 i hi, ii0, ii1, ii2, ii3, ii4, if_true, if_false, ne_eq, not_false_eq_true, not_true_eq_false, true_and, and_true, false_and, and_false, and_self, true_or, or_true, false_or, or_false, or_self, Nat.reduceAdd, Nat.reduceLT, Nat.reduceLeDiff, Nat.succ_ne_zero, reduceIte, reduceCtorEq]
  · rw [up2_row n1, up2_row n1, up2_row n1, up2_row n1, up2_at]
  · rw [up2_row n1, up2_row n1, up2_row n1, up2_row n1, up2_k hk]
  · rcases (show k = 0 ∨ k = 1 ∨ k = 2 ∨ k = 3 by omega) with rfl | rfl | rfl | rfl <;> simp (config := {decide := true}) only [up2, and_false, and_true, if_false, if_true]
theorem x_vanish (h : Cx φ T I R z e0 nS nL cS cL mx cB bl n) (hi : i < 17) : ∃ J', f_X1_vanish (φ (6 * i + 19)) (pt φ T J R τ) = some ((), pt φ T J' R τ) ∧ (∀ v, v ≠ 6 * i + 19 → v ≠ 6 * i + 20 → J' v = J v) ∧ J' (6 * i + 19) 0 = 3 ∧ J' (6 * i + 19) 1 = 0 ∧ (∀ k, k ≠ 0 → k ≠ 1 → J' (6 * i + 19) k = J (6 * i + 19) k) ∧ (∀ k, k < 4 → J' (6 * i + 20) k = 0) := by
  obtain ⟨hj, hl, hx, hm, hr⟩ := h; obtain ⟨hx0, hx1, hx2, hx3, hx4, hx5, hx6, hx7, hx8, hx9, hx10, hx11, hx12, hx13, hx14, hx15, hx16, hx17, hx18, hx19, hx20, hx21, hx22, hx23, hx24, hx25, hx26, hx27⟩ := hx; obtain ⟨hm0, hm1, hm2, hm3, hm4, hm5, hm6, hm7, hm8, hm9, hm10, hm11, hm12, hm13, hm14, hm15, hm16, hm17, hm18, hm19, hm20, hm21, hm22, hm23, hm24, hm25, hm26, hm27, hm28, hm29, hm30, hm31, hm32, hm33, hm34, hm35, hm36, hm37, hm38, hm39, hm40, hm41, hm42, hm43, hm44⟩ := hm; obtain ⟨⟨⟨g1, g2⟩, ⟨g3, g4, g5, g6, g7⟩, g8, g9, g10⟩, r1, r2, r3, r4, r5, r6⟩ := hr
  have n1 : 6 * i + 19 ≠ 6 * i + 20 := by omega
  refine ⟨up2 (up2 (up2 (up2 (up2 (up2 J (6 * i + 19) 0 3) (6 * i + 19) 1 0) (6 * i + 20) 0 0) (6 * i + 20) 1 0) (6 * i + 20) 2 0) (6 * i + 20) 3 0, ?_, fun v h1 h2 => by simp (disch := omega) only [up2_row], ?_, ?_, fun k hk hk1 => ?_, fun k hk => ?_⟩
  · simp (config := {decide := true}) only [b_X1_vanish_12, b_X1_vanish_0, f_X1_vanish, l_X1_vanish_12, itr_40, itr_39, itr_38, itr_37, itr_36, itr_35, gI_pt hj, gR_pt hj, ob_pt hj, ck_pt hj, pI_pt hj, pB_pt hj, pR_pt hj, aI_pt hj, aR_pt hj, wI_pt hj, wJ_pt hj, aL_pt hj, cl1_s, cl1_n, cl1_i, cx1_s, cx1_x, cx1_n, cx1_i, nul_n, nul_s, nm, dv2, dv3, dv4, dv5, dv8, dv10, dv20, dv40, thr, bo, mI_pt hj, mT_pt hj, sB_pt, mZ_pt, mJ_pt, mJ_sJ, mZ_sJ, tn0, tn1, tn2, tn3, tn4, tn5, tn6, hx15 i hi, hx16 i hi, hx19 i hi, ii0, ii1, ii2, ii3, ii4, if_true, if_false, ne_eq, not_false_eq_true, not_true_eq_false, true_and, and_true, false_and, and_false, and_self, true_or, or_true, false_or, or_false, or_self, Nat.reduceAdd, Nat.reduceLT, Nat.reduceLeDiff, Nat.succ_ne_zero, reduceIte, reduceCtorEq]
  · rw [up2_row n1, up2_row n1, up2_row n1, up2_row n1, up2_k (by decide), up2_at]
  · rw [up2_row n1, up2_row n1, up2_row n1, up2_row n1, up2_at]
  · rw [up2_row n1, up2_row n1, up2_row n1, up2_row n1, up2_k hk1, up2_k hk]
  · rcases (show k = 0 ∨ k = 1 ∨ k = 2 ∨ k = 3 by omega) with rfl | rfl | rfl | rfl <;> simp (config := {decide := true}) only [up2, and_false, and_true, if_false, if_true]
theorem m_clear (hj : Inj φ T) (h1 : T l = (2, 0)) (hs : J l 2 = Int32.ofNat s) (hsc : s ≤ c) (hs30 : s ≤ 30) (hr : 0 < s → R l 1 = some (φ w)) (hr0 : ∃ x, R l 1 = some x) (hT : 0 < s → T w = (106, c)) (hlw : l ≠ w) : ∃ J' R', f_Jx4a65c_clear_da8c8 (φ l) (pt φ T J R τ) = some ((), pt φ T J' R' τ) ∧ (∀ v, v ≠ l → J' v = J v) ∧ J' l 2 = 0 ∧ (∀ v, v ≠ w → R' v = R v) := by
  have hlk : (T l).1 = 1 + 1 := by rw [h1]
  obtain ⟨x, hx⟩ := hr0
  refine ⟨up2 (up2 J l 0 (J l 0 + 1)) l 2 0, ?_⟩
  have L := itr_loop (fun n (s' : Int32 × Mem) => l_Jx4a65c_clear_da8c8_27 n (some x) (Int32.ofNat s) s'.1 s'.2) (fun k s' => s'.1 = Int32.ofNat k ∧ ∃ R1, s'.2 = pt φ T (up2 (up2 J l 0 (J l 0 + 1)) l 2 0) R1 τ ∧ (∀ v, v ≠ w → R1 v = R v)) s (by
    rintro n k ⟨y, σ⟩ hk ⟨hy, R1, hσ, hR1⟩
    simp only at hy hσ
    subst hy hσ
    have xw : x = φ w := by
      have := hr (by omega)
      rw [hx] at this; cases this; rfl
    subst xw
    have tw := hT (by omega)
    have c1 : ¬ Int32.ofNat s ≤ Int32.ofNat k := by rw [kN_le (by omega) (by omega)]; omega
    have c2 := kN_nn (a := k) (by omega)
    have c3 := tnK (k := k) (by omega)
    refine ⟨(Int32.ofNat (k + 1), pt φ T (up2 (up2 J l 0 (J l 0 + 1)) l 2 0) (up2 R1 w k none) τ), ⟨rfl, _, rfl, fun v hv => by rw [up2_row hv]; exact hR1 v hv⟩, ?_⟩
    have W : ∀ (K : Mem → Option (Unit × Mem)), wR 6 (pt φ T (up2 (up2 J l 0 (J l 0 + 1)) l 2 0) R1 τ) (some (φ w)) (Int32.ofNat k) none K = K (pt φ T (up2 (up2 J l 0 (J l 0 + 1)) l 2 0) (up2 R1 w k none) τ) := fun K => by
      rw [wR_pt hj (by rw [tw]) c2 (by rw [tw, c3]; show k < c; omega) el_none, c3]
    simp (config := {decide := true}) only [l_Jx4a65c_clear_da8c8_27, itr_succ, b_Jx4a65c_clear_da8c8_27, W, c1, kN_s, gI_pt hj, gR_pt hj, ob_pt hj, ck_pt hj, pI_pt hj, pB_pt hj, pR_pt hj, aI_pt hj, aR_pt hj, wI_pt hj, wJ_pt hj, aL_pt hj, cl1_s, cl1_n, cl1_i, cx1_s, cx1_x, cx1_n, cx1_i, nul_n, nul_s, nm, dv2, dv3, dv4, dv5, dv8, dv10, dv20, dv40, thr, bo, ii0, ii1, ii2, ii3, ii4, if_true, if_false, ne_eq, not_false_eq_true, not_true_eq_false, true_and, and_true, false_and, and_false, and_self, true_or, or_true, false_or, or_false, or_self, Nat.reduceAdd, Nat.reduceLT, Nat.reduceLeDiff, Nat.succ_ne_zero, reduceIte, reduceCtorEq])
  obtain ⟨⟨y, σ⟩, ⟨hy, R1, hσ, hR1⟩, h5⟩ := L s 0 40 (0, pt φ T (up2 (up2 J l 0 (J l 0 + 1)) l 2 0) R τ) (by omega) (by omega) ⟨rfl, R, rfl, fun _ _ => rfl⟩
  simp only at hy hσ
  subst hy hσ
  refine ⟨R1, ?_, fun v hv => by rw [up2_row hv, up2_row hv], up2_at, hR1⟩
  obtain ⟨m, hm⟩ : ∃ m, 40 - s = m + 1 := ⟨39 - s, by omega⟩
  simp only [hm] at h5
  have i2 : up2 J l 0 (J l 0 + 1) l 2 = Int32.ofNat s := by rw [up2_k (by decide)]; exact hs
  have E : l_Jx4a65c_clear_da8c8_27 (m + 1) (some x) (Int32.ofNat s) (Int32.ofNat s) (pt φ T (up2 (up2 J l 0 (J l 0 + 1)) l 2 0) R1 τ) = some ((), pt φ T (up2 (up2 J l 0 (J l 0 + 1)) l 2 0) R1 τ) := by
    have c1 : Int32.ofNat s ≤ Int32.ofNat s := Int32.le_refl _
    simp (config := {decide := true}) only [l_Jx4a65c_clear_da8c8_27, itr_succ, b_Jx4a65c_clear_da8c8_27, c1, ii0, ii1, ii2, ii3, ii4, if_true, if_false, ne_eq, not_false_eq_true, not_true_eq_false, true_and, and_true, false_and, and_false, and_self, true_or, or_true, false_or, or_false, or_self, Nat.reduceAdd, Nat.reduceLT, Nat.reduceLeDiff, Nat.succ_ne_zero, reduceIte, reduceCtorEq]
  simp (config := {decide := true}) only [f_Jx4a65c_clear_da8c8, b_Jx4a65c_clear_da8c8_0, gI_pt hj, gR_pt hj, ob_pt hj, ck_pt hj, pI_pt hj, pB_pt hj, pR_pt hj, aI_pt hj, aR_pt hj, wI_pt hj, wJ_pt hj, aL_pt hj, cl1_s, cl1_n, cl1_i, cx1_s, cx1_x, cx1_n, cx1_i, nul_n, nul_s, nm, dv2, dv3, dv4, dv5, dv8, dv10, dv20, dv40, thr, bo, mI_pt hj, mT_pt hj, sB_pt, mZ_pt, mJ_pt, mJ_sJ, mZ_sJ, tn0, tn1, tn2, tn3, tn4, tn5, tn6, hlk, hx, i2, h5, E, ii0, ii1, ii2, ii3, ii4, if_true, if_false, ne_eq, not_false_eq_true, not_true_eq_false, true_and, and_true, false_and, and_false, and_self, true_or, or_true, false_or, or_false, or_self, Nat.reduceAdd, Nat.reduceLT, Nat.reduceLeDiff, Nat.succ_ne_zero, reduceIte, reduceCtorEq]
theorem m_clearB (h : Cx φ T I R z e0 nS nL cS cL mx cB bl n) (iL : i < nL) (hJ : J (10 * i + 153) 2 = I (10 * i + 153) 2) : ∃ J' R', f_Jx4a65c_clear_da8c8 (φ (10 * i + 153)) (pt φ T J R τ) = some ((), pt φ T J' R' τ) ∧ (∀ v, v ≠ 10 * i + 153 → J' v = J v) ∧ J' (10 * i + 153) 2 = 0 ∧ (∀ v, v ≠ 10 * i + 154 → R' v = R v) := by
  have h4 := bid_len (h.bidr iL)
  obtain ⟨hj, hl, hx, hm, hr⟩ := h; obtain ⟨hx0, hx1, hx2, hx3, hx4, hx5, hx6, hx7, hx8, hx9, hx10, hx11, hx12, hx13, hx14, hx15, hx16, hx17, hx18, hx19, hx20, hx21, hx22, hx23, hx24, hx25, hx26, hx27⟩ := hx; obtain ⟨hm0, hm1, hm2, hm3, hm4, hm5, hm6, hm7, hm8, hm9, hm10, hm11, hm12, hm13, hm14, hm15, hm16, hm17, hm18, hm19, hm20, hm21, hm22, hm23, hm24, hm25, hm26, hm27, hm28, hm29, hm30, hm31, hm32, hm33, hm34, hm35, hm36, hm37, hm38, hm39, hm40, hm41, hm42, hm43, hm44⟩ := hm; obtain ⟨⟨⟨g1, g2⟩, ⟨g3, g4, g5, g6, g7⟩, g8, g9, g10⟩, r1, r2, r3, r4, r5, r6⟩ := hr
  have n39 := hm39 i iL
  refine m_clear (s := (bl i).length) (c := cB i) hj (hm35 i iL) (by rw [hJ]; exact hm36 i iL) n39 (by omega) (fun hp => ?_) ⟨_, hm37 i iL⟩ (fun hp => hm38 i iL (by omega)) (by omega)
  rw [hm37 i iL, if_neg (by omega)]
theorem m_go (h : Cx φ T I R z e0 nS nL cS cL mx cB bl n) (iL : i < nL) (hJ : J (10 * i + 153) 2 = I (10 * i + 153) 2) : ∃ J' R', f_X5_go (φ (10 * i + 150)) (pt φ T J R τ) = some ((), pt φ T J' R' τ) ∧ (∀ v, v ≠ 10 * i + 150 → v ≠ 10 * i + 151 → v ≠ 10 * i + 153 → J' v = J v) ∧ J' (10 * i + 150) 0 = 3 ∧ J' (10 * i + 150) 13 = 0 ∧ (∀ k, k ≠ 0 → k ≠ 13 → J' (10 * i + 150) k = J (10 * i + 150) k) ∧ (∀ k, k < 4 → J' (10 * i + 151) k = 0) ∧ J' (10 * i + 153) 2 = 0 ∧ (∀ v, v ≠ 10 * i + 154 → R' v = R v) := by
  obtain ⟨J1, R1, C1, C2, C3, C4⟩ := m_clearB (J := up2 (up2 J (10 * i + 150) 0 3) (10 * i + 150) 13 0) (τ := τ) h iL (by rw [up2_row (by omega), up2_row (by omega)]; exact hJ)
  have T8 := h.t8 iL
  obtain ⟨hj, hl, hx, hm, hr⟩ := h; obtain ⟨hx0, hx1, hx2, hx3, hx4, hx5, hx6, hx7, hx8, hx9, hx10, hx11, hx12, hx13, hx14, hx15, hx16, hx17, hx18, hx19, hx20, hx21, hx22, hx23, hx24, hx25, hx26, hx27⟩ := hx; obtain ⟨hm0, hm1, hm2, hm3, hm4, hm5, hm6, hm7, hm8, hm9, hm10, hm11, hm12, hm13, hm14, hm15, hm16, hm17, hm18, hm19, hm20, hm21, hm22, hm23, hm24, hm25, hm26, hm27, hm28, hm29, hm30, hm31, hm32, hm33, hm34, hm35, hm36, hm37, hm38, hm39, hm40, hm41, hm42, hm43, hm44⟩ := hm; obtain ⟨⟨⟨g1, g2⟩, ⟨g3, g4, g5, g6, g7⟩, g8, g9, g10⟩, r1, r2, r3, r4, r5, r6⟩ := hr
  have n1 : 10 * i + 150 ≠ 10 * i + 151 := by omega
  have n2 : 10 * i + 153 ≠ 10 * i + 151 := by omega
  have r1 : R1 (10 * i + 150) = R (10 * i + 150) := C4 _ (by omega)
  refine ⟨up2 (up2 (up2 (up2 J1 (10 * i + 151) 0 0) (10 * i + 151) 1 0) (10 * i + 151) 2 0) (10 * i + 151) 3 0, R1, ?_, fun v h1 h2 h3 => ?_, ?_, ?_, fun k hk hk1 => ?_, fun k hk => ?_, ?_, C4⟩
  · simp (config := {decide := true}) only [f_X5_go, b_X5_go_0, l_X5_go_19, itr_40, itr_39, itr_38, itr_37, itr_36, itr_35, b_X5_go_19, C1, gI_pt hj, gR_pt hj, ob_pt hj, ck_pt hj, pI_pt hj, pB_pt hj, pR_pt hj, aI_pt hj, aR_pt hj, wI_pt hj, wJ_pt hj, aL_pt hj, cl1_s, cl1_n, cl1_i, cx1_s, cx1_x, cx1_n, cx1_i, nul_n, nul_s, nm, dv2, dv3, dv4, dv5, dv8, dv10, dv20, dv40, thr, bo, mI_pt hj, mT_pt hj, sB_pt, mZ_pt, mJ_pt, mJ_sJ, mZ_sJ, tn0, tn1, tn2, tn3, tn4, tn5, tn6, T8, r1, hm30 i iL, hm31 i iL, hm34 i iL, hm35 i iL, ii0, ii1, ii2, ii3, ii4, if_true, if_false, ne_eq, not_false_eq_true, not_true_eq_false, true_and, and_true, false_and, and_false, and_self, true_or, or_true, false_or, or_false, or_self, Nat.reduceAdd, Nat.reduceLT, Nat.reduceLeDiff, Nat.succ_ne_zero, reduceIte, reduceCtorEq]
  · rw [up2_row h2, up2_row h2, up2_row h2, up2_row h2, C2 v h3, up2_row h1, up2_row h1]
  · rw [up2_row n1, up2_row n1, up2_row n1, up2_row n1, C2 _ (by omega), up2_k (by decide), up2_at]
  · rw [up2_row n1, up2_row n1, up2_row n1, up2_row n1, C2 _ (by omega), up2_at]
  · rw [up2_row n1, up2_row n1, up2_row n1, up2_row n1, C2 _ (by omega), up2_k hk1, up2_k hk]
  · rcases (show k = 0 ∨ k = 1 ∨ k = 2 ∨ k = 3 by omega) with rfl | rfl | rfl | rfl <;> simp (config := {decide := true}) only [up2, and_false, and_true, if_false, if_true]
  · rw [up2_row n2, up2_row n2, up2_row n2, up2_row n2]; exact C3
theorem SM.clr {I' : Nat → Nat → Int32} (hm : SM φ T I R e0 nS nL cS cL mx cB bl) (iL : i < nL) (fI : ∀ v, v = 125 ∨ v = 126 ∨ (∃ i' k, i' < nL ∧ 3 ≤ k ∧ k < 9 ∧ v = 10 * i' + 150 + k ∧ v ≠ 10 * i + 153) → I' v = I v) (h2 : I' (10 * i + 153) 2 = 0) (fR : ∀ v, v ≠ 10 * i + 154 → R' v = R v) : SM φ T I' R' e0 nS nL cS cL mx cB (rowS bl i []) := by
  obtain ⟨hm0, hm1, hm2, hm3, hm4, hm5, hm6, hm7, hm8, hm9, hm10, hm11, hm12, hm13, hm14, hm15, hm16, hm17, hm18, hm19, hm20, hm21, hm22, hm23, hm24, hm25, hm26, hm27, hm28, hm29, hm30, hm31, hm32, hm33, hm34, hm35, hm36, hm37, hm38, hm39, hm40, hm41, hm42, hm43, hm44⟩ := hm
  unfold SM
  refine ⟨?_, ?_, ?_, ?_, ?_, ?_, ?_, ?_, ?_, ?_, ?_, ?_, ?_, ?_, ?_, ?_, ?_, ?_, ?_, ?_, ?_, ?_, ?_, ?_, ?_, ?_, ?_, ?_, ?_, ?_, ?_, ?_, ?_, ?_, ?_, ?_, ?_, ?_, ?_, ?_, ?_, ?_, ?_, ?_, ?_⟩
  · (try simp (disch := omega) only [fR]); exact hm0
  · (try simp (disch := omega) only [fR]); exact hm1
  · (try simp (disch := omega) only [fR]); exact hm2
  · (try simp (disch := omega) only [fR]); exact hm3
  · (try simp (disch := omega) only [fR]); exact hm4
  · (try simp (disch := omega) only [fR]); exact hm5
  · (try simp (disch := omega) only [fR]); exact hm6
  · (try simp (disch := omega) only [fR]); exact hm7
  · (try simp (disch := omega) only [fR]); exact hm8
  · (try simp (disch := omega) only [fR]); exact hm9
  · intro i hi; (try simp (disch := omega) only [fR]); exact hm10 i hi
  · intro i hi; (try simp (disch := omega) only [fR]); exact hm11 i hi
  · rw [fI 125 (Or.inl rfl)]; exact hm12
  · rw [fI 126 (Or.inr (Or.inl rfl))]; exact hm13
  · (try simp (disch := omega) only [fR]); exact hm14
  · (try simp (disch := omega) only [fR]); exact hm15
  · intro hi; (try simp (disch := omega) only [fR]); exact hm16 hi
  · intro hi; (try simp (disch := omega) only [fR]); exact hm17 hi
  · exact hm18
  · exact hm19
  · exact hm20
  · exact hm21
  · exact hm22
  · exact hm23
  · intro i hi; (try simp (disch := omega) only [fR]); exact hm24 i hi
  · intro i hi; (try simp (disch := omega) only [fR]); exact hm25 i hi
  · intro i hi; (try simp (disch := omega) only [fR]); exact hm26 i hi
  · intro i hi; (try simp (disch := omega) only [fR]); exact hm27 i hi
  · intro i hi; (try simp (disch := omega) only [fR]); exact hm28 i hi
  · intro i hi; (try simp (disch := omega) only [fR]); exact hm29 i hi
  · intro i hi; (try simp (disch := omega) only [fR]); exact hm30 i hi
  · intro i hi; (try simp (disch := omega) only [fR]); exact hm31 i hi
  · intro i hi; (try simp (disch := omega) only [fR]); exact hm32 i hi
  · intro i hi; (try simp (disch := omega) only [fR]); exact hm33 i hi
  · intro i hi; (try simp (disch := omega) only [fR]); exact hm34 i hi
  · intro i hi; (try simp (disch := omega) only [fR]); exact hm35 i hi
  · intro i' hi'
    by_cases q : i' = i
    · subst q; rw [rowS_hit, h2]; rfl
    · rw [rowS_ne q, fI (10 * i' + 153) (Or.inr (Or.inr ⟨i', 3, hi', by omega, by omega, by omega, by omega⟩))]; exact hm36 i' hi'
  · intro i hi; (try simp (disch := omega) only [fR]); exact hm37 i hi
  · intro i hi; (try simp (disch := omega) only [fR]); exact hm38 i hi
  · intro i' hi'
    by_cases q : i' = i
    · subst q; rw [rowS_hit]; exact Nat.zero_le _
    · rw [rowS_ne q]; exact hm39 i' hi'
  · intro i' hi' k b hb
    by_cases q : i' = i
    · subst q; rw [rowS_hit] at hb; simp at hb
    · rw [rowS_ne q] at hb
      have hb4 := (hm40 i' hi' k b hb).1
      rw [fR (10 * i' + 154) (by omega), fI (10 * i' + 155 + b.1) (Or.inr (Or.inr ⟨i', 5 + b.1, hi', by omega, by omega, by omega, by omega⟩))]
      exact hm40 i' hi' k b hb
  · (try simp (disch := omega) only [fR]); exact hm41
  · (try simp (disch := omega) only [fR]); exact hm42
  · intro i hi; exact hm43 i hi
  · intro k h1 h2; rw [fR 134 (by omega)]; exact hm44 k h1 h2
theorem sumZ_le {f g : Nat → Int} {n : Nat} (h : ∀ i, i < n → f i ≤ g i) : sumZ f n ≤ sumZ g n := by
  induction n with
  | zero => exact Int.le_refl _
  | succ n ih =>
    simp only [sumZ]
    have := ih (fun i hi => h i (by omega))
    have := h n (by omega)
    omega
theorem BidR.nil {xa xp xt : Nat → Int32} (h1 : 0 ≤ (xa 1).toInt) (h2 : (xa 1).toInt ≤ n) (h3 : ∀ k, k < 4 → xp k = 0) : BidR xa xp xt [] n :=
  ⟨⟨h1, h2⟩, (fun e he => by simp at he), (fun q hq _ => h3 q hq), List.Pairwise.nil⟩
/-- a lot that is gone -/
theorem LotR.gone {x xu xn xa xp xt m mu mn : Nat → Int32} {mx : Int32} {b : List (Nat × Int32)} {x' xu' xa' xp' m' mu' : Nat → Int32} (h : LotR x xu xn xa xp xt m mu mn mx b n)
    (x0 : x' 0 = 3) (x1 : x' 1 = 0) (xk : ∀ k, k ≠ 0 → k ≠ 1 → x' k = x k) (m0 : m' 0 = 3) (m13 : m' 13 = 0) (mk : ∀ k, k ≠ 0 → k ≠ 13 → m' k = m k) (xu0 : ∀ k, k < 4 → xu' k = 0) (mu0 : ∀ k, k < 4 → mu' k = 0) (xa0 : xa' 0 = 0) (xak : ∀ k, k ≠ 0 → xa' k = xa k) (xp0 : ∀ k, k < 4 → xp' k = 0) : LotR x' xu' xn xa' xp' xt m' mu' mn mx [] (n + 1) := by
  obtain ⟨⟨E0, E2, E3, E4, E5, E6, E7, E8, E9, E10, E11, E12, E13⟩, qB, qC, qD, ⟨qE1, qE2, qE3⟩, qF, qG, qH, ⟨qK1, -, -, -⟩⟩ := h
  have z : (0 : Int32).toInt = 0 := rfl
  unfold LotR
  simp (disch := decide) only [x0, x1, xk, m0, m13, mk, xa0, xak, xu0, mu0]
  refine ⟨⟨trivial, E2, E3, E4, E5, E6, E7, E8, E9, E10, E11, E12, trivial⟩, ⟨trivial, trivial, trivial, trivial⟩, ⟨by decide, by decide, by decide, by decide, by decide, by decide⟩, qD, ⟨qE1, qE2, by decide⟩, ⟨fun _ => by decide, fun q => absurd rfl q, fun q => absurd q (by decide)⟩, ⟨qG.1, by have := qG.2; omega⟩, ⟨by decide, by decide, fun q => absurd rfl q, fun q => absurd rfl q⟩, BidR.nil (by rw [xak 1 (by decide)]; exact qK1.1) (by rw [xak 1 (by decide)]; have := qK1.2; omega) xp0⟩
end KN

section KO
variable {φ : Nat → Nat} {T : Nat → Nat × Nat} {I : Nat → Nat → Int32} {R : Nat → Nat → Option Nat} {τ : Mem} {e0 nS nL cS cL n z : Nat} {mx : Nat → Int32} {cB : Nat → Nat} {bl : Nat → List (Nat × Int32)}
variable {mi a k i j l w s c : Nat} {J J' : Nat → Nat → Int32} {R' : Nat → Nat → Option Nat} {p q r : Int32} {τ0 τ1 : Mem}
theorem op_knock {x m o : Nat} {σ : Mem} (p : Int32) (h : Jn e0 x m o n σ) : Agr e0 x m o n (f_L_knock (some x) p (some o) σ) (fun σ => f_X8_knock e0 mi m p σ) := by
  obtain ⟨φ, T, I, R, τ, nS, nL, cS, cL, mx, cB, bl, rfl, ⟨rfl, rfl, rfl⟩, h⟩ := h
  have h : Cx φ T I R (mZ τ) e0 nS nL cS cL mx cB bl n := h
  have hj := h.hj
  have h0 := h.m.1
  have hx0 := h.m.2.2.2.2.2.2.2
  have h132 := h.m.2.2.2.2.2.2.1
  have h7 := h.m.2.2.2.1
  have h6 := h.m.2.2.1
  have hN := h.m.2.2.2.2.1
  have hS := h.m.2.2.2.2.2.1
  have h' : Cx φ T I R (mZ (sB τ)) e0 nS nL cS cL mx cB bl n := h.up (Nat.le_succ _)
  by_cases hp : InN p nL
  · have iL := (idx h.m.2.2.2.2.1 hp.1 hp.2).2.2.2.2
    generalize hi : p.toNatClampNeg = i at iL
    have T8 := h.t8 iL
    have E13 : I (6 * i + 22) 0 = I (10 * i + 150) 13 := (h.lr iL).1.2.2.2.2.2.2.2.2.2.2.2.2
    obtain ⟨T4, R15, T3, R5, T10, M4, T128, M14, T153⟩ : T (6 * i + 19) = (4, 0) ∧ R (6 * i + 19) 15 = some (φ (6 * i + 22)) ∧ T (6 * i + 22) = (3, 0) ∧ R 0 7 = some (φ 10) ∧ T 10 = (100, 4) ∧ R 124 9 = some (φ 128) ∧ T 128 = (100, 4) ∧ R (10 * i + 150) 14 = some (φ (10 * i + 153)) ∧ T (10 * i + 153) = (2, 0) := by
      obtain ⟨hj, hl, hx, hm, hr⟩ := h; obtain ⟨hx0, hx1, hx2, hx3, hx4, hx5, hx6, hx7, hx8, hx9, hx10, hx11, hx12, hx13, hx14, hx15, hx16, hx17, hx18, hx19, hx20, hx21, hx22, hx23, hx24, hx25, hx26, hx27⟩ := hx; obtain ⟨hm0, hm1, hm2, hm3, hm4, hm5, hm6, hm7, hm8, hm9, hm10, hm11, hm12, hm13, hm14, hm15, hm16, hm17, hm18, hm19, hm20, hm21, hm22, hm23, hm24, hm25, hm26, hm27, hm28, hm29, hm30, hm31, hm32, hm33, hm34, hm35, hm36, hm37, hm38, hm39, hm40, hm41, hm42, hm43, hm44⟩ := hm; obtain ⟨⟨⟨g1, g2⟩, ⟨g3, g4, g5, g6, g7⟩, g8, g9, g10⟩, r1, r2, r3, r4, r5, r6⟩ := hr
      exact ⟨hx15 i (by omega), hx18 i (by omega), hx21 i (by omega), hx5, hx9, hm4, hm8, hm34 i iL, hm35 i iL⟩
    have JJ : ∀ v, 125 ≤ v → up2 I 124 0 0 v = I v := fun v hv => up2_row (by omega)
    by_cases hs : I (6 * i + 22) 0 ≤ 0
    · refine Agr.bad (k := 2) (b := 0) h (by decide) ?_ ?_
      · have O := x_isOpen (I := I) (R := R) (τ := τ) hj T3
        rw [if_pos hs] at O
        simp (config := {decide := true}) only [f_L_knock, b_L_knock_0, f_X4_knock, b_X4_knock_0, x_lotAt h hp hi, O, x_st0, gI_pt hj, gR_pt hj, ob_pt hj, ck_pt hj, pI_pt hj, pB_pt hj, pR_pt hj, aI_pt hj, aR_pt hj, wI_pt hj, wJ_pt hj, aL_pt hj, cl1_s, cl1_n, cl1_i, cx1_s, cx1_x, cx1_n, cx1_i, nul_n, nul_s, nm, dv2, dv3, dv4, dv5, dv8, dv10, dv20, dv40, thr, bo, mI_pt hj, mT_pt hj, sB_pt, mZ_pt, mJ_pt, mJ_sJ, mZ_sJ, tn0, tn1, tn2, tn3, tn4, tn5, tn6, hx0, T4, R15, T3, ii0, ii1, ii2, ii3, ii4, if_true, if_false, ne_eq, not_false_eq_true, not_true_eq_false, true_and, and_true, false_and, and_false, and_self, true_or, or_true, false_or, or_false, or_self, Nat.reduceAdd, Nat.reduceLT, Nat.reduceLeDiff, Nat.succ_ne_zero, reduceIte, reduceCtorEq]
      · have G := m_getJ (J := up2 I 124 0 0) (τ := sB τ) h' (JJ 126 (by omega)) hp hi
        have O := m_isOff (I := up2 I 124 0 0) (R := R) (τ := sB τ) hj T8
        rw [JJ _ (by omega), ← E13, if_pos hs] at O
        simp (config := {decide := true}) only [f_X8_knock, b_X8_knock_0, b_X8_knock_36, b_X8_knock_43, m_noLot h' hp, m_start0 hj h0, m_ref1 hj h0 (show ¬ (2 : Int32) ≤ 0 by decide), G, O, gI_pt hj, gR_pt hj, ob_pt hj, ck_pt hj, pI_pt hj, pB_pt hj, pR_pt hj, aI_pt hj, aR_pt hj, wI_pt hj, wJ_pt hj, aL_pt hj, cl1_s, cl1_n, cl1_i, cx1_s, cx1_x, cx1_n, cx1_i, nul_n, nul_s, nm, dv2, dv3, dv4, dv5, dv8, dv10, dv20, dv40, thr, bo, mI_pt hj, mT_pt hj, sB_pt, mZ_pt, mJ_pt, mJ_sJ, mZ_sJ, tn0, tn1, tn2, tn3, tn4, tn5, tn6, h0, h7, h6, T8, ii0, ii1, ii2, ii3, ii4, if_true, if_false, ne_eq, not_false_eq_true, not_true_eq_false, true_and, and_true, false_and, and_false, and_self, true_or, or_true, false_or, or_false, or_self, Nat.reduceAdd, Nat.reduceLT, Nat.reduceLeDiff, Nat.succ_ne_zero, reduceIte, reduceCtorEq]
    · have O := x_isOpen (I := I) (R := R) (τ := τ) hj T3
      rw [if_neg hs] at O
      have A := x_lotAt h hp hi
      obtain ⟨w, W, hw⟩ := x_win (τ := τ) h iL
      rcases mk_same h iL rfl hw with ⟨rfl, hn⟩ | ⟨j, e, j4, rfl, he, hej, hpr⟩
      · -- nobody
        obtain ⟨J1, C1, C2, C3, C4, C5⟩ := x_close (J := I) (τ := τ) h (show i < 17 by omega)
        obtain ⟨τ1, hτ1⟩ : ∃ τ1, τ1 = sJ τ (φ 132) 0 (-1 : Int32).toInt64 := ⟨_, rfl⟩
        have z1 : mZ τ1 = mZ τ := by rw [hτ1]; rfl
        have j1 : mJ τ1 (φ 132) 0 = (-1 : Int32).toInt64 := by rw [hτ1]; exact sJ_at
        have JI : ∀ v, 125 ≤ v → up2 J1 124 0 0 v = I v := fun v hv => by rw [up2_row (by omega), C2 _ (by omega) (by omega)]
        obtain ⟨τ2, r, OO, K2, hr⟩ := m_outcome (mi := mi) (J := up2 J1 124 0 0) (τ1 := τ1) h JI (by rw [z1]; exact Nat.le_refl _) iL rfl
        rcases hr with ⟨-, rfl⟩ | ⟨e, a, he, -⟩
        · obtain ⟨J2, R2, D1, D2, D3, D4⟩ := m_clearB (J := up2 (up2 J1 124 0 0) (10 * i + 150) 13 0) (τ := τ2) h iL (by rw [up2_row (by omega), JI _ (by omega)])
          have fI : ∀ v, v ≠ 124 → v ≠ 6 * i + 22 → v ≠ 6 * i + 23 → v ≠ 10 * i + 150 → v ≠ 10 * i + 153 → J2 v = I v := fun v y1 y2 y3 y4 y5 => by rw [D2 v y5, up2_row y4, up2_row y1, C2 v y2 y3]
          have f150 : ∀ k, k ≠ 13 → J2 (10 * i + 150) k = I (10 * i + 150) k := fun k hk => by rw [D2 _ (by omega), up2_k hk, up2_row (by omega), C2 _ (by omega) (by omega)]
          have f150' : J2 (10 * i + 150) 13 = 0 := by rw [D2 _ (by omega), up2_at]
          have f22 : J2 (6 * i + 22) 0 = 0 := by rw [D2 _ (by omega), up2_row (by omega), up2_row (by omega)]; exact C3
          have f22' : ∀ k, k ≠ 0 → J2 (6 * i + 22) k = I (6 * i + 22) k := fun k hk => by rw [D2 _ (by omega), up2_row (by omega), up2_row (by omega)]; exact C4 k hk
          have f23 : ∀ k, k < 4 → J2 (6 * i + 23) k = 0 := fun k hk => by rw [D2 _ (by omega), up2_row (by omega), up2_row (by omega)]; exact C5 k hk
          have f124 : ∀ k, k ≠ 0 → J2 124 k = I 124 k := fun k hk => by rw [D2 _ (by omega), up2_row (by omega), up2_k hk, C2 _ (by omega) (by omega)]
          have hCx : Cx φ T J2 R2 (mZ τ2) e0 nS nL cS cL mx cB (rowS bl i []) (n + 1) := by
            have hup := h.up (show mZ τ ≤ mZ τ2 by rw [← z1]; exact K2.1)
            refine ⟨hj, hup.2.1, h.2.2.1.frame (fun _ _ => rfl) (fun _ _ => rfl) (fun v hv => D4 v (by omega)), SM.clr h.2.2.2.1 iL ?_ D3 D4, ?_⟩
            · rintro v (rfl | rfl | ⟨i', k, y1, y2, y3, rfl, y5⟩) <;> exact fI _ (by omega) (by omega) (by omega) (by omega) (by omega)
            · obtain ⟨⟨⟨g1, g2⟩, ⟨g3, g4, g5, g6, g7⟩, g8, g9, g10⟩, r1, r2, r3, r4, r5, r6⟩ := h.2.2.2.2
              refine ⟨⟨⟨?_, ?_⟩, ⟨?_, ?_, ?_, ?_, ?_⟩, ?_, ?_, ?_⟩, fun i' hi' => ?_, fun i' y1 y2 => ?_, fun i' hi' => ?_, fun i' y1 y2 => ?_, fun i' hi' => ?_, ?_⟩
              · rw [fI 0 (by omega) (by omega) (by omega) (by omega) (by omega)]; exact g1
              · rw [fI 0 (by omega) (by omega) (by omega) (by omega) (by omega)]; exact g2
              · rw [fI 0 (by omega) (by omega) (by omega) (by omega) (by omega), f124 1 (by decide)]; exact g3
              · rw [fI 0 (by omega) (by omega) (by omega) (by omega) (by omega), f124 2 (by decide)]; exact g4
              · rw [fI 0 (by omega) (by omega) (by omega) (by omega) (by omega), f124 3 (by decide)]; exact g5
              · rw [fI 0 (by omega) (by omega) (by omega) (by omega) (by omega), f124 4 (by decide)]; exact g6
              · rw [fI 0 (by omega) (by omega) (by omega) (by omega) (by omega), f124 5 (by decide)]; exact g7
              · simp (disch := omega) only [fI]; exact g8
              · simp (disch := omega) only [fI]; exact g9
              · simp (disch := omega) only [fI]; exact g10
              · by_cases q : i' = i
                · subst q
                  rw [rowS_hit]
                  obtain ⟨⟨E0, E2, E3, E4, E5, E6, E7, E8, E9, E10, E11, E12, E13⟩, qB, qC, qD, qE, qF, qG, ⟨qH1, qH2, qH3, qH4⟩, qK⟩ := r1 i' hi'
                  simp (disch := omega) only [fI]
                  unfold LotR
                  simp (disch := decide) only [f150, f150', f22, f22']
                  exact ⟨⟨E0, E2, E3, E4, E5, E6, E7, E8, E9, E10, E11, E12, trivial⟩, qB, qC, qD, qE, qF, ⟨qG.1, by have := qG.2; omega⟩, ⟨by decide, by decide, fun q => absurd rfl q, fun q => absurd rfl q⟩, BidR.nil (by rw [f22' 1 (by decide)]; exact qK.1.1) (by rw [f22' 1 (by decide)]; have := qK.1.2; omega) f23⟩
                · rw [rowS_ne q]
                  simp (disch := omega) only [fI]; exact (r1 i' hi').mono (Nat.le_succ _)
              · simp (disch := omega) only [fI]; exact r2 i' y1 y2
              · simp (disch := omega) only [fI]; exact (r3 i' hi').mono (Nat.le_succ _)
              · simp (disch := omega) only [fI]; exact r4 i' y1 y2
              · simp (disch := omega) only [fI]; exact (r5 i' hi').mono (Nat.le_succ _)
              · unfold SumR
                rw [sumZ_congr (g := fun i => (I (6 * i + 19) 1).toInt)]
                · exact r6
                · intro j hj; simp (disch := omega) only [fI]
          refine Agr.fin (b := -1) (σ1 := pt φ T J1 R τ1) hCx ?_ ?_ ?_ ?_
          · simp (config := {decide := true}) only [f_L_knock, b_L_knock_0, f_X4_knock, b_X4_knock_0, b_X4_knock_88, A, O, W, x_st1, C1, gI_pt hj, gR_pt hj, ob_pt hj, ck_pt hj, pI_pt hj, pB_pt hj, pR_pt hj, aI_pt hj, aR_pt hj, wI_pt hj, wJ_pt hj, aL_pt hj, cl1_s, cl1_n, cl1_i, cx1_s, cx1_x, cx1_n, cx1_i, nul_n, nul_s, nm, dv2, dv3, dv4, dv5, dv8, dv10, dv20, dv40, thr, bo, mI_pt hj, mT_pt hj, sB_pt, mZ_pt, mJ_pt, mJ_sJ, mZ_sJ, tn0, tn1, tn2, tn3, tn4, tn5, tn6, hx0, T4, R15, T3, h132, ii0, ii1, ii2, ii3, ii4, if_true, if_false, ne_eq, not_false_eq_true, not_true_eq_false, true_and, and_true, false_and, and_false, and_self, true_or, or_true, false_or, or_false, or_self, Nat.reduceAdd, Nat.reduceLT, Nat.reduceLeDiff, Nat.succ_ne_zero, reduceIte, reduceCtorEq]
            rw [hτ1]
          · have h1' : Cx φ T I R (mZ τ1) e0 nS nL cS cL mx cB bl n := by rw [z1]; exact h
            have NL := m_noLotJ (J := J1) (τ := τ1) h (C2 126 (by omega) (by omega)) hp
            have G := m_getJ (J := up2 J1 124 0 0) (τ := τ1) h (JI 126 (by omega)) hp hi
            have O2 := m_isOff (I := up2 J1 124 0 0) (R := R) (τ := τ1) hj T8
            rw [JI _ (by omega), ← E13, if_neg hs] at O2
            simp (config := {decide := true}) only [f_X8_knock, b_X8_knock_0, b_X8_knock_36, NL, m_start0 hj h0, m_ref0 hj h0, G, O2, OO, D1, gI_pt hj, gR_pt hj, ob_pt hj, ck_pt hj, pI_pt hj, pB_pt hj, pR_pt hj, aI_pt hj, aR_pt hj, wI_pt hj, wJ_pt hj, aL_pt hj, cl1_s, cl1_n, cl1_i, cx1_s, cx1_x, cx1_n, cx1_i, nul_n, nul_s, nm, dv2, dv3, dv4, dv5, dv8, dv10, dv20, dv40, thr, bo, mI_pt hj, mT_pt hj, sB_pt, mZ_pt, mJ_pt, mJ_sJ, mZ_sJ, tn0, tn1, tn2, tn3, tn4, tn5, tn6, h0, h7, h6, T8, M14, T153, ii0, ii1, ii2, ii3, ii4, if_true, if_false, ne_eq, not_false_eq_true, not_true_eq_false, true_and, and_true, false_and, and_false, and_self, true_or, or_true, false_or, or_false, or_self, Nat.reduceAdd, Nat.reduceLT, Nat.reduceLeDiff, Nat.succ_ne_zero, reduceIte, reduceCtorEq]
          · rw [D2 _ (by omega), up2_row (by omega), up2_at]
          · rw [K2.out (by rw [z1]; exact h.out)]; exact j1
        · rw [hn] at he; cases he
      · -- sold
        obtain ⟨v, P, hv⟩ := x_price (τ := τ) h (show i < 17 by omega) j4
        rw [hpr v hv] at P
        obtain ⟨pr, hprd⟩ : ∃ pr, pr = prM (I (10 * i + 150) 13) e (oc (AL I bl i (bl i).length) (AL I bl i (bl i).length).length).2 := ⟨_, rfl⟩
        rw [← hprd] at P
        obtain ⟨ct, hct⟩ : ∃ ct, ct = pr * I (6 * i + 19) 1 / 10 := ⟨_, rfl⟩
        have C := x_cost (I := I) (R := R) (τ := τ) hj T4 pr
        rw [← hct] at C
        obtain ⟨JA, hJA⟩ : ∃ JA, JA = up2 (up2 (up2 (up2 I 10 j (I 10 j - ct)) 0 8 (I 0 8 + ct)) 0 9 (I 0 9 + 1)) 0 10 (I 0 10 + I (6 * i + 19) 1) := ⟨_, rfl⟩
        have fA : ∀ v, v ≠ 10 → v ≠ 0 → JA v = I v := fun v y1 y2 => by rw [hJA]; simp (disch := omega) only [up2_row]
        obtain ⟨JB, V1, V2, V3, V4, V5, V6⟩ := x_vanish (J := JA) (τ := τ) h (show i < 17 by omega)
        obtain ⟨J1, C1, C2, C3, C4, C5⟩ := x_close (J := JB) (τ := τ) h (show i < 17 by omega)
        obtain ⟨τ1, hτ1⟩ : ∃ τ1, τ1 = sJ τ (φ 132) 0 (Int32.ofNat j).toInt64 := ⟨_, rfl⟩
        have z1 : mZ τ1 = mZ τ := by rw [hτ1]; rfl
        have j1 : mJ τ1 (φ 132) 0 = (Int32.ofNat j).toInt64 := by rw [hτ1]; exact sJ_at
        have f1 : ∀ v, v ≠ 10 → v ≠ 0 → v ≠ 6 * i + 19 → v ≠ 6 * i + 20 → v ≠ 6 * i + 22 → v ≠ 6 * i + 23 → J1 v = I v := fun v y1 y2 y3 y4 y5 y6 => by rw [C2 v y5 y6, V2 v y3 y4, fA v y1 y2]
        have JI : ∀ v, 125 ≤ v → up2 J1 124 0 0 v = I v := fun v hv => by rw [up2_row (by omega), f1 _ (by omega) (by omega) (by omega) (by omega) (by omega) (by omega)]
        obtain ⟨τ2, r, OO, K2, hr⟩ := m_outcome (mi := mi) (J := up2 J1 124 0 0) (τ1 := τ1) h JI (by rw [z1]; exact Nat.le_refl _) iL rfl
        rcases hr with ⟨hr, -⟩ | ⟨e', a, he', rfl, ha, tA, a0, a1⟩
        · rw [hr] at he; cases he
        · rw [he] at he'; cases he'
          rw [← hprd] at a1
          rw [hej] at a0
          have hoa : Off φ T a := h.offZ (by omega)
          have k4 := kN_nn (a := j) (by omega)
          have k5 := tnK (k := j) (by omega)
          obtain ⟨JC, hJC⟩ : ∃ JC, JC = up2 (up2 (up2 J1 124 0 0) 128 j (I 128 j - ct)) 124 2 (I 124 2 + ct) := ⟨_, rfl⟩
          have fC : ∀ v, v ≠ 124 → v ≠ 128 → JC v = J1 v := fun v y1 y2 => by rw [hJC]; simp (disch := omega) only [up2_row]
          have DD1 := m_dryJ (J := up2 J1 124 0 0) (τ := τ2) h iL (JI _ (by omega))
          have DD2 := m_dryJ (J := JC) (τ := τ2) h iL (by rw [fC _ (by omega) (by omega), f1 _ (by omega) (by omega) (by omega) (by omega) (by omega) (by omega)])
          obtain ⟨J2, R2, D1, D2, D3, D3', D4, D5, D6, D7⟩ := m_go (J := up2 (up2 JC 124 5 (I 124 5 + I (6 * i + 19) 1)) 124 3 (I 124 3 + 1)) (τ := τ2) h iL (by rw [up2_row (by omega), up2_row (by omega), fC _ (by omega) (by omega), f1 _ (by omega) (by omega) (by omega) (by omega) (by omega) (by omega)])
          have f2 : ∀ v, v ≠ 124 → v ≠ 128 → v ≠ 10 * i + 150 → v ≠ 10 * i + 151 → v ≠ 10 * i + 153 → J2 v = J1 v := fun v y1 y2 y3 y4 y5 => by rw [D2 v y3 y4 y5, up2_row y1, up2_row y1, fC v y1 y2]
          have fI : ∀ v, v ≠ 124 → v ≠ 128 → v ≠ 10 * i + 150 → v ≠ 10 * i + 151 → v ≠ 10 * i + 153 → v ≠ 10 → v ≠ 0 → v ≠ 6 * i + 19 → v ≠ 6 * i + 20 → v ≠ 6 * i + 22 → v ≠ 6 * i + 23 → J2 v = I v := fun v y1 y2 y3 y4 y5 y6 y7 y8 y9 y10 y11 => by rw [f2 v y1 y2 y3 y4 y5, f1 v y6 y7 y8 y9 y10 y11]
          have f124 : ∀ k, J2 124 k = up2 (up2 JC 124 5 (I 124 5 + I (6 * i + 19) 1)) 124 3 (I 124 3 + 1) 124 k := fun k => by rw [D2 _ (by omega) (by omega) (by omega)]
          have q124 : ∀ k, J1 124 k = I 124 k := fun k => by rw [f1 _ (by omega) (by omega) (by omega) (by omega) (by omega) (by omega)]
          have q128 : J1 128 = I 128 := f1 _ (by omega) (by omega) (by omega) (by omega) (by omega) (by omega)
          have q0 : ∀ k, J2 0 k = JA 0 k := fun k => by rw [f2 _ (by omega) (by omega) (by omega) (by omega) (by omega), C2 _ (by omega) (by omega), V2 _ (by omega) (by omega)]
          have q10 : ∀ k, J2 10 k = JA 10 k := fun k => by rw [f2 _ (by omega) (by omega) (by omega) (by omega) (by omega), C2 _ (by omega) (by omega), V2 _ (by omega) (by omega)]
          have q128' : ∀ k, J2 128 k = JC 128 k := fun k => by rw [D2 _ (by omega) (by omega) (by omega), up2_row (by omega), up2_row (by omega)]
          have hCx : Cx φ T J2 R2 (mZ τ2) e0 nS nL cS cL mx cB (rowS bl i []) (n + 1) := by
            have hup := h.up (show mZ τ ≤ mZ τ2 by rw [← z1]; exact K2.1)
            refine ⟨hj, hup.2.1, h.2.2.1.frame (fun _ _ => rfl) (fun _ _ => rfl) (fun v hv => D7 v (by omega)), SM.clr h.2.2.2.1 iL ?_ D6 D7, ?_⟩
            · rintro v (rfl | rfl | ⟨i', k, y1, y2, y3, rfl, y5⟩) <;> exact fI _ (by omega) (by omega) (by omega) (by omega) (by omega) (by omega) (by omega) (by omega) (by omega) (by omega) (by omega)
            · obtain ⟨⟨⟨g1, g2⟩, ⟨g3, g4, g5, g6, g7⟩, g8, g9, g10⟩, r1, r2, r3, r4, r5, r6⟩ := h.2.2.2.2
              refine ⟨⟨⟨?_, ?_⟩, ⟨?_, ?_, ?_, ?_, ?_⟩, ?_, ?_, ?_⟩, fun i' hi' => ?_, fun i' y1 y2 => ?_, fun i' hi' => ?_, fun i' y1 y2 => ?_, fun i' hi' => ?_, ?_⟩
              · rw [q0, hJA]; simp (disch := decide) only [up2_k, up2_row]; exact g1
              · rw [q0, hJA]; simp (disch := decide) only [up2_k, up2_row]; exact g2
              · rw [q0, f124, hJA, hJC]; simp (disch := decide) only [up2_k, up2_row, q124]; exact g3
              · rw [q0, f124, hJA, hJC]; simp (disch := decide) only [up2_k, up2_row, up2_at, q124]; rw [g4]
              · rw [q0, f124, hJA, hJC]; simp (disch := decide) only [up2_k, up2_row, up2_at, q124]; rw [g5]
              · rw [q0, f124, hJA, hJC]; simp (disch := decide) only [up2_k, up2_row, q124]; exact g6
              · rw [q0, f124, hJA, hJC]; simp (disch := decide) only [up2_k, up2_row, up2_at, q124]; rw [g7]
              · intro k hk
                rw [q10, q128', hJA, hJC]
                simp (disch := decide) only [up2_row]
                by_cases y : k = j
                · subst y; rw [up2_at, up2_at, g8 k hk]
                · rw [up2_k y, up2_k y, up2_row (by decide), q128]; exact g8 k hk
              · simp (disch := omega) only [fI]; exact g9
              · simp (disch := omega) only [fI]; exact g10
              · by_cases q : i' = i
                · subst q
                  rw [rowS_hit]
                  have e24 : J2 (6 * i' + 24) = I (6 * i' + 24) := by simp (disch := omega) only [fI]
                  have e21 : J2 (6 * i' + 21) = I (6 * i' + 21) := by simp (disch := omega) only [fI]
                  have e152 : J2 (10 * i' + 152) = I (10 * i' + 152) := by simp (disch := omega) only [fI]
                  rw [e24, e21, e152]
                  have f19 : ∀ k, J2 (6 * i' + 19) k = JB (6 * i' + 19) k := fun k => by rw [f2 _ (by omega) (by omega) (by omega) (by omega) (by omega), C2 _ (by omega) (by omega)]
                  have f20 : ∀ k, J2 (6 * i' + 20) k = JB (6 * i' + 20) k := fun k => by rw [f2 _ (by omega) (by omega) (by omega) (by omega) (by omega), C2 _ (by omega) (by omega)]
                  have f22 : ∀ k, J2 (6 * i' + 22) k = J1 (6 * i' + 22) k := fun k => by rw [f2 _ (by omega) (by omega) (by omega) (by omega) (by omega)]
                  have f23 : ∀ k, J2 (6 * i' + 23) k = J1 (6 * i' + 23) k := fun k => by rw [f2 _ (by omega) (by omega) (by omega) (by omega) (by omega)]
                  refine (r1 i' hi').gone (by rw [f19]; exact V3) (by rw [f19]; exact V4) (fun k y1 y2 => by rw [f19, V5 k y1 y2, fA _ (by omega) (by omega)]) D3 D3' (fun k y1 y2 => by rw [D4 k y1 y2, up2_row (by omega), up2_row (by omega), fC _ (by omega) (by omega), f1 _ (by omega) (by omega) (by omega) (by omega) (by omega) (by omega)]) (fun k hk => by rw [f20]; exact V6 k hk) D5 (by rw [f22]; exact C3) (fun k hk => by rw [f22, C4 k hk, V2 _ (by omega) (by omega), fA _ (by omega) (by omega)]) (fun k hk => by rw [f23]; exact C5 k hk)
                · rw [rowS_ne q]
                  simp (disch := omega) only [fI]; exact (r1 i' hi').mono (Nat.le_succ _)
              · simp (disch := omega) only [fI]; exact r2 i' y1 y2
              · simp (disch := omega) only [fI]; exact (r3 i' hi').mono (Nat.le_succ _)
              · simp (disch := omega) only [fI]; exact r4 i' y1 y2
              · simp (disch := omega) only [fI]; exact (r5 i' hi').mono (Nat.le_succ _)
              · unfold SumR
                refine Int.le_trans (sumZ_le (g := fun i => (I (6 * i + 19) 1).toInt) (fun i' hi' => ?_)) r6
                by_cases q : i' = i
                · subst q
                  have f19 : J2 (6 * i' + 19) 1 = 0 := by rw [f2 _ (by omega) (by omega) (by omega) (by omega) (by omega), C2 _ (by omega) (by omega)]; exact V4
                  obtain ⟨-, -, ⟨y1, y2, y3, y4, y5, y6⟩, -⟩ := r1 i' hi'
                  show (J2 (6 * i' + 19) 1).toInt ≤ (I (6 * i' + 19) 1).toInt
                  rw [f19, show (0 : Int32).toInt = 0 from rfl]; omega
                · simp (disch := omega) only [fI]; exact Int.le_refl _
          refine Agr.fin (b := Int32.ofNat j) (σ1 := pt φ T J1 R τ1) hCx ?_ ?_ ?_ ?_
          · have jn := oN_neg (j := j) (by omega)
            have D19 : (6 * i + 19) ≠ 0 := by omega
            have D20 : (6 * i + 19) ≠ 10 := by omega
            rw [hJA] at V1
            simp (config := {decide := true}) only [f_L_knock, b_L_knock_0, f_X4_knock, b_X4_knock_0, b_X4_knock_88, A, O, W, P, C, x_st1, gI_pt hj, gR_pt hj, ob_pt hj, ck_pt hj, pI_pt hj, pB_pt hj, pR_pt hj, aI_pt hj, aR_pt hj, wI_pt hj, wJ_pt hj, aL_pt hj, cl1_s, cl1_n, cl1_i, cx1_s, cx1_x, cx1_n, cx1_i, nul_n, nul_s, nm, dv2, dv3, dv4, dv5, dv8, dv10, dv20, dv40, thr, bo, mI_pt hj, mT_pt hj, sB_pt, mZ_pt, mJ_pt, mJ_sJ, mZ_sJ, tn0, tn1, tn2, tn3, tn4, tn5, tn6, hx0, T4, R15, T3, R5, T10, j4, k4, k5, jn, up2_row (show (0 : Nat) ≠ 10 by decide), up2_k (show (9 : Nat) ≠ 8 by decide), up2_k (show (10 : Nat) ≠ 8 by decide), up2_k (show (10 : Nat) ≠ 9 by decide), up2_row D19, up2_row D20, V1, C1, h132, ii0, ii1, ii2, ii3, ii4, if_true, if_false, ne_eq, not_false_eq_true, not_true_eq_false, true_and, and_true, false_and, and_false, and_self, true_or, or_true, false_or, or_false, or_self, Nat.reduceAdd, Nat.reduceLT, Nat.reduceLeDiff, Nat.succ_ne_zero, reduceIte, reduceCtorEq]
            rw [hτ1]
          · have NL := m_noLotJ (J := J1) (τ := τ1) h (f1 126 (by omega) (by omega) (by omega) (by omega) (by omega) (by omega)) hp
            have G := m_getJ (J := up2 J1 124 0 0) (τ := τ1) h (JI 126 (by omega)) hp hi
            have O2 := m_isOff (I := up2 J1 124 0 0) (R := R) (τ := τ1) hj T8
            rw [JI _ (by omega), ← E13, if_neg hs] at O2
            rw [hJC] at DD2 D1
            simp (config := {decide := true}) only [f_X8_knock, b_X8_knock_0, b_X8_knock_36, NL, m_start0 hj h0, m_ref0 hj h0, G, O2, OO, DD1, gI_pt hj, gR_pt hj, ob_pt hj, ck_pt hj, pI_pt hj, pB_pt hj, pR_pt hj, aI_pt hj, aR_pt hj, wI_pt hj, wJ_pt hj, aL_pt hj, cl1_s, cl1_n, cl1_i, cx1_s, cx1_x, cx1_n, cx1_i, nul_n, nul_s, nm, dv2, dv3, dv4, dv5, dv8, dv10, dv20, dv40, thr, bo, gI_off, gR_off, ob_off, ck_off, pI_off, pB_off, pR_off, aI_off, wI_off, aR_off, nA_off, nO_off, mT_sI, mT_sR, mT_sJ, mT_sN_at, mI_sN_at, mR_sN_at, mI_sI, mI_sR, mI_sJ, mR_sI, mR_sR, mR_sJ, mZ_sI, mZ_sR, mZ_sN, mJ_sI, mJ_sR, hoa, mI_pt hj, mT_pt hj, sB_pt, mZ_pt, mJ_pt, mJ_sJ, mZ_sJ, tn0, tn1, tn2, tn3, tn4, tn5, tn6, h0, h7, h6, T8, M14, T153, M4, T128, tA, a0, a1, ← hct, j4, k4, k5, JI 128 (by omega), up2_row (show (124 : Nat) ≠ 128 by decide), up2_k (show (2 : Nat) ≠ 0 by decide), up2_k (show (5 : Nat) ≠ 0 by decide), up2_k (show (3 : Nat) ≠ 0 by decide), up2_k (show (5 : Nat) ≠ 2 by decide), up2_k (show (3 : Nat) ≠ 2 by decide), up2_k (show (3 : Nat) ≠ 5 by decide), q124, DD2, D1, ii0, ii1, ii2, ii3, ii4, if_true, if_false, ne_eq, not_false_eq_true, not_true_eq_false, true_and, and_true, false_and, and_false, and_self, true_or, or_true, false_or, or_false, or_self, Nat.reduceAdd, Nat.reduceLT, Nat.reduceLeDiff, Nat.succ_ne_zero, reduceIte, reduceCtorEq]
          · rw [f124, hJC]; simp (disch := decide) only [up2_k, up2_row, up2_at]
          · rw [K2.out (by rw [z1]; exact h.out)]; exact j1
  · refine Agr.bad (k := 1) (b := 0) h (by decide) ?_ ?_
    · simp (config := {decide := true}) only [f_L_knock, b_L_knock_0, f_X4_knock, b_X4_knock_0, x_lotAtN h hp, gI_pt hj, gR_pt hj, ob_pt hj, ck_pt hj, pI_pt hj, pB_pt hj, pR_pt hj, aI_pt hj, aR_pt hj, wI_pt hj, wJ_pt hj, aL_pt hj, cl1_s, cl1_n, cl1_i, cx1_s, cx1_x, cx1_n, cx1_i, nul_n, nul_s, nm, dv2, dv3, dv4, dv5, dv8, dv10, dv20, dv40, thr, bo, mI_pt hj, mT_pt hj, sB_pt, mZ_pt, mJ_pt, mJ_sJ, mZ_sJ, tn0, tn1, tn2, tn3, tn4, tn5, tn6, hx0, h132, ii0, ii1, ii2, ii3, ii4, if_true, if_false, ne_eq, not_false_eq_true, not_true_eq_false, true_and, and_true, false_and, and_false, and_self, true_or, or_true, false_or, or_false, or_self, Nat.reduceAdd, Nat.reduceLT, Nat.reduceLeDiff, Nat.succ_ne_zero, reduceIte, reduceCtorEq]
    · simp (config := {decide := true}) only [f_X8_knock, b_X8_knock_0, b_X8_knock_43, m_noLotN h' hp, m_start1 hj h0 (show ¬ (1 : Int32) ≤ 0 by decide), gI_pt hj, gR_pt hj, ob_pt hj, ck_pt hj, pI_pt hj, pB_pt hj, pR_pt hj, aI_pt hj, aR_pt hj, wI_pt hj, wJ_pt hj, aL_pt hj, cl1_s, cl1_n, cl1_i, cx1_s, cx1_x, cx1_n, cx1_i, nul_n, nul_s, nm, dv2, dv3, dv4, dv5, dv8, dv10, dv20, dv40, thr, bo, mI_pt hj, mT_pt hj, sB_pt, mZ_pt, mJ_pt, mJ_sJ, mZ_sJ, tn0, tn1, tn2, tn3, tn4, tn5, tn6, h0, ii0, ii1, ii2, ii3, ii4, if_true, if_false, ne_eq, not_false_eq_true, not_true_eq_false, true_and, and_true, false_and, and_false, and_self, true_or, or_true, false_or, or_false, or_self, Nat.reduceAdd, Nat.reduceLT, Nat.reduceLeDiff, Nat.succ_ne_zero, reduceIte, reduceCtorEq]
end KO
