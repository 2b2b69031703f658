/-! PLUCK: both runs -/
section PR
variable {φ : Nat → Nat} {T : Nat → Nat × Nat} {I : Nat → Nat → Int32} {R : Nat → Nat → Option Nat} {τ : Mem} {e0 nS nL cS cL n z : Nat} {mx : Nat → Int32} {cB : Nat → Nat} {bl : Nat → List (Nat × Int32)}
variable {mi a k i j s c g q : Nat} {J J' : Nat → Nat → Int32} {R' : Nat → Nat → Option Nat} {p r hands hd ol yg most tt : Int32} {τ0 τ1 : Mem}
theorem x_pl109 (h : Cx φ T I R z e0 nS nL cS cL mx cB bl n) (hn : nL < 16) (sL : s < nS) (h1 : ¬ p < 0) (h2 : p.toNatClampNeg = s) : ∃ JX, b_X4_pluck_109 (φ 0) p hands (some (φ (2 * s + 11))) hd ol yg 1 (pt φ T I R τ) = some (.inl (Int32.ofNat nL), pt φ T JX R τ) ∧ (∀ v, v ≠ 0 → v ≠ 2 * s + 11 → v ≠ 2 * s + 12 → v ≠ 6 * nL + 19 → v ≠ 6 * nL + 20 → JX v = I v) ∧
    JX 0 4 = Int32.ofNat (nL + 1) ∧ JX 0 8 = I 0 8 - 2 * hands ∧ JX 0 11 = I 0 11 + (5 * hd + 4 * ol + 3 * yg) ∧ (∀ k, k ≠ 4 → k ≠ 8 → k ≠ 11 → JX 0 k = I 0 k) ∧
    JX (2 * s + 11) 6 = I (2 * s + 11) 6 - hd ∧ (∀ k, k ≠ 6 → JX (2 * s + 11) k = I (2 * s + 11) k) ∧ JX (2 * s + 12) 3 = I (2 * s + 12) 3 - ol ∧ JX (2 * s + 12) 2 = I (2 * s + 12) 2 - yg ∧ (∀ k, k ≠ 3 → k ≠ 2 → JX (2 * s + 12) k = I (2 * s + 12) k) ∧
    JX (6 * nL + 19) 0 = 0 ∧ JX (6 * nL + 19) 1 = 5 * hd + 4 * ol + 3 * yg ∧ JX (6 * nL + 19) 2 = 3 * yg ∧ JX (6 * nL + 19) 3 = 3 * (5 * hd + 4 * ol + 3 * yg) ∧ JX (6 * nL + 19) 11 = (if I (2 * s + 11) 5 ≤ 0 then 0 else 1) ∧ (∀ k, k ≠ 0 → k ≠ 1 → k ≠ 2 → k ≠ 3 → k ≠ 11 → JX (6 * nL + 19) k = I (6 * nL + 19) k) ∧
    JX (6 * nL + 20) s = 5 * hd + 4 * ol + 3 * yg ∧ (∀ k, k ≠ s → JX (6 * nL + 20) k = I (6 * nL + 20) k) := by
  have hSS := h.m.2.2.2.2.2.1
  obtain ⟨hj, hl, hx, hm, hr⟩ := h; obtain ⟨hx0, hx1, hx2, hx3, hx4, hx5, hx6, hx7, hx8, hx9, hx10, hx11, hx12, hx13, hx14, hx15, hx16, hx17, hx18, hx19, hx20, hx21, hx22, hx23, hx24, hx25, hx26, hx27⟩ := hx; obtain ⟨hm0, hm1, hm2, hm3, hm4, hm5, hm6, hm7, hm8, hm9, hm10, hm11, hm12, hm13, hm14, hm15, hm16, hm17, hm18, hm19, hm20, hm21, hm22, hm23, hm24, hm25, hm26, hm27, hm28, hm29, hm30, hm31, hm32, hm33, hm34, hm35, hm36, hm37, hm38, hm39, hm40, hm41, hm42, hm43, hm44⟩ := hm; obtain ⟨⟨⟨g1, g2⟩, ⟨g3, g4, g5, g6, g7⟩, g8, g9, g10⟩, r1, r2, r3, r4, r5, r6⟩ := hr
  have s4 : s < 4 := by omega
  have n17 : nL < 17 := by omega
  have e1 : (2 * s + 11) ≠ 0 := by omega
  have e2 : (2 * s + 12) ≠ 0 := by omega
  have e3 : (2 * s + 12) ≠ 2 * s + 11 := by omega
  have e4 : (6 * nL + 19) ≠ 0 := by omega
  have e5 : (6 * nL + 19) ≠ 2 * s + 11 := by omega
  have e6 : (6 * nL + 19) ≠ 2 * s + 12 := by omega
  have e7 : (6 * nL + 19) ≠ 6 * nL + 20 := by omega
  have e8 : (2 * s + 11) ≠ 6 * nL + 19 := by omega
  have e9 : (2 * s + 11) ≠ 6 * nL + 20 := by omega
  have e10 : (2 * s + 11) ≠ 2 * s + 12 := by omega
  have e11 : (0 : Nat) ≠ 6 * nL + 19 := by omega
  have e12 : (0 : Nat) ≠ 6 * nL + 20 := by omega
  have e13 : (0 : Nat) ≠ 2 * s + 11 := by omega
  have e14 : (0 : Nat) ≠ 2 * s + 12 := by omega
  have c1 : ¬ (16 : Int32) ≤ Int32.ofNat nL := by rw [show (16 : Int32) = Int32.ofNat 16 from rfl, kN_le (by omega) (by omega)]; omega
  have c2 := kN_nn (a := nL) (by omega)
  have c3 := tnK (k := nL) (by omega)
  have sb : Int32.ofNat (nL + 1) - 1 = Int32.ofNat nL := by rw [← kN_s]; exact Int32.add_sub_cancel _ _
  have RUN : ∃ JX, b_X4_pluck_109 (φ 0) p hands (some (φ (2 * s + 11))) hd ol yg 1 (pt φ T I R τ) = some (.inl (Int32.ofNat nL), pt φ T JX R τ) ∧ JX = up2 (up2 (up2 (up2 (up2 (up2 (up2 (up2 (up2 (up2 (up2 (up2 I 0 4 (Int32.ofNat (nL + 1))) (2 * s + 11) 6 (I (2 * s + 11) 6 - hd)) (2 * s + 12) 3 (I (2 * s + 12) 3 - ol)) (2 * s + 12) 2 (I (2 * s + 12) 2 - yg)) (6 * nL + 19) 0 0) (6 * nL + 19) 2 (3 * yg)) (6 * nL + 19) 1 (5 * hd + 4 * ol + 3 * yg)) (6 * nL + 20) s (5 * hd + 4 * ol + 3 * yg)) (6 * nL + 19) 3 (3 * (5 * hd + 4 * ol + 3 * yg))) (6 * nL + 19) 11 (if I (2 * s + 11) 5 ≤ 0 then 0 else 1)) 0 8 (I 0 8 - 2 * hands)) 0 11 (I 0 11 + (5 * hd + 4 * ol + 3 * yg)) := by
    refine ⟨_, ?_, rfl⟩
    by_cases c : I (2 * s + 11) 5 ≤ 0
    · rw [if_pos c]
      simp (config := {decide := true}) only [b_X4_pluck_109, b_X4_pluck_228, x_st1, b_X4_newLot_14, b_X4_newLot_0, f_X4_newLot, gI_pt hj, gR_pt hj, ob_pt hj, ck_pt hj, pI_pt hj, pB_pt hj, pR_pt hj, aI_pt hj, aR_pt hj, wI_pt hj, wJ_pt hj, aL_pt hj, cl1_s, cl1_n, cl1_i, cx1_s, cx1_x, cx1_n, cx1_i, nul_n, nul_s, nm, dv2, dv3, dv4, dv5, dv8, dv10, dv20, dv40, thr, bo, mI_pt hj, mT_pt hj, sB_pt, mZ_pt, mJ_pt, mJ_sJ, mZ_sJ, tn0, tn1, tn2, tn3, tn4, tn5, tn6, hx0, hx2, hx7, hx14 nL hn, hx15 nL n17, hx16 nL n17, hx19 nL n17, hx11 s s4, hx12 s s4, hx13 s s4, g2, h1, h2, s4, hn, c1, c2, c3, kN_s, sb, up2_at, up2_row e1, up2_row e2, up2_row e3, up2_row e4, up2_row e5, up2_row e6, up2_row e7, up2_row e8, up2_row e9, up2_row e10, up2_row e11, up2_row e12, up2_row e13, up2_row e14, up2_k, c, ii0, ii1, ii2, ii3, ii4, if_true, if_false, ne_eq, not_false_eq_true, not_true_eq_false, true_and, and_true, false_and, and_false, and_self, true_or, or_true, false_or, or_false, or_self, Nat.reduceAdd, Nat.reduceLT, Nat.reduceLeDiff, Nat.succ_ne_zero, reduceIte, reduceCtorEq]
    · rw [if_neg c]
      simp (config := {decide := true}) only [b_X4_pluck_109, b_X4_pluck_228, x_st1, b_X4_newLot_14, b_X4_newLot_0, f_X4_newLot, gI_pt hj, gR_pt hj, ob_pt hj, ck_pt hj, pI_pt hj, pB_pt hj, pR_pt hj, aI_pt hj, aR_pt hj, wI_pt hj, wJ_pt hj, aL_pt hj, cl1_s, cl1_n, cl1_i, cx1_s, cx1_x, cx1_n, cx1_i, nul_n, nul_s, nm, dv2, dv3, dv4, dv5, dv8, dv10, dv20, dv40, thr, bo, mI_pt hj, mT_pt hj, sB_pt, mZ_pt, mJ_pt, mJ_sJ, mZ_sJ, tn0, tn1, tn2, tn3, tn4, tn5, tn6, hx0, hx2, hx7, hx14 nL hn, hx15 nL n17, hx16 nL n17, hx19 nL n17, hx11 s s4, hx12 s s4, hx13 s s4, g2, h1, h2, s4, hn, c1, c2, c3, kN_s, sb, up2_at, up2_row e1, up2_row e2, up2_row e3, up2_row e4, up2_row e5, up2_row e6, up2_row e7, up2_row e8, up2_row e9, up2_row e10, up2_row e11, up2_row e12, up2_row e13, up2_row e14, up2_k, c, ii0, ii1, ii2, ii3, ii4, if_true, if_false, ne_eq, not_false_eq_true, not_true_eq_false, true_and, and_true, false_and, and_false, and_self, true_or, or_true, false_or, or_false, or_self, Nat.reduceAdd, Nat.reduceLT, Nat.reduceLeDiff, Nat.succ_ne_zero, reduceIte, reduceCtorEq]
  obtain ⟨JX, r1, r2⟩ := RUN
  refine ⟨JX, r1, fun v y1 y2 y3 y4 y5 => ?_, ?_, ?_, ?_, fun k y1 y2 y3 => ?_, ?_, fun k y1 => ?_, ?_, ?_, fun k y1 y2 => ?_, ?_, ?_, ?_, ?_, ?_, fun k y1 y2 y3 y4 y5 => ?_, ?_, fun k y1 => ?_⟩ <;> rw [r2] <;> simp (disch := omega) only [up2_row, up2_k, up2_at]
/-- what the reference does behind its loop -/
noncomputable def plEnd (e0 mi : Nat) (a0 : Nat) (r : Option Nat) (σ : Mem) : Option (Int32 × Mem) :=
  gR 10 7 σ (some a0) fun r47 => ob 1 σ r47 fun h50 => cl1 (f_Jx4a65c_add_9ea2d e0 mi h50 r σ) fun _ σ49 => gR 10 7 σ49 (some a0) fun r51 => ob 1 σ49 r51 fun h54 => cl1 (f_Jx4a65c_size_8abf5 h54 σ49) fun v52 σ53 => nm (v52 - 1) fun v55 => some (v55, σ53)
set_option maxRecDepth 4000 in
theorem m_pl1 (hj : Inj φ T) (tg : T g = (8, 0)) (rg : R g 1 = some (φ (g + 1))) (tg1 : T (g + 1) = (100, 4)) (t124 : T 124 = (11, 0)) (tq : T q = (9, 0)) (rq : R q 6 = some (φ (q + 1))) (tq1 : T (q + 1) = (100, 5)) (hU : ∀ k, J (g + 1) k = 0) (h1 : ¬ p < 0) (h2 : p.toNatClampNeg = s) (s4 : s < 4) (n1 : q + 1 < g) (n2 : 124 < q) (htt : tt = if J q 5 ≤ 0 then 0 else 1) (e_yg : (if J (q + 1) 2 < most then J (q + 1) 2 else most) = yg) :
    l_X8_pluck_116 e0 mi 40 (φ 124) p hands (some (φ q)) (some (φ g)) most 2 (pt φ T J R τ) = plEnd e0 mi (φ 124) (some (φ g)) (pt φ T (up2 (up2 (up2 (up2 (up2 (up2 (up2 J (q + 1) 2 (J (q + 1) 2 - yg)) (g + 1) s (0 + yg * 3)) (g) 2 (yg * 3)) (g) 3 (3 * (0 + yg * 3))) (g) 11 tt) (124) 4 (J 124 4 + (0 + yg * 3))) (124) 2 (J 124 2 - 2 * hands)) R τ) := by
  have e1 : g ≠ q + 1 := by omega
  have e2 : g ≠ g + 1 := by omega
  have e3 : q ≠ g := by omega
  have e4 : q ≠ g + 1 := by omega
  have e5 : q ≠ q + 1 := by omega
  have e6 : (124 : Nat) ≠ q + 1 := by omega
  have e7 : (124 : Nat) ≠ g := by omega
  have e8 : (124 : Nat) ≠ g + 1 := by omega
  have e9 : g + 1 ≠ q + 1 := by omega
  have e10 : q + 1 ≠ g + 1 := by omega
  have e11 : g + 1 ≠ g := by omega
  have D1 : f_X5_dry (φ g) (pt φ T (up2 (up2 (up2 J (q + 1) 2 (J (q + 1) 2 - yg)) (g + 1) s (0 + yg * 3)) (g) 2 (yg * 3)) R τ) = some ((0 + yg * 3), pt φ T (up2 (up2 (up2 J (q + 1) 2 (J (q + 1) 2 - yg)) (g + 1) s (0 + yg * 3)) (g) 2 (yg * 3)) R τ) := by
    rw [m_dry1 hj tg rg tg1 s4 (fun k hk hks => ?_)]
    · simp (disch := omega) only [up2_row, up2_at]
    · simp (disch := omega) only [up2_row, up2_k, hU]
  have D2 : f_X5_dry (φ g) (pt φ T (up2 (up2 (up2 (up2 (up2 J (q + 1) 2 (J (q + 1) 2 - yg)) (g + 1) s (0 + yg * 3)) (g) 2 (yg * 3)) (g) 3 (3 * (0 + yg * 3))) (g) 11 tt) R τ) = some ((0 + yg * 3), pt φ T (up2 (up2 (up2 (up2 (up2 J (q + 1) 2 (J (q + 1) 2 - yg)) (g + 1) s (0 + yg * 3)) (g) 2 (yg * 3)) (g) 3 (3 * (0 + yg * 3))) (g) 11 tt) R τ) := by
    rw [m_dry1 hj tg rg tg1 s4 (fun k hk hks => ?_)]
    · simp (disch := omega) only [up2_row, up2_at]
    · simp (disch := omega) only [up2_row, up2_k, hU]
  by_cases c : J q 5 ≤ 0
  · rw [if_pos c] at htt
    rw [htt] at D2 ⊢
    rw [plEnd]
    simp (config := {decide := true}) only [l_X8_pluck_116, itr_40, itr_39, itr_38, itr_37, b_X8_pluck_116, b_X8_pluck_192, b_X8_pluck_225, gI_pt hj, gR_pt hj, ob_pt hj, ck_pt hj, pI_pt hj, pB_pt hj, pR_pt hj, aI_pt hj, aR_pt hj, wI_pt hj, wJ_pt hj, aL_pt hj, cl1_s, cl1_n, cl1_i, cx1_s, cx1_x, cx1_n, cx1_i, nul_n, nul_s, nm, dv2, dv3, dv4, dv5, dv8, dv10, dv20, dv40, thr, bo, mI_pt hj, mT_pt hj, sB_pt, mZ_pt, mJ_pt, mJ_sJ, mZ_sJ, tn0, tn1, tn2, tn3, tn4, tn5, tn6, tg, rg, tg1, t124, tq, rq, tq1, hU, h1, h2, s4, D1, D2, c, e_yg, show (4 : Int32) + (-1) = 3 by decide, show (3 : Int32) + (-1) = 2 by decide, show (2 : Int32) + (-1) = 1 by decide, up2_at, up2_up2, up2_row e1, up2_row e2, up2_row e3, up2_row e4, up2_row e5, up2_row e6, up2_row e7, up2_row e8, up2_row e9, up2_row e10, up2_row e11, up2_k, ii0, ii1, ii2, ii3, ii4, if_true, if_false, ne_eq, not_false_eq_true, not_true_eq_false, true_and, and_true, false_and, and_false, and_self, true_or, or_true, false_or, or_false, or_self, Nat.reduceAdd, Nat.reduceLT, Nat.reduceLeDiff, Nat.succ_ne_zero, reduceIte, reduceCtorEq]
  · rw [if_neg c] at htt
    rw [htt] at D2 ⊢
    rw [plEnd]
    simp (config := {decide := true}) only [l_X8_pluck_116, itr_40, itr_39, itr_38, itr_37, b_X8_pluck_116, b_X8_pluck_192, b_X8_pluck_225, gI_pt hj, gR_pt hj, ob_pt hj, ck_pt hj, pI_pt hj, pB_pt hj, pR_pt hj, aI_pt hj, aR_pt hj, wI_pt hj, wJ_pt hj, aL_pt hj, cl1_s, cl1_n, cl1_i, cx1_s, cx1_x, cx1_n, cx1_i, nul_n, nul_s, nm, dv2, dv3, dv4, dv5, dv8, dv10, dv20, dv40, thr, bo, mI_pt hj, mT_pt hj, sB_pt, mZ_pt, mJ_pt, mJ_sJ, mZ_sJ, tn0, tn1, tn2, tn3, tn4, tn5, tn6, tg, rg, tg1, t124, tq, rq, tq1, hU, h1, h2, s4, D1, D2, c, e_yg, show (4 : Int32) + (-1) = 3 by decide, show (3 : Int32) + (-1) = 2 by decide, show (2 : Int32) + (-1) = 1 by decide, up2_at, up2_up2, up2_row e1, up2_row e2, up2_row e3, up2_row e4, up2_row e5, up2_row e6, up2_row e7, up2_row e8, up2_row e9, up2_row e10, up2_row e11, up2_k, ii0, ii1, ii2, ii3, ii4, if_true, if_false, ne_eq, not_false_eq_true, not_true_eq_false, true_and, and_true, false_and, and_false, and_self, true_or, or_true, false_or, or_false, or_self, Nat.reduceAdd, Nat.reduceLT, Nat.reduceLeDiff, Nat.succ_ne_zero, reduceIte, reduceCtorEq]
set_option maxRecDepth 4000 in
theorem m_pl2 (hj : Inj φ T) (tg : T g = (8, 0)) (rg : R g 1 = some (φ (g + 1))) (tg1 : T (g + 1) = (100, 4)) (t124 : T 124 = (11, 0)) (tq : T q = (9, 0)) (rq : R q 6 = some (φ (q + 1))) (tq1 : T (q + 1) = (100, 5)) (hU : ∀ k, J (g + 1) k = 0) (h1 : ¬ p < 0) (h2 : p.toNatClampNeg = s) (s4 : s < 4) (n1 : q + 1 < g) (n2 : 124 < q) (htt : tt = if J q 5 ≤ 0 then 0 else 1) (e_ol : (if J (q + 1) 3 < most then J (q + 1) 3 else most) = ol) (e_yg : (if J (q + 1) 2 < most - ol then J (q + 1) 2 else most - ol) = yg) :
    l_X8_pluck_116 e0 mi 40 (φ 124) p hands (some (φ q)) (some (φ g)) most 3 (pt φ T J R τ) = plEnd e0 mi (φ 124) (some (φ g)) (pt φ T (up2 (up2 (up2 (up2 (up2 (up2 (up2 (up2 (up2 J (q + 1) 3 (J (q + 1) 3 - ol)) (g + 1) s (0 + ol * 4)) (q + 1) 2 (J (q + 1) 2 - yg)) (g + 1) s ((0 + ol * 4) + yg * 3)) (g) 2 (yg * 3)) (g) 3 (3 * ((0 + ol * 4) + yg * 3))) (g) 11 tt) (124) 4 (J 124 4 + ((0 + ol * 4) + yg * 3))) (124) 2 (J 124 2 - 2 * hands)) R τ) := by
  have e1 : g ≠ q + 1 := by omega
  have e2 : g ≠ g + 1 := by omega
  have e3 : q ≠ g := by omega
  have e4 : q ≠ g + 1 := by omega
  have e5 : q ≠ q + 1 := by omega
  have e6 : (124 : Nat) ≠ q + 1 := by omega
  have e7 : (124 : Nat) ≠ g := by omega
  have e8 : (124 : Nat) ≠ g + 1 := by omega
  have e9 : g + 1 ≠ q + 1 := by omega
  have e10 : q + 1 ≠ g + 1 := by omega
  have e11 : g + 1 ≠ g := by omega
  have D1 : f_X5_dry (φ g) (pt φ T (up2 (up2 (up2 (up2 (up2 J (q + 1) 3 (J (q + 1) 3 - ol)) (g + 1) s (0 + ol * 4)) (q + 1) 2 (J (q + 1) 2 - yg)) (g + 1) s ((0 + ol * 4) + yg * 3)) (g) 2 (yg * 3)) R τ) = some (((0 + ol * 4) + yg * 3), pt φ T (up2 (up2 (up2 (up2 (up2 J (q + 1) 3 (J (q + 1) 3 - ol)) (g + 1) s (0 + ol * 4)) (q + 1) 2 (J (q + 1) 2 - yg)) (g + 1) s ((0 + ol * 4) + yg * 3)) (g) 2 (yg * 3)) R τ) := by
    rw [m_dry1 hj tg rg tg1 s4 (fun k hk hks => ?_)]
    · simp (disch := omega) only [up2_row, up2_at]
    · simp (disch := omega) only [up2_row, up2_k, hU]
  have D2 : f_X5_dry (φ g) (pt φ T (up2 (up2 (up2 (up2 (up2 (up2 (up2 J (q + 1) 3 (J (q + 1) 3 - ol)) (g + 1) s (0 + ol * 4)) (q + 1) 2 (J (q + 1) 2 - yg)) (g + 1) s ((0 + ol * 4) + yg * 3)) (g) 2 (yg * 3)) (g) 3 (3 * ((0 + ol * 4) + yg * 3))) (g) 11 tt) R τ) = some (((0 + ol * 4) + yg * 3), pt φ T (up2 (up2 (up2 (up2 (up2 (up2 (up2 J (q + 1) 3 (J (q + 1) 3 - ol)) (g + 1) s (0 + ol * 4)) (q + 1) 2 (J (q + 1) 2 - yg)) (g + 1) s ((0 + ol * 4) + yg * 3)) (g) 2 (yg * 3)) (g) 3 (3 * ((0 + ol * 4) + yg * 3))) (g) 11 tt) R τ) := by
    rw [m_dry1 hj tg rg tg1 s4 (fun k hk hks => ?_)]
    · simp (disch := omega) only [up2_row, up2_at]
    · simp (disch := omega) only [up2_row, up2_k, hU]
  by_cases c : J q 5 ≤ 0
  · rw [if_pos c] at htt
    rw [htt] at D2 ⊢
    rw [plEnd]
    simp (config := {decide := true}) only [l_X8_pluck_116, itr_40, itr_39, itr_38, itr_37, b_X8_pluck_116, b_X8_pluck_192, b_X8_pluck_225, gI_pt hj, gR_pt hj, ob_pt hj, ck_pt hj, pI_pt hj, pB_pt hj, pR_pt hj, aI_pt hj, aR_pt hj, wI_pt hj, wJ_pt hj, aL_pt hj, cl1_s, cl1_n, cl1_i, cx1_s, cx1_x, cx1_n, cx1_i, nul_n, nul_s, nm, dv2, dv3, dv4, dv5, dv8, dv10, dv20, dv40, thr, bo, mI_pt hj, mT_pt hj, sB_pt, mZ_pt, mJ_pt, mJ_sJ, mZ_sJ, tn0, tn1, tn2, tn3, tn4, tn5, tn6, tg, rg, tg1, t124, tq, rq, tq1, hU, h1, h2, s4, D1, D2, c, e_ol, e_yg, show (4 : Int32) + (-1) = 3 by decide, show (3 : Int32) + (-1) = 2 by decide, show (2 : Int32) + (-1) = 1 by decide, up2_at, up2_up2, up2_row e1, up2_row e2, up2_row e3, up2_row e4, up2_row e5, up2_row e6, up2_row e7, up2_row e8, up2_row e9, up2_row e10, up2_row e11, up2_k, ii0, ii1, ii2, ii3, ii4, if_true, if_false, ne_eq, not_false_eq_true, not_true_eq_false, true_and, and_true, false_and, and_false, and_self, true_or, or_true, false_or, or_false, or_self, Nat.reduceAdd, Nat.reduceLT, Nat.reduceLeDiff, Nat.succ_ne_zero, reduceIte, reduceCtorEq]
  · rw [if_neg c] at htt
    rw [htt] at D2 ⊢
    rw [plEnd]
    simp (config := {decide := true}) only [l_X8_pluck_116, itr_40, itr_39, itr_38, itr_37, b_X8_pluck_116, b_X8_pluck_192, b_X8_pluck_225, gI_pt hj, gR_pt hj, ob_pt hj, ck_pt hj, pI_pt hj, pB_pt hj, pR_pt hj, aI_pt hj, aR_pt hj, wI_pt hj, wJ_pt hj, aL_pt hj, cl1_s, cl1_n, cl1_i, cx1_s, cx1_x, cx1_n, cx1_i, nul_n, nul_s, nm, dv2, dv3, dv4, dv5, dv8, dv10, dv20, dv40, thr, bo, mI_pt hj, mT_pt hj, sB_pt, mZ_pt, mJ_pt, mJ_sJ, mZ_sJ, tn0, tn1, tn2, tn3, tn4, tn5, tn6, tg, rg, tg1, t124, tq, rq, tq1, hU, h1, h2, s4, D1, D2, c, e_ol, e_yg, show (4 : Int32) + (-1) = 3 by decide, show (3 : Int32) + (-1) = 2 by decide, show (2 : Int32) + (-1) = 1 by decide, up2_at, up2_up2, up2_row e1, up2_row e2, up2_row e3, up2_row e4, up2_row e5, up2_row e6, up2_row e7, up2_row e8, up2_row e9, up2_row e10, up2_row e11, up2_k, ii0, ii1, ii2, ii3, ii4, if_true, if_false, ne_eq, not_false_eq_true, not_true_eq_false, true_and, and_true, false_and, and_false, and_self, true_or, or_true, false_or, or_false, or_self, Nat.reduceAdd, Nat.reduceLT, Nat.reduceLeDiff, Nat.succ_ne_zero, reduceIte, reduceCtorEq]
set_option maxRecDepth 4000 in
theorem m_pl3 (hj : Inj φ T) (tg : T g = (8, 0)) (rg : R g 1 = some (φ (g + 1))) (tg1 : T (g + 1) = (100, 4)) (t124 : T 124 = (11, 0)) (tq : T q = (9, 0)) (rq : R q 6 = some (φ (q + 1))) (tq1 : T (q + 1) = (100, 5)) (hU : ∀ k, J (g + 1) k = 0) (h1 : ¬ p < 0) (h2 : p.toNatClampNeg = s) (s4 : s < 4) (n1 : q + 1 < g) (n2 : 124 < q) (htt : tt = if J q 5 ≤ 0 then 0 else 1) (e_hd : (if J (q + 1) 4 < most then J (q + 1) 4 else most) = hd) (e_ol : (if J (q + 1) 3 < most - hd then J (q + 1) 3 else most - hd) = ol) (e_yg : (if J (q + 1) 2 < most - hd - ol then J (q + 1) 2 else most - hd - ol) = yg) :
    l_X8_pluck_116 e0 mi 40 (φ 124) p hands (some (φ q)) (some (φ g)) most 4 (pt φ T J R τ) = plEnd e0 mi (φ 124) (some (φ g)) (pt φ T (up2 (up2 (up2 (up2 (up2 (up2 (up2 (up2 (up2 (up2 (up2 J (q + 1) 4 (J (q + 1) 4 - hd)) (g + 1) s (0 + hd * 5)) (q + 1) 3 (J (q + 1) 3 - ol)) (g + 1) s ((0 + hd * 5) + ol * 4)) (q + 1) 2 (J (q + 1) 2 - yg)) (g + 1) s (((0 + hd * 5) + ol * 4) + yg * 3)) (g) 2 (yg * 3)) (g) 3 (3 * (((0 + hd * 5) + ol * 4) + yg * 3))) (g) 11 tt) (124) 4 (J 124 4 + (((0 + hd * 5) + ol * 4) + yg * 3))) (124) 2 (J 124 2 - 2 * hands)) R τ) := by
  have e1 : g ≠ q + 1 := by omega
  have e2 : g ≠ g + 1 := by omega
  have e3 : q ≠ g := by omega
  have e4 : q ≠ g + 1 := by omega
  have e5 : q ≠ q + 1 := by omega
  have e6 : (124 : Nat) ≠ q + 1 := by omega
  have e7 : (124 : Nat) ≠ g := by omega
  have e8 : (124 : Nat) ≠ g + 1 := by omega
  have e9 : g + 1 ≠ q + 1 := by omega
  have e10 : q + 1 ≠ g + 1 := by omega
  have e11 : g + 1 ≠ g := by omega
  have D1 : f_X5_dry (φ g) (pt φ T (up2 (up2 (up2 (up2 (up2 (up2 (up2 J (q + 1) 4 (J (q + 1) 4 - hd)) (g + 1) s (0 + hd * 5)) (q + 1) 3 (J (q + 1) 3 - ol)) (g + 1) s ((0 + hd * 5) + ol * 4)) (q + 1) 2 (J (q + 1) 2 - yg)) (g + 1) s (((0 + hd * 5) + ol * 4) + yg * 3)) (g) 2 (yg * 3)) R τ) = some ((((0 + hd * 5) + ol * 4) + yg * 3), pt φ T (up2 (up2 (up2 (up2 (up2 (up2 (up2 J (q + 1) 4 (J (q + 1) 4 - hd)) (g + 1) s (0 + hd * 5)) (q + 1) 3 (J (q + 1) 3 - ol)) (g + 1) s ((0 + hd * 5) + ol * 4)) (q + 1) 2 (J (q + 1) 2 - yg)) (g + 1) s (((0 + hd * 5) + ol * 4) + yg * 3)) (g) 2 (yg * 3)) R τ) := by
    rw [m_dry1 hj tg rg tg1 s4 (fun k hk hks => ?_)]
    · simp (disch := omega) only [up2_row, up2_at]
    · simp (disch := omega) only [up2_row, up2_k, hU]
  have D2 : f_X5_dry (φ g) (pt φ T (up2 (up2 (up2 (up2 (up2 (up2 (up2 (up2 (up2 J (q + 1) 4 (J (q + 1) 4 - hd)) (g + 1) s (0 + hd * 5)) (q + 1) 3 (J (q + 1) 3 - ol)) (g + 1) s ((0 + hd * 5) + ol * 4)) (q + 1) 2 (J (q + 1) 2 - yg)) (g + 1) s (((0 + hd * 5) + ol * 4) + yg * 3)) (g) 2 (yg * 3)) (g) 3 (3 * (((0 + hd * 5) + ol * 4) + yg * 3))) (g) 11 tt) R τ) = some ((((0 + hd * 5) + ol * 4) + yg * 3), pt φ T (up2 (up2 (up2 (up2 (up2 (up2 (up2 (up2 (up2 J (q + 1) 4 (J (q + 1) 4 - hd)) (g + 1) s (0 + hd * 5)) (q + 1) 3 (J (q + 1) 3 - ol)) (g + 1) s ((0 + hd * 5) + ol * 4)) (q + 1) 2 (J (q + 1) 2 - yg)) (g + 1) s (((0 + hd * 5) + ol * 4) + yg * 3)) (g) 2 (yg * 3)) (g) 3 (3 * (((0 + hd * 5) + ol * 4) + yg * 3))) (g) 11 tt) R τ) := by
    rw [m_dry1 hj tg rg tg1 s4 (fun k hk hks => ?_)]
    · simp (disch := omega) only [up2_row, up2_at]
    · simp (disch := omega) only [up2_row, up2_k, hU]
  by_cases c : J q 5 ≤ 0
  · rw [if_pos c] at htt
    rw [htt] at D2 ⊢
    rw [plEnd]
    simp (config := {decide := true}) only [l_X8_pluck_116, itr_40, itr_39, itr_38, itr_37, b_X8_pluck_116, b_X8_pluck_192, b_X8_pluck_225, gI_pt hj, gR_pt hj, ob_pt hj, ck_pt hj, pI_pt hj, pB_pt hj, pR_pt hj, aI_pt hj, aR_pt hj, wI_pt hj, wJ_pt hj, aL_pt hj, cl1_s, cl1_n, cl1_i, cx1_s, cx1_x, cx1_n, cx1_i, nul_n, nul_s, nm, dv2, dv3, dv4, dv5, dv8, dv10, dv20, dv40, thr, bo, mI_pt hj, mT_pt hj, sB_pt, mZ_pt, mJ_pt, mJ_sJ, mZ_sJ, tn0, tn1, tn2, tn3, tn4, tn5, tn6, tg, rg, tg1, t124, tq, rq, tq1, hU, h1, h2, s4, D1, D2, c, e_hd, e_ol, e_yg, show (4 : Int32) + (-1) = 3 by decide, show (3 : Int32) + (-1) = 2 by decide, show (2 : Int32) + (-1) = 1 by decide, up2_at, up2_up2, up2_row e1, up2_row e2, up2_row e3, up2_row e4, up2_row e5, up2_row e6, up2_row e7, up2_row e8, up2_row e9, up2_row e10, up2_row e11, up2_k, ii0, ii1, ii2, ii3, ii4, if_true, if_false, ne_eq, not_false_eq_true, not_true_eq_false, true_and, and_true, false_and, and_false, and_self, true_or, or_true, false_or, or_false, or_self, Nat.reduceAdd, Nat.reduceLT, Nat.reduceLeDiff, Nat.succ_ne_zero, reduceIte, reduceCtorEq]
  · rw [if_neg c] at htt
    rw [htt] at D2 ⊢
    rw [plEnd]
    simp (config := {decide := true}) only [l_X8_pluck_116, itr_40, itr_39, itr_38, itr_37, b_X8_pluck_116, b_X8_pluck_192, b_X8_pluck_225, gI_pt hj, gR_pt hj, ob_pt hj, ck_pt hj, pI_pt hj, pB_pt hj, pR_pt hj, aI_pt hj, aR_pt hj, wI_pt hj, wJ_pt hj, aL_pt hj, cl1_s, cl1_n, cl1_i, cx1_s, cx1_x, cx1_n, cx1_i, nul_n, nul_s, nm, dv2, dv3, dv4, dv5, dv8, dv10, dv20, dv40, thr, bo, mI_pt hj, mT_pt hj, sB_pt, mZ_pt, mJ_pt, mJ_sJ, mZ_sJ, tn0, tn1, tn2, tn3, tn4, tn5, tn6, tg, rg, tg1, t124, tq, rq, tq1, hU, h1, h2, s4, D1, D2, c, e_hd, e_ol, e_yg, show (4 : Int32) + (-1) = 3 by decide, show (3 : Int32) + (-1) = 2 by decide, show (2 : Int32) + (-1) = 1 by decide, up2_at, up2_up2, up2_row e1, up2_row e2, up2_row e3, up2_row e4, up2_row e5, up2_row e6, up2_row e7, up2_row e8, up2_row e9, up2_row e10, up2_row e11, up2_k, ii0, ii1, ii2, ii3, ii4, if_true, if_false, ne_eq, not_false_eq_true, not_true_eq_false, true_and, and_true, false_and, and_false, and_self, true_or, or_true, false_or, or_false, or_self, Nat.reduceAdd, Nat.reduceLT, Nat.reduceLeDiff, Nat.succ_ne_zero, reduceIte, reduceCtorEq]
end PR

/-! PLUCK -/
section PU
variable {φ : Nat → Nat} {T : Nat → Nat × Nat} {I : Nat → Nat → Int32} {R : Nat → Nat → Option Nat} {τ : Mem} {e0 nS nL cS cL n z : Nat} {mx : Nat → Int32} {cB : Nat → Nat} {bl : Nat → List (Nat × Int32)}
variable {mi a k i j s c g q st : Nat} {J J' : Nat → Nat → Int32} {R' : Nat → Nat → Option Nat} {p r hands hd ol yg most tt : Int32} {τ0 τ1 : Mem}
theorem mnE {a b : Int32} : (if a < b then a else b) = mn a b := rfl
theorem mn_b {a b : Int32} : (mn a b).toInt ≤ a.toInt ∧ (mn a b).toInt ≤ b.toInt ∧ ((mn a b).toInt = a.toInt ∨ (mn a b).toInt = b.toInt) := by
  rw [mnT]; split <;> omega
def plD (hd ol yg : Int32) : Int32 := 5 * hd + 4 * ol + 3 * yg
theorem alg1 : (0 + yg * 3 : Int32) = plD 0 0 yg := by rw [plD, Int32.mul_zero, Int32.mul_zero, Int32.zero_add, Int32.zero_add, Int32.zero_add, Int32.mul_comm]
theorem alg2 : (0 + ol * 4 + yg * 3 : Int32) = plD 0 ol yg := by rw [plD, Int32.mul_zero, Int32.zero_add, Int32.zero_add, Int32.mul_comm ol, Int32.mul_comm yg]
theorem alg3 : (0 + hd * 5 + ol * 4 + yg * 3 : Int32) = plD hd ol yg := by rw [plD, Int32.zero_add, Int32.mul_comm hd, Int32.mul_comm ol, Int32.mul_comm yg]
def Amt (st : Nat) (hard s3 s2 most hd ol yg : Int32) : Prop :=
  (st = 1 ∧ hd = 0 ∧ ol = 0 ∧ yg = mn s2 most) ∨ (st = 2 ∧ hd = 0 ∧ ol = mn s3 most ∧ yg = mn s2 (most - ol)) ∨ (st = 3 ∧ hd = mn hard most ∧ ol = mn s3 (most - hd) ∧ yg = mn s2 (most - hd - ol))
def may (st : Nat) (hard s3 s2 : Int32) : Int32 := if st = 1 then 0 + s2 else if st = 2 then 0 + s2 + s3 else 0 + s2 + s3 + hard
theorem amt_b {hard s3 s2 : Int32} (h : Amt st hard s3 s2 most hd ol yg) (m1 : 8 ≤ most.toInt) (m2 : most.toInt ≤ 72) (a1 : 0 ≤ hard.toInt) (a2 : hard.toInt ≤ 1000000) (b1 : 0 ≤ s3.toInt) (b2 : s3.toInt ≤ 18) (c1 : 0 ≤ s2.toInt) (c2 : s2.toInt ≤ 18) :
    (0 ≤ hd.toInt ∧ hd.toInt ≤ hard.toInt ∧ 0 ≤ ol.toInt ∧ ol.toInt ≤ s3.toInt ∧ 0 ≤ yg.toInt ∧ yg.toInt ≤ s2.toInt ∧ hd.toInt + ol.toInt + yg.toInt ≤ 72) ∧ (hd + ol + yg).toInt = hd.toInt + ol.toInt + yg.toInt ∧ (hd + ol + yg ≤ 0 ↔ may st hard s3 s2 = 0) ∧ (plD hd ol yg).toInt = 5 * hd.toInt + 4 * ol.toInt + 3 * yg.toInt ∧ (3 * yg).toInt = 3 * yg.toInt := by
  have z0 : (0 : Int32).toInt = 0 := rfl
  have z3 : (3 : Int32).toInt = 3 := rfl
  have z4 : (4 : Int32).toInt = 4 := rfl
  have z5 : (5 : Int32).toInt = 5 := rfl
  have main : (0 ≤ hd.toInt ∧ hd.toInt ≤ hard.toInt ∧ 0 ≤ ol.toInt ∧ ol.toInt ≤ s3.toInt ∧ 0 ≤ yg.toInt ∧ yg.toInt ≤ s2.toInt ∧ hd.toInt + ol.toInt + yg.toInt ≤ 72) ∧ (hd.toInt + ol.toInt + yg.toInt ≤ 0 ↔ may st hard s3 s2 = 0) := by
    rcases h with ⟨rfl, rfl, rfl, rfl⟩ | ⟨rfl, rfl, rfl, rfl⟩ | ⟨rfl, rfl, rfl, rfl⟩
    · obtain ⟨x1, x2, x3⟩ := mn_b (a := s2) (b := most)
      have e : (0 + s2).toInt = s2.toInt := by rw [Int32.zero_add]
      have f : may 1 hard s3 s2 = 0 ↔ s2.toInt = 0 := by
        rw [may, if_pos rfl, ← Int32.toInt_inj, e, z0]
      rw [f, z0]; omega
    · obtain ⟨x1, x2, x3⟩ := mn_b (a := s3) (b := most)
      have d1 : (most - mn s3 most).toInt = most.toInt - (mn s3 most).toInt := tSub (by omega) (by omega)
      obtain ⟨y1, y2, y3⟩ := mn_b (a := s2) (b := most - mn s3 most)
      have e : (0 + s2 + s3).toInt = s2.toInt + s3.toInt := by rw [Int32.zero_add, tAdd (by omega) (by omega)]
      have f : may 2 hard s3 s2 = 0 ↔ s2.toInt + s3.toInt = 0 := by
        rw [may, if_neg (by decide), if_pos rfl, ← Int32.toInt_inj, e, z0]
      rw [f, z0]; omega
    · obtain ⟨x1, x2, x3⟩ := mn_b (a := hard) (b := most)
      have d1 : (most - mn hard most).toInt = most.toInt - (mn hard most).toInt := tSub (by omega) (by omega)
      obtain ⟨y1, y2, y3⟩ := mn_b (a := s3) (b := most - mn hard most)
      have d2 : (most - mn hard most - mn s3 (most - mn hard most)).toInt = most.toInt - (mn hard most).toInt - (mn s3 (most - mn hard most)).toInt := by rw [tSub (by omega) (by omega), d1]
      obtain ⟨w1, w2, w3⟩ := mn_b (a := s2) (b := most - mn hard most - mn s3 (most - mn hard most))
      have e : (0 + s2 + s3 + hard).toInt = s2.toInt + s3.toInt + hard.toInt := by
        have e1 : (s2 + s3).toInt = s2.toInt + s3.toInt := tAdd (by omega) (by omega)
        rw [Int32.zero_add, tAdd (by omega) (by omega), e1]
      have f : may 3 hard s3 s2 = 0 ↔ s2.toInt + s3.toInt + hard.toInt = 0 := by
        rw [may, if_neg (by decide), if_neg (by decide), ← Int32.toInt_inj, e, z0]
      rw [f]; omega
  obtain ⟨⟨n1, n2, n3, n4, n5, n6, n7⟩, n8⟩ := main
  have s1 : (hd + ol).toInt = hd.toInt + ol.toInt := tAdd (by omega) (by omega)
  have s2' : (hd + ol + yg).toInt = hd.toInt + ol.toInt + yg.toInt := by rw [tAdd (by omega) (by omega), s1]
  have p5 : (5 * hd).toInt = 5 * hd.toInt := by rw [tMul (by rw [z5]; omega) (by rw [z5]; omega), z5]
  have p4 : (4 * ol).toInt = 4 * ol.toInt := by rw [tMul (by rw [z4]; omega) (by rw [z4]; omega), z4]
  have p3 : (3 * yg).toInt = 3 * yg.toInt := by rw [tMul (by rw [z3]; omega) (by rw [z3]; omega), z3]
  have q1 : (5 * hd + 4 * ol).toInt = 5 * hd.toInt + 4 * ol.toInt := by rw [tAdd (by omega) (by omega), p5, p4]
  refine ⟨⟨n1, n2, n3, n4, n5, n6, n7⟩, s2', ?_, ?_, p3⟩
  · rw [← n8, Int32.le_iff_toInt_le, s2', z0]
  · rw [plD, tAdd (by omega) (by omega), q1, p3]
theorem m_may (hj : Inj φ T) (tq : T q = (9, 0)) (rq : R q 6 = some (φ (q + 1))) (tq1 : T (q + 1) = (100, 5)) (hst : st = 1 ∨ st = 2 ∨ st = 3) : f_X6_mayTake (φ q) (Int32.ofNat st) (pt φ T J R τ) = some (may st (J (q + 1) 4) (J (q + 1) 3) (J (q + 1) 2), pt φ T J R τ) := by
  rcases hst with rfl | rfl | rfl
  · simp (config := {decide := true}) only [f_X6_mayTake, b_X6_mayTake_0, l_X6_mayTake_4, itr_40, itr_39, itr_38, itr_37, itr_36, b_X6_mayTake_4, gI_pt hj, gR_pt hj, ob_pt hj, ck_pt hj, pI_pt hj, pB_pt hj, pR_pt hj, aI_pt hj, aR_pt hj, wI_pt hj, wJ_pt hj, aL_pt hj, cl1_s, cl1_n, cl1_i, cx1_s, cx1_x, cx1_n, cx1_i, nul_n, nul_s, nm, dv2, dv3, dv4, dv5, dv8, dv10, dv20, dv40, thr, bo, mI_pt hj, mT_pt hj, sB_pt, mZ_pt, mJ_pt, mJ_sJ, mZ_sJ, tn0, tn1, tn2, tn3, tn4, tn5, tn6, tq, rq, tq1, may, show Int32.ofNat 1 = 1 by decide, ii0, ii1, ii2, ii3, ii4, if_true, if_false, ne_eq, not_false_eq_true, not_true_eq_false, true_and, and_true, false_and, and_false, and_self, true_or, or_true, false_or, or_false, or_self, Nat.reduceAdd, Nat.reduceLT, Nat.reduceLeDiff, Nat.succ_ne_zero, reduceIte, reduceCtorEq]
  · simp (config := {decide := true}) only [f_X6_mayTake, b_X6_mayTake_0, l_X6_mayTake_4, itr_40, itr_39, itr_38, itr_37, itr_36, b_X6_mayTake_4, gI_pt hj, gR_pt hj, ob_pt hj, ck_pt hj, pI_pt hj, pB_pt hj, pR_pt hj, aI_pt hj, aR_pt hj, wI_pt hj, wJ_pt hj, aL_pt hj, cl1_s, cl1_n, cl1_i, cx1_s, cx1_x, cx1_n, cx1_i, nul_n, nul_s, nm, dv2, dv3, dv4, dv5, dv8, dv10, dv20, dv40, thr, bo, mI_pt hj, mT_pt hj, sB_pt, mZ_pt, mJ_pt, mJ_sJ, mZ_sJ, tn0, tn1, tn2, tn3, tn4, tn5, tn6, tq, rq, tq1, may, show Int32.ofNat 2 = 2 by decide, ii0, ii1, ii2, ii3, ii4, if_true, if_false, ne_eq, not_false_eq_true, not_true_eq_false, true_and, and_true, false_and, and_false, and_self, true_or, or_true, false_or, or_false, or_self, Nat.reduceAdd, Nat.reduceLT, Nat.reduceLeDiff, Nat.succ_ne_zero, reduceIte, reduceCtorEq]
  · simp (config := {decide := true}) only [f_X6_mayTake, b_X6_mayTake_0, l_X6_mayTake_4, itr_40, itr_39, itr_38, itr_37, itr_36, b_X6_mayTake_4, gI_pt hj, gR_pt hj, ob_pt hj, ck_pt hj, pI_pt hj, pB_pt hj, pR_pt hj, aI_pt hj, aR_pt hj, wI_pt hj, wJ_pt hj, aL_pt hj, cl1_s, cl1_n, cl1_i, cx1_s, cx1_x, cx1_n, cx1_i, nul_n, nul_s, nm, dv2, dv3, dv4, dv5, dv8, dv10, dv20, dv40, thr, bo, mI_pt hj, mT_pt hj, sB_pt, mZ_pt, mJ_pt, mJ_sJ, mZ_sJ, tn0, tn1, tn2, tn3, tn4, tn5, tn6, tq, rq, tq1, may, show Int32.ofNat 3 = 3 by decide, ii0, ii1, ii2, ii3, ii4, if_true, if_false, ne_eq, not_false_eq_true, not_true_eq_false, true_and, and_true, false_and, and_false, and_self, true_or, or_true, false_or, or_false, or_self, Nat.reduceAdd, Nat.reduceLT, Nat.reduceLeDiff, Nat.succ_ne_zero, reduceIte, reduceCtorEq]
theorem m_plu (hj : Inj φ T) (tg : T g = (8, 0)) (rg : R g 1 = some (φ (g + 1))) (tg1 : T (g + 1) = (100, 4)) (t124 : T 124 = (11, 0)) (tq : T q = (9, 0)) (rq : R q 6 = some (φ (q + 1))) (tq1 : T (q + 1) = (100, 5)) (hU : ∀ k, J (g + 1) k = 0) (h1 : ¬ p < 0) (h2 : p.toNatClampNeg = s) (s4 : s < 4) (n1 : q + 1 < g) (n2 : 124 < q) (hA : Amt st (J (q + 1) 4) (J (q + 1) 3) (J (q + 1) 2) most hd ol yg) :
    ∃ Jd, l_X8_pluck_116 e0 mi 40 (φ 124) p hands (some (φ q)) (some (φ g)) most (Int32.ofNat (st + 1)) (pt φ T J R τ) = plEnd e0 mi (φ 124) (some (φ g)) (pt φ T Jd R τ) ∧ (∀ v, v ≠ 124 → v ≠ q + 1 → v ≠ g → v ≠ g + 1 → Jd v = J v) ∧ Jd 124 4 = J 124 4 + plD hd ol yg ∧ Jd 124 2 = J 124 2 - 2 * hands ∧ (∀ k, k ≠ 4 → k ≠ 2 → Jd 124 k = J 124 k) ∧ Jd (q + 1) 4 = J (q + 1) 4 - hd ∧ Jd (q + 1) 3 = J (q + 1) 3 - ol ∧ Jd (q + 1) 2 = J (q + 1) 2 - yg ∧ (∀ k, k ≠ 4 → k ≠ 3 → k ≠ 2 → Jd (q + 1) k = J (q + 1) k) ∧ Jd g 2 = 3 * yg ∧ Jd g 3 = 3 * plD hd ol yg ∧ Jd g 11 = (if J q 5 ≤ 0 then 0 else 1) ∧ (∀ k, k ≠ 2 → k ≠ 3 → k ≠ 11 → Jd g k = J g k) ∧ Jd (g + 1) s = plD hd ol yg ∧ (∀ k, k ≠ s → Jd (g + 1) k = 0) := by
  have z : ∀ x : Int32, x - 0 = x := fun x => Int32.sub_zero x
  rcases hA with ⟨rfl, rfl, rfl, rfl⟩ | ⟨rfl, rfl, rfl, rfl⟩ | ⟨rfl, rfl, rfl, rfl⟩
  · refine ⟨_, m_pl1 (τ := τ) hj tg rg tg1 t124 tq rq tq1 hU h1 h2 s4 n1 n2 rfl rfl, fun v y1 y2 y3 y4 => ?_, ?_, ?_, fun k y1 y2 => ?_, ?_, ?_, ?_, fun k y1 y2 y3 => ?_, ?_, ?_, ?_, fun k y1 y2 y3 => ?_, ?_, fun k y1 => ?_⟩ <;> simp (disch := omega) only [up2_row, up2_k, up2_at, alg1, z, hU] <;> first | rfl | exact Int32.mul_comm _ _
  · refine ⟨_, m_pl2 (τ := τ) hj tg rg tg1 t124 tq rq tq1 hU h1 h2 s4 n1 n2 rfl rfl rfl, fun v y1 y2 y3 y4 => ?_, ?_, ?_, fun k y1 y2 => ?_, ?_, ?_, ?_, fun k y1 y2 y3 => ?_, ?_, ?_, ?_, fun k y1 y2 y3 => ?_, ?_, fun k y1 => ?_⟩ <;> simp (disch := omega) only [up2_row, up2_k, up2_at, alg2, z, hU] <;> first | rfl | exact Int32.mul_comm _ _
  · refine ⟨_, m_pl3 (τ := τ) hj tg rg tg1 t124 tq rq tq1 hU h1 h2 s4 n1 n2 rfl rfl rfl rfl, fun v y1 y2 y3 y4 => ?_, ?_, ?_, fun k y1 y2 => ?_, ?_, ?_, ?_, fun k y1 y2 y3 => ?_, ?_, ?_, ?_, fun k y1 y2 y3 => ?_, ?_, fun k y1 => ?_⟩ <;> simp (disch := omega) only [up2_row, up2_k, up2_at, alg3, z, hU] <;> first | rfl | exact Int32.mul_comm _ _
theorem x_secAtZ (h : Cx φ T I R z e0 nS nL cS cL mx cB bl n) (hp : InN p nS) (hi : p.toNatClampNeg = i) (τ : Mem) : f_X4_sectionAt (φ 0) p (pt φ T I R τ) = some (.inl (some (φ (2 * i + 11))), pt φ T I R τ) := by
  obtain ⟨hj, hl, hx, hm, hr⟩ := h; obtain ⟨hx0, hx1, hx2, hx3, hx4, hx5, hx6, hx7, hx8, hx9, hx10, hx11, hx12, hx13, hx14, hx15, hx16, hx17, hx18, hx19, hx20, hx21, hx22, hx23, hx24, hx25, hx26, hx27⟩ := hx; obtain ⟨hm0, hm1, hm2, hm3, hm4, hm5, hm6, hm7, hm8, hm9, hm10, hm11, hm12, hm13, hm14, hm15, hm16, hm17, hm18, hm19, hm20, hm21, hm22, hm23, hm24, hm25, hm26, hm27, hm28, hm29, hm30, hm31, hm32, hm33, hm34, hm35, hm36, hm37, hm38, hm39, hm40, hm41, hm42, hm43, hm44⟩ := hm; obtain ⟨⟨⟨g1, g2⟩, ⟨g3, g4, g5, g6, g7⟩, g8, g9, g10⟩, r1, r2, r3, r4, r5, r6⟩ := hr
  obtain ⟨w1, w2⟩ := hp
  obtain ⟨w3, w4, w5, w6, w7⟩ := idx (show nS ≤ 16 by omega) w1 w2
  rw [hi] at w7
  have h4 : i < 4 := by omega
  simp (config := {decide := true}) only [b_X4_sectionAt_0, f_X4_sectionAt, b_X4_requireIndex_9, b_X4_requireIndex_0, f_X4_requireIndex, gI_pt hj, gR_pt hj, ob_pt hj, ck_pt hj, pI_pt hj, pB_pt hj, pR_pt hj, aI_pt hj, aR_pt hj, wI_pt hj, wJ_pt hj, aL_pt hj, cl1_s, cl1_n, cl1_i, cx1_s, cx1_x, cx1_n, cx1_i, nul_n, nul_s, nm, dv2, dv3, dv4, dv5, dv8, dv10, dv20, dv40, thr, bo, mI_pt hj, mT_pt hj, sB_pt, mZ_pt, mJ_pt, mJ_sJ, mZ_sJ, tn0, tn1, tn2, tn3, tn4, tn5, tn6, hx0, hx1, hx6, hx10 i h4, g1, w1, w2, hi, h4, ii0, ii1, ii2, ii3, ii4, if_true, if_false, ne_eq, not_false_eq_true, not_true_eq_false, true_and, and_true, false_and, and_false, and_self, true_or, or_true, false_or, or_false, or_self, Nat.reduceAdd, Nat.reduceLT, Nat.reduceLeDiff, Nat.succ_ne_zero, reduceIte, reduceCtorEq]
theorem x_p71 (h : Cx φ T I R z e0 nS nL cS cL mx cB bl n) (s4 : s < 4) (τ : Mem) : b_X4_pluck_71 (φ 0) p hands (some (φ (2 * s + 11))) most hd ol (pt φ T I R τ) = b_X4_pluck_109 (φ 0) p hands (some (φ (2 * s + 11))) hd ol (mn (I (2 * s + 12) 2) (most - hd - ol)) (if hd + ol + mn (I (2 * s + 12) 2) (most - hd - ol) ≤ 0 then 0 else 1) (pt φ T I R τ) := by
  obtain ⟨hj, hl, hx, hm, hr⟩ := h; obtain ⟨hx0, hx1, hx2, hx3, hx4, hx5, hx6, hx7, hx8, hx9, hx10, hx11, hx12, hx13, hx14, hx15, hx16, hx17, hx18, hx19, hx20, hx21, hx22, hx23, hx24, hx25, hx26, hx27⟩ := hx; obtain ⟨hm0, hm1, hm2, hm3, hm4, hm5, hm6, hm7, hm8, hm9, hm10, hm11, hm12, hm13, hm14, hm15, hm16, hm17, hm18, hm19, hm20, hm21, hm22, hm23, hm24, hm25, hm26, hm27, hm28, hm29, hm30, hm31, hm32, hm33, hm34, hm35, hm36, hm37, hm38, hm39, hm40, hm41, hm42, hm43, hm44⟩ := hm; obtain ⟨⟨⟨g1, g2⟩, ⟨g3, g4, g5, g6, g7⟩, g8, g9, g10⟩, r1, r2, r3, r4, r5, r6⟩ := hr
  have t1 : (T (2 * s + 11)).1 = 4 + 1 := by rw [hx11 s s4]
  have t2 : (T (2 * s + 12)).1 = 100 := by rw [hx13 s s4]
  rw [b_X4_pluck_71, nm, nm, gR_pt hj t1, hx12 s s4, aI_pt hj t2 (by decide) (by rw [hx13 s s4]; decide), nm, nm, nm]
  show (if hd + ol + mn (I (2 * s + 12) 2) (most - hd - ol) ≤ 0 then _ else _) = _
  by_cases c : hd + ol + mn (I (2 * s + 12) 2) (most - hd - ol) ≤ 0
  · rw [if_pos c, if_pos c]; rfl
  · rw [if_neg c, if_neg c]; rfl
theorem x_p45a (h : Cx φ T I R z e0 nS nL cS cL mx cB bl n) (s4 : s < 4) (τ : Mem) {x : Int32} (c : (2 : Int32) ≤ x) : b_X4_pluck_45 (φ 0) p x hands (some (φ (2 * s + 11))) most hd (pt φ T I R τ) = b_X4_pluck_71 (φ 0) p hands (some (φ (2 * s + 11))) most hd (mn (I (2 * s + 12) 3) (most - hd)) (pt φ T I R τ) := by
  obtain ⟨hj, hl, hx, hm, hr⟩ := h; obtain ⟨hx0, hx1, hx2, hx3, hx4, hx5, hx6, hx7, hx8, hx9, hx10, hx11, hx12, hx13, hx14, hx15, hx16, hx17, hx18, hx19, hx20, hx21, hx22, hx23, hx24, hx25, hx26, hx27⟩ := hx; obtain ⟨hm0, hm1, hm2, hm3, hm4, hm5, hm6, hm7, hm8, hm9, hm10, hm11, hm12, hm13, hm14, hm15, hm16, hm17, hm18, hm19, hm20, hm21, hm22, hm23, hm24, hm25, hm26, hm27, hm28, hm29, hm30, hm31, hm32, hm33, hm34, hm35, hm36, hm37, hm38, hm39, hm40, hm41, hm42, hm43, hm44⟩ := hm; obtain ⟨⟨⟨g1, g2⟩, ⟨g3, g4, g5, g6, g7⟩, g8, g9, g10⟩, r1, r2, r3, r4, r5, r6⟩ := hr
  have t1 : (T (2 * s + 11)).1 = 4 + 1 := by rw [hx11 s s4]
  have t2 : (T (2 * s + 12)).1 = 100 := by rw [hx13 s s4]
  rw [b_X4_pluck_45, if_pos c, nm, gR_pt hj t1, hx12 s s4, aI_pt hj t2 (by decide) (by rw [hx13 s s4]; decide), nm]
  rfl
theorem x_p45b (σ : Mem) {x : Int32} {r : Option Nat} (c : ¬ (2 : Int32) ≤ x) : b_X4_pluck_45 (φ 0) p x hands r most hd σ = b_X4_pluck_71 (φ 0) p hands r most hd 0 σ := by
  rw [b_X4_pluck_45, if_neg c]
theorem x_plu (h : Cx φ T I R z e0 nS nL cS cL mx cB bl n) (hp : InN p nS) (hi : p.toNatClampNeg = s) (hst : st = 1 ∨ st = 2 ∨ st = 3) (ha : 1 ≤ hands ∧ hands ≤ 9) : ∃ hd ol yg, Amt st (I (2 * s + 11) 6) (I (2 * s + 12) 3) (I (2 * s + 12) 2) (8 * hands) hd ol yg ∧ ∀ τ, f_X4_pluck (φ 0) p (Int32.ofNat st) hands (pt φ T I R τ) = b_X4_pluck_109 (φ 0) p hands (some (φ (2 * s + 11))) hd ol yg (if hd + ol + yg ≤ 0 then 0 else 1) (pt φ T I R τ) := by
  have sL : s < nS := hi ▸ (idx (show nS ≤ 16 by have := h.m.2.2.2.2.2.1; omega) hp.1 hp.2).2.2.2.2
  have hSS := h.m.2.2.2.2.2.1
  have s4 : s < 4 := by omega
  have hj := h.hj
  have hx0 := h.m.2.2.2.2.2.2.2
  have t0 : (T 0).1 = 6 + 1 := by rw [hx0]
  have t1 : (T (2 * s + 11)).1 = 4 + 1 := by rw [h.t5 s4]
  have z : ∀ x : Int32, x - 0 = x := fun x => Int32.sub_zero x
  have r1 : 1 ≤ Int32.ofNat st := by rcases hst with rfl | rfl | rfl <;> decide
  have r2 : Int32.ofNat st ≤ 3 := by rcases hst with rfl | rfl | rfl <;> decide
  have P71 := fun (hd ol most : Int32) (τ : Mem) => x_p71 (p := p) (hands := hands) (most := most) (hd := hd) (ol := ol) h s4 τ
  have P45 := fun (hd most x : Int32) (τ : Mem) (c : (2 : Int32) ≤ x) => x_p45a (p := p) (hands := hands) (most := most) (hd := hd) h s4 τ c
  have A1 := fun (τ : Mem) => x_secAtZ h hp hi τ
  have START : ∀ τ, f_X4_pluck (φ 0) p (Int32.ofNat st) hands (pt φ T I R τ) = if (3 : Int32) ≤ Int32.ofNat st then b_X4_pluck_45 (φ 0) p (Int32.ofNat st) hands (some (φ (2 * s + 11))) (8 * hands) (mn (I (2 * s + 11) 6) (8 * hands)) (pt φ T I R τ) else b_X4_pluck_45 (φ 0) p (Int32.ofNat st) hands (some (φ (2 * s + 11))) (8 * hands) 0 (pt φ T I R τ) := by
    intro τ
    rw [f_X4_pluck, b_X4_pluck_0, ob_pt hj t0, A1, cx1_s, x_req _ r1 r2, cx1_s, x_req _ ha.1 ha.2, cx1_s, nm]
    by_cases c : (3 : Int32) ≤ Int32.ofNat st
    · rw [if_pos c, if_pos c, gI_pt hj t1, nm]; rfl
    · rw [if_neg c, if_neg c]
  generalize 8 * hands = most at START ⊢
  rcases hst with rfl | rfl | rfl
  · refine ⟨0, 0, mn (I (2 * s + 12) 2) most, Or.inl ⟨rfl, rfl, rfl, rfl⟩, fun τ => ?_⟩
    rw [START, if_neg (by decide), x_p45b _ (by decide), P71, z, z]
  · refine ⟨0, mn (I (2 * s + 12) 3) most, mn (I (2 * s + 12) 2) (most - mn (I (2 * s + 12) 3) most), Or.inr (Or.inl ⟨rfl, rfl, rfl, rfl⟩), fun τ => ?_⟩
    rw [START, if_neg (by decide), P45 _ _ _ _ (by decide), P71, z]
  · refine ⟨mn (I (2 * s + 11) 6) most, mn (I (2 * s + 12) 3) (most - mn (I (2 * s + 11) 6) most), mn (I (2 * s + 12) 2) (most - mn (I (2 * s + 11) 6) most - mn (I (2 * s + 12) 3) (most - mn (I (2 * s + 11) 6) most)), Or.inr (Or.inr ⟨rfl, rfl, rfl, rfl⟩), fun τ => ?_⟩
    rw [START, if_pos (by decide), P45 _ _ _ _ (by decide), P71]
end PU
