section PW
variable {φ : Nat → Nat} {T : Nat → Nat × Nat} {I : Nat → Nat → Int32} {R : Nat → Nat → Option Nat} {τ : Mem} {e0 nS nL cS cL n z : Nat} {mx : Nat → Int32} {cB : Nat → Nat} {bl : Nat → List (Nat × Int32)}
variable {mi a k i j s c g q st : Nat} {J J' : Nat → Nat → Int32} {R' : Nat → Nat → Option Nat} {p r hands hd ol yg most tt : Int32} {τ0 τ1 : Mem}
theorem sumZ_succ {f : Nat → Int} {n : Nat} : sumZ f (n + 1) = sumZ f n + f n := rfl
theorem mh_b {hands : Int32} (h1 : 1 ≤ hands) (h2 : hands ≤ 9) : 8 ≤ (8 * hands).toInt ∧ (8 * hands).toInt ≤ 72 := by
  have z8 : (8 : Int32).toInt = 8 := rfl
  have z1 : (1 : Int32).toInt = 1 := rfl
  have z9 : (9 : Int32).toInt = 9 := rfl
  have a1 := leT h1
  have a2 := leT h2
  rw [tMul (by rw [z8]; omega) (by rw [z8]; omega), z8]; omega
theorem op_pluck {x m o : Nat} {σ : Mem} (p q r : Int32) (hn : n < 600) (h : Jn e0 x m o n σ) : Agr e0 x m o n (f_L_pluck (some x) p q r (some o) σ) (fun σ => f_X8_pluck e0 mi m p q r σ) := by
  obtain ⟨φ, T, I, R, τ, nS, nL, cS, cL, mx, cB, bl, rfl, ⟨rfl, rfl, rfl⟩, h⟩ := h
  have h : Cx φ T I R (mZ τ) e0 nS nL cS cL mx cB bl n := h
  have hj := h.hj
  have h0 := h.m.1
  have hx0 := h.m.2.2.2.2.2.2.2
  have h132 := h.m.2.2.2.2.2.2.1
  have h7 := h.m.2.2.2.1
  have h6 := h.m.2.2.1
  have hN := h.m.2.2.2.2.1
  have hS := h.m.2.2.2.2.2.1
  have h' : Cx φ T I R (mZ (sB τ)) e0 nS nL cS cL mx cB bl n := h.up (Nat.le_succ _)
  by_cases hp : InN p nS
  · have sL := (idx (show nS ≤ 16 by omega) hp.1 hp.2).2.2.2.2
    generalize hi : p.toNatClampNeg = s at sL
    have s4 : s < 4 := by omega
    by_cases hq : 1 ≤ q ∧ q ≤ 3
    · by_cases hr : 1 ≤ r ∧ r ≤ 9
      · obtain ⟨st, -, rfl, st1, -⟩ := natOf hq.1 hq.2 (by decide)
        have hst : st = 1 ∨ st = 2 ∨ st = 3 := by
          have z3 : (3 : Int32).toInt = 3 := rfl
          have z1 : (1 : Int32).toInt = 1 := rfl
          have a1 := leT hq.1
          have : st < 1000000 := by omega
          rw [kN_t this] at a1
          omega
        obtain ⟨hd, ol, yg, hA, XR⟩ := x_plu h hp hi hst hr
        have T9 := h.t9 sL
        obtain ⟨M6, M5, R136, T136, S2⟩ : R 124 6 = some (φ 125) ∧ T 125 = (2, 0) ∧ R (2 * s + 135) 6 = some (φ (2 * s + 136)) ∧ T (2 * s + 136) = (100, 5) ∧ I 126 2 = Int32.ofNat nL := by
          obtain ⟨hj, hl, hx, hm, hr⟩ := h; obtain ⟨hx0, hx1, hx2, hx3, hx4, hx5, hx6, hx7, hx8, hx9, hx10, hx11, hx12, hx13, hx14, hx15, hx16, hx17, hx18, hx19, hx20, hx21, hx22, hx23, hx24, hx25, hx26, hx27⟩ := hx; obtain ⟨hm0, hm1, hm2, hm3, hm4, hm5, hm6, hm7, hm8, hm9, hm10, hm11, hm12, hm13, hm14, hm15, hm16, hm17, hm18, hm19, hm20, hm21, hm22, hm23, hm24, hm25, hm26, hm27, hm28, hm29, hm30, hm31, hm32, hm33, hm34, hm35, hm36, hm37, hm38, hm39, hm40, hm41, hm42, hm43, hm44⟩ := hm; obtain ⟨⟨⟨g1, g2⟩, ⟨g3, g4, g5, g6, g7⟩, g8, g9, g10⟩, r1, r2, r3, r4, r5, r6⟩ := hr
          exact ⟨hm1, hm5, hm26 s sL, hm27 s sL, hm13⟩
        obtain ⟨⟨F0, F1, F2, F3, F4, F5, F6⟩, ⟨G0, G1, G2, G3⟩, ⟨b1, b2, b3, b4, b5, b6, b7, b8⟩, sh, ⟨hb1, hb2⟩⟩ := h.sr sL
        obtain ⟨m1, m2⟩ := mh_b hr.1 hr.2
        obtain ⟨⟨d1, d2, d3, d4, d5, d6, d7⟩, dt, dz, dd, d3y⟩ := amt_b hA m1 m2 hb1 (by omega) (sh 3 (by omega)).1 (sh 3 (by omega)).2 (sh 2 (by omega)).1 (sh 2 (by omega)).2
        have MAY : ∀ (J : Nat → Nat → Int32) (τ : Mem), J (2 * s + 136) = I (2 * s + 136) → f_X6_mayTake (φ (2 * s + 135)) (Int32.ofNat st) (pt φ T J R τ) = some (may st (I (2 * s + 11) 6) (I (2 * s + 12) 3) (I (2 * s + 12) 2), pt φ T J R τ) := by
          intro J τ hJ
          rw [m_may (q := 2 * s + 135) hj T9 R136 T136 hst, F6, G3, G2]
          show some (may st (J (2 * s + 136) 4) (J (2 * s + 136) 3) (J (2 * s + 136) 2), _) = _
          rw [hJ]
        by_cases hf : nL = 16 ∨ hd + ol + yg ≤ 0
        · -- it cannot be
          refine Agr.bad (k := 3) (b := 0) h (by decide) ?_ ?_
          · by_cases hz : hd + ol + yg ≤ 0
            · have X := XR τ
              rw [if_pos hz] at X
              simp (config := {decide := true}) only [f_L_pluck, b_L_pluck_0, X, b_X4_pluck_109, x_st0, gI_pt hj, gR_pt hj, ob_pt hj, ck_pt hj, pI_pt hj, pB_pt hj, pR_pt hj, aI_pt hj, aR_pt hj, wI_pt hj, wJ_pt hj, aL_pt hj, cl1_s, cl1_n, cl1_i, cx1_s, cx1_x, cx1_n, cx1_i, nul_n, nul_s, nm, dv2, dv3, dv4, dv5, dv8, dv10, dv20, dv40, thr, bo, mI_pt hj, mT_pt hj, sB_pt, mZ_pt, mJ_pt, mJ_sJ, mZ_sJ, tn0, tn1, tn2, tn3, tn4, tn5, tn6, hx0, ii0, ii1, ii2, ii3, ii4, if_true, if_false, ne_eq, not_false_eq_true, not_true_eq_false, true_and, and_true, false_and, and_false, and_self, true_or, or_true, false_or, or_false, or_self, Nat.reduceAdd, Nat.reduceLT, Nat.reduceLeDiff, Nat.succ_ne_zero, reduceIte, reduceCtorEq]
            · have n16 : nL = 16 := hf.resolve_right hz
              have X := XR τ
              rw [if_neg hz] at X
              have g2 : I 0 4 = Int32.ofNat nL := h.2.2.2.2.1.1.2
              have c1 : (16 : Int32) ≤ I 0 4 := by rw [g2, n16]; decide
              simp (config := {decide := true}) only [f_L_pluck, b_L_pluck_0, X, b_X4_pluck_109, x_st1, b_X4_newLot_14, b_X4_newLot_0, f_X4_newLot, x_st0, c1, gI_pt hj, gR_pt hj, ob_pt hj, ck_pt hj, pI_pt hj, pB_pt hj, pR_pt hj, aI_pt hj, aR_pt hj, wI_pt hj, wJ_pt hj, aL_pt hj, cl1_s, cl1_n, cl1_i, cx1_s, cx1_x, cx1_n, cx1_i, nul_n, nul_s, nm, dv2, dv3, dv4, dv5, dv8, dv10, dv20, dv40, thr, bo, mI_pt hj, mT_pt hj, sB_pt, mZ_pt, mJ_pt, mJ_sJ, mZ_sJ, tn0, tn1, tn2, tn3, tn4, tn5, tn6, hx0, ii0, ii1, ii2, ii3, ii4, if_true, if_false, ne_eq, not_false_eq_true, not_true_eq_false, true_and, and_true, false_and, and_false, and_self, true_or, or_true, false_or, or_false, or_self, Nat.reduceAdd, Nat.reduceLT, Nat.reduceLeDiff, Nat.succ_ne_zero, reduceIte, reduceCtorEq]
          · have G := m_getSJ (J := up2 I 124 0 0) (τ := sB τ) h' (up2_row (by omega)) hp hi
            have S2' : up2 I 124 0 0 126 2 = Int32.ofNat nL := by rw [up2_row (by omega)]; exact S2
            have MM := MAY (up2 I 124 0 0) (sB τ) (up2_row (by omega))
            by_cases n16 : nL = 16
            · have c1 : Int32.ofNat nL = 16 := by rw [n16]; decide
              simp (config := {decide := true}) only [f_X8_pluck, b_X8_pluck_0, b_X8_pluck_38, b_X8_pluck_82, b_X8_pluck_87, m_noSec h' hp, m_start0 hj h0, m_isIn _ hq.1 hq.2, m_isIn _ hr.1 hr.2, m_ref0 hj h0, m_ref1 hj h0 (show ¬ (3 : Int32) ≤ 0 by decide), G, b_Jx4a65c_size_8abf5_0, f_Jx4a65c_size_8abf5, S2', c1, gI_pt hj, gR_pt hj, ob_pt hj, ck_pt hj, pI_pt hj, pB_pt hj, pR_pt hj, aI_pt hj, aR_pt hj, wI_pt hj, wJ_pt hj, aL_pt hj, cl1_s, cl1_n, cl1_i, cx1_s, cx1_x, cx1_n, cx1_i, nul_n, nul_s, nm, dv2, dv3, dv4, dv5, dv8, dv10, dv20, dv40, thr, bo, mI_pt hj, mT_pt hj, sB_pt, mZ_pt, mJ_pt, mJ_sJ, mZ_sJ, tn0, tn1, tn2, tn3, tn4, tn5, tn6, h0, h7, h6, M6, M5, T9, ii0, ii1, ii2, ii3, ii4, if_true, if_false, ne_eq, not_false_eq_true, not_true_eq_false, true_and, and_true, false_and, and_false, and_self, true_or, or_true, false_or, or_false, or_self, Nat.reduceAdd, Nat.reduceLT, Nat.reduceLeDiff, Nat.succ_ne_zero, reduceIte, reduceCtorEq]
            · have c1 : ¬ Int32.ofNat nL = 16 := by rw [show (16 : Int32) = Int32.ofNat 16 from rfl, kN_eq (by omega) (by omega)]; exact n16
              have hz := hf.resolve_left n16
              rw [dz.mp hz] at MM
              simp (config := {decide := true}) only [f_X8_pluck, b_X8_pluck_0, b_X8_pluck_38, b_X8_pluck_82, b_X8_pluck_87, m_noSec h' hp, m_start0 hj h0, m_isIn _ hq.1 hq.2, m_isIn _ hr.1 hr.2, m_ref0 hj h0, m_ref1 hj h0 (show ¬ (3 : Int32) ≤ 0 by decide), G, MM, b_Jx4a65c_size_8abf5_0, f_Jx4a65c_size_8abf5, S2', c1, gI_pt hj, gR_pt hj, ob_pt hj, ck_pt hj, pI_pt hj, pB_pt hj, pR_pt hj, aI_pt hj, aR_pt hj, wI_pt hj, wJ_pt hj, aL_pt hj, cl1_s, cl1_n, cl1_i, cx1_s, cx1_x, cx1_n, cx1_i, nul_n, nul_s, nm, dv2, dv3, dv4, dv5, dv8, dv10, dv20, dv40, thr, bo, mI_pt hj, mT_pt hj, sB_pt, mZ_pt, mJ_pt, mJ_sJ, mZ_sJ, tn0, tn1, tn2, tn3, tn4, tn5, tn6, h0, h7, h6, M6, M5, T9, ii0, ii1, ii2, ii3, ii4, if_true, if_false, ne_eq, not_false_eq_true, not_true_eq_false, true_and, and_true, false_and, and_false, and_self, true_or, or_true, false_or, or_false, or_self, Nat.reduceAdd, Nat.reduceLT, Nat.reduceLeDiff, Nat.succ_ne_zero, reduceIte, reduceCtorEq]
        · -- plucked
          have n16 : nL < 16 := by
            have : nL ≠ 16 := fun y => hf (Or.inl y)
            omega
          have hz : ¬ hd + ol + yg ≤ 0 := fun y => hf (Or.inr y)
          have z0 : (0 : Int32).toInt = 0 := rfl
          have tot : 0 < hd.toInt + ol.toInt + yg.toInt := by
            have := ltT (Int32.not_le.mp hz); rw [dt, z0] at this; exact this
          obtain ⟨JX, X1, X2, X3, X4, X5, X6, X7, X8, X9, X10, X11, X12, X13, X14, X15, X16, X17, X18, X19⟩ := x_pl109 (p := p) (hands := r) (hd := hd) (ol := ol) (yg := yg) (τ := τ) h n16 sL hp.1 hi
          obtain ⟨τ1, hτ1⟩ : ∃ τ1, τ1 = sJ τ (φ 132) 0 (Int32.ofNat nL).toInt64 := ⟨_, rfl⟩
          have z1 : mZ τ1 = mZ τ := by rw [hτ1]; rfl
          have j1 : mJ τ1 (φ 132) 0 = (Int32.ofNat nL).toInt64 := by rw [hτ1]; exact sJ_at
          have hl1 : live T φ (mZ τ1) := by rw [z1]; exact h.hl
          obtain ⟨J, hJd⟩ : ∃ J, J = up2 JX 124 0 0 := ⟨_, rfl⟩
          have JI : ∀ v, 121 ≤ v → v ≠ 124 → J v = I v := fun v hv hv2 => by rw [hJd, up2_row hv2, X2 v (by omega) (by omega) (by omega) (by omega) (by omega)]
          obtain ⟨φ1, T1, J1, R1, τ2, N1, inj1, live1, Pg, Tg, Tg1, Tg3, Ig, Rg1, Rg12, Rg14, Ig1, Ig3, Rg3, aP, aT, aI, aR, zz1, jj1⟩ := m_newLotV (e0 := e0) (mi := mi) (I := J) (R := R) (10 * nL + 150) hj hl1
          obtain ⟨Jd, LR, L0, L1, L2, L3, L4, L5, L6, L7, L8, L9, L10, L11, L12, L13⟩ := m_plu (e0 := e0) (mi := mi) (g := 10 * nL + 150) (q := 2 * s + 135) (p := p) (hands := r) (most := 8 * r) (hd := hd) (ol := ol) (yg := yg) (J := J1) (R := R1) (τ := τ2) inj1 Tg Rg1 Tg1 (by rw [aT _ (by omega) (by omega) (by omega)]; exact h0) (by rw [aT _ (by omega) (by omega) (by omega)]; exact T9) (by rw [aR _ (by omega) (by omega) (by omega), R136, aP _ (by omega) (by omega) (by omega)]) (by rw [aT _ (by omega) (by omega) (by omega)]; exact T136) Ig1 hp.1 hi s4 (by omega) (by omega) (by
            show Amt st (J1 (2 * s + 136) 4) (J1 (2 * s + 136) 3) (J1 (2 * s + 136) 2) _ _ _ _
            rw [aI _ (by omega) (by omega) (by omega), JI _ (by omega) (by omega), ← F6, ← G3, ← G2]; exact hA)
          have hm' := h.2.2.2.1
          have hr' := h.2.2.2.2
          have hx' := h.2.2.1
          obtain ⟨hm0, hm1, hm2, hm3, hm4, hm5, hm6, hm7, hm8, hm9, hm10, hm11, hm12, hm13, hm14, hm15, hm16, hm17, hm18, hm19, hm20, hm21, hm22, hm23, hm24, hm25, hm26, hm27, hm28, hm29, hm30, hm31, hm32, hm33, hm34, hm35, hm36, hm37, hm38, hm39, hm40, hm41, hm42, hm43, hm44⟩ := hm'
          have L := list_add (e0 := e0) (mi := mi) (l := 126) (w := 134) (s := nL) (c := if nL = 0 then 0 else cL) (u := 10 * nL + 150) (I := Jd) (R := R1) (τ := τ2) inj1 live1 (by rw [aT _ (by omega) (by omega) (by omega)]; exact hm6) (by decide) (by rw [L0 _ (by omega) (by omega) (by omega) (by omega), aI _ (by omega) (by omega) (by omega), JI _ (by omega) (by omega)]; exact hm13) (by split <;> omega) (by omega) (by split <;> omega) (by
              rw [aR _ (by omega) (by omega) (by omega), hm15]
              by_cases q0 : nL = 0
              · simp [q0]
              · have : cL ≠ 0 := by omega
                simp only [if_neg q0, if_neg this]; rw [aP _ (by omega) (by omega) (by omega)]) (by
              intro hc
              by_cases q0 : nL = 0
              · simp [q0] at hc
              · simp only [if_neg q0]; rw [aT _ (by omega) (by omega) (by omega)]; exact hm17 (by omega)) (by rw [aT _ (by omega) (by omega) (by omega)]; exact hm41) (by rw [aP _ (by omega) (by omega) (by omega)]; exact hm42) (by decide) (by omega) (by left; rw [Tg]) (fun k hk => ⟨10 * k + 150, by rw [aR _ (by omega) (by omega) (by omega), hm28 k hk, aP _ (by omega) (by omega) (by omega)], by left; rw [aT _ (by omega) (by omega) (by omega), hm29 k hk]⟩)
          obtain ⟨φ3, T3, I3, R3, τ3, c3, LA, inj3, live3, ⟨c3a, c3b⟩, LT, LP, LI, LL2, LI2, LLR, LR2, LL1, LRk, LRs, Lz, Lj, Lnn⟩ := L
          have fP : ∀ v, v < 10 * nL + 150 → v ≠ 134 → φ3 v = φ v := fun v y1 y2 => by rw [(LP v y2).1, aP v (by omega) (by omega) (by omega)]
          have fT : ∀ v, v < 10 * nL + 150 → v ≠ 134 → T3 v = T v := fun v y1 y2 => by rw [(LP v y2).2, aT v (by omega) (by omega) (by omega)]
          have fR : ∀ v, v < 10 * nL + 150 → v ≠ 134 → v ≠ 126 → R3 v = R v := fun v y1 y2 y3 => by rw [LLR v y2 y3, aR v (by omega) (by omega) (by omega)]
          have fD : ∀ v, v < 10 * nL + 150 → v ≠ 134 → v ≠ 126 → v ≠ 124 → v ≠ 2 * s + 136 → I3 v = JX v := fun v y1 y2 y3 y4 y5 => by rw [LI v y2 y3, L0 v y4 y5 (by omega) (by omega), aI v (by omega) (by omega) (by omega), hJd, up2_row y4]
          have fI : ∀ v, v < 10 * nL + 150 → v ≠ 134 → v ≠ 126 → v ≠ 124 → v ≠ 2 * s + 136 → v ≠ 0 → v ≠ 2 * s + 11 → v ≠ 2 * s + 12 → v ≠ 6 * nL + 19 → v ≠ 6 * nL + 20 → I3 v = I v := fun v y1 y2 y3 y4 y5 y6 y7 y8 y9 y10 => by rw [fD v y1 y2 y3 y4 y5, X2 v y6 y7 y8 y9 y10]
          have f124 : ∀ k, k ≠ 0 → k ≠ 4 → k ≠ 2 → I3 124 k = I 124 k := fun k y1 y2 y3 => by rw [LI _ (by omega) (by omega), L3 k y2 y3, aI _ (by omega) (by omega) (by omega), hJd, up2_k y1, X2 _ (by omega) (by omega) (by omega) (by omega) (by omega)]
          have f124' : I3 124 0 = 0 := by rw [LI _ (by omega) (by omega), L3 _ (by omega) (by omega), aI _ (by omega) (by omega) (by omega), hJd, up2_at]
          have g124 : ∀ k, k ≠ 0 → J1 124 k = I 124 k := fun k y1 => by rw [aI _ (by omega) (by omega) (by omega), hJd, up2_k y1, X2 _ (by omega) (by omega) (by omega) (by omega) (by omega)]
          have f124a : I3 124 4 = I 124 4 + plD hd ol yg := by rw [LI _ (by omega) (by omega), L1, g124 4 (by decide)]
          have f124b : I3 124 2 = I 124 2 - 2 * r := by rw [LI _ (by omega) (by omega), L2, g124 2 (by decide)]
          have gq : J1 (2 * s + 136) = I (2 * s + 136) := by rw [aI _ (by omega) (by omega) (by omega), JI _ (by omega) (by omega)]
          have fq : ∀ k, I3 (2 * s + 136) k = Jd (2 * s + 136) k := fun k => by rw [LI _ (by omega) (by omega)]
          have fg : ∀ k, I3 (10 * nL + 150) k = Jd (10 * nL + 150) k := fun k => by rw [LI _ (by omega) (by omega)]
          have fg1 : ∀ k, I3 (10 * nL + 151) k = Jd (10 * nL + 151) k := fun k => by rw [LI _ (by omega) (by omega)]
          obtain ⟨⟨⟨g1, g2⟩, ⟨g3, g4, g5, g6, g7⟩, g8, g9, g10⟩, r1, r2, r3, r4, r5, r6⟩ := hr'
          obtain ⟨bl1, bl2, bl3, bl4, bl5, bl6⟩ := r2 nL (Nat.le_refl _) n16
          have x19 : ∀ k, I3 (6 * nL + 19) k = JX (6 * nL + 19) k := fun k => by rw [fD _ (by omega) (by omega) (by omega) (by omega) (by omega)]
          have x20 : ∀ k, I3 (6 * nL + 20) k = JX (6 * nL + 20) k := fun k => by rw [fD _ (by omega) (by omega) (by omega) (by omega) (by omega)]
          have x0 : ∀ k, I3 0 k = JX 0 k := fun k => by rw [fD _ (by omega) (by omega) (by omega) (by omega) (by omega)]
          have x11 : ∀ k, I3 (2 * s + 11) k = JX (2 * s + 11) k := fun k => by rw [fD _ (by omega) (by omega) (by omega) (by omega) (by omega)]
          have x12 : ∀ k, I3 (2 * s + 12) k = JX (2 * s + 12) k := fun k => by rw [fD _ (by omega) (by omega) (by omega) (by omega) (by omega)]
          have hCx : Cx φ3 T3 I3 R3 (mZ τ3) e0 nS (nL + 1) cS c3 (rowS mx nL 0) (rowS cB nL 0) (rowS bl nL []) (n + 1) := by
            refine ⟨inj3, live3, hx'.frame (fun v hv => fP v (by omega) (by omega)) (fun v hv => fT v (by omega) (by omega)) (fun v hv => fR v (by omega) (by omega) (by omega)), ?_, ?_⟩
            · refine SM.addL h.2.2.2.1 n16 fP fT fR (fun v y1 y2 => ?_) c3a c3b LL2 LL1 LT ?_ ?_ ?_ ?_ ?_ ?_ (fun y => absurd rfl y) ?_ ?_ ?_ ?_ ?_
              · rcases y2 with rfl | ⟨i', k, y3, y4, y5, rfl⟩ <;> exact fI _ (by omega) (by omega) (by omega) (by omega) (by omega) (by omega) (by omega) (by omega) (by omega) (by omega)
              · rw [LRs, (LP _ (by omega)).1]
              · intro k hk; rw [LRk k hk, aR _ (by omega) (by omega) (by omega)]
              · rw [(LP _ (by omega)).2]; exact Tg
              · rw [LLR _ (by omega) (by omega), (LP (10 * nL + 151) (by omega)).1]; exact Rg1
              · rw [(LP _ (by omega)).2]; exact Tg1
              · rw [LLR _ (by omega) (by omega), if_pos rfl]; exact Rg12
              · rw [LLR _ (by omega) (by omega), (LP (10 * nL + 153) (by omega)).1]; exact Rg14
              · rw [(LP _ (by omega)).2]; exact Tg3
              · rw [LI _ (by omega) (by omega), L0 _ (by omega) (by omega) (by omega) (by omega)]; exact Ig3
              · rw [LLR _ (by omega) (by omega)]; exact Rg3
              · intro k y1 y2; exact Lnn k (by omega) y2 (fun y3 => by rw [aR _ (by omega) (by omega) (by omega)]; exact hm44 k (by omega) (by split at y3 <;> omega))
            · refine ⟨⟨⟨?_, ?_⟩, ⟨?_, ?_, ?_, ?_, ?_⟩, ?_, ?_, ?_⟩, fun i' hi' => ?_, fun i' y1 y2 => ?_, fun i' hi' => ?_, fun i' y1 y2 => ?_, fun i' hi' => ?_, ?_⟩
              · rw [x0, X6 1 (by decide) (by decide) (by decide)]; exact g1
              · rw [x0]; exact X3
              · rw [x0, X6 2 (by decide) (by decide) (by decide), f124 1 (by decide) (by decide) (by decide)]; exact g3
              · rw [x0, X4, f124b, g4]
              · rw [x0, X6 9 (by decide) (by decide) (by decide), f124 3 (by decide) (by decide) (by decide)]; exact g5
              · rw [x0, X5, f124a, g6]; rfl
              · rw [x0, X6 10 (by decide) (by decide) (by decide), f124 5 (by decide) (by decide) (by decide)]; exact g7
              · simp (disch := omega) only [fI]; exact g8
              · simp (disch := omega) only [fI]; exact g9
              · simp (disch := omega) only [fI]; exact g10
              · by_cases y : i' = nL
                · subst y
                  rw [rowS_hit, rowS_hit]
                  have f21 : I3 (6 * i' + 21) = I (6 * i' + 21) := by simp (disch := omega) only [fI]
                  have f22 : I3 (6 * i' + 22) = I (6 * i' + 22) := by simp (disch := omega) only [fI]
                  have f23 : I3 (6 * i' + 23) = I (6 * i' + 23) := by simp (disch := omega) only [fI]
                  have f24 : I3 (6 * i' + 24) = I (6 * i' + 24) := by simp (disch := omega) only [fI]
                  have xk : ∀ k, k ≠ 0 → k ≠ 1 → k ≠ 2 → k ≠ 3 → k ≠ 11 → k < 13 → I3 (6 * i' + 19) k = if k = 9 then -1 else 0 := fun k y1 y2 y3 y4 y5 y6 => by rw [x19, X17 k y1 y2 y3 y4 y5, bl1 k y6]
                  have mk : ∀ k, k ≠ 2 → k ≠ 3 → k ≠ 11 → I3 (10 * i' + 150) k = if k = 9 then -1 else 0 := fun k y1 y2 y3 => by rw [fg, L11 k y1 y2 y3, Ig]
                  have x0' : I3 (6 * i' + 19) 0 = 0 := by rw [x19]; exact X12
                  have x1' : I3 (6 * i' + 19) 1 = plD hd ol yg := by rw [x19]; exact X13
                  have x2' : I3 (6 * i' + 19) 2 = 3 * yg := by rw [x19]; exact X14
                  have x3' : I3 (6 * i' + 19) 3 = 3 * plD hd ol yg := by rw [x19]; exact X15
                  have x11' : I3 (6 * i' + 19) 11 = if I (2 * s + 11) 5 ≤ 0 then 0 else 1 := by rw [x19]; exact X16
                  have m2' : I3 (10 * i' + 150) 2 = 3 * yg := by rw [fg]; exact L8
                  have m3' : I3 (10 * i' + 150) 3 = 3 * plD hd ol yg := by rw [fg]; exact L9
                  have m11' : I3 (10 * i' + 150) 11 = if I (2 * s + 11) 5 ≤ 0 then 0 else 1 := by rw [fg, L10, aI _ (by omega) (by omega) (by omega), JI _ (by omega) (by omega), ← F5]
                  have mu : ∀ k, I3 (10 * i' + 151) k = if k = s then plD hd ol yg else 0 := fun k => by
                    rw [fg1]
                    by_cases y : k = s
                    · rw [y, if_pos rfl]; exact L12
                    · rw [if_neg y]; exact L13 k y
                  have xu : ∀ k, k < 4 → I3 (6 * i' + 20) k = if k = s then plD hd ol yg else 0 := fun k hk => by
                    rw [x20]
                    by_cases y : k = s
                    · rw [y, if_pos rfl]; exact X18
                    · rw [if_neg y, X19 k y]; exact bl2 k hk
                  have dp : 0 < (plD hd ol yg).toInt := by rw [dd]; omega
                  have t01 : (if I (2 * s + 11) 5 ≤ 0 then (0 : Int32) else 1) = 0 ∨ (if I (2 * s + 11) 5 ≤ 0 then (0 : Int32) else 1) = 1 := by split <;> simp
                  unfold LotR
                  rw [x0', x1', x2', x3', x11', xk 4 (by decide) (by decide) (by decide) (by decide) (by decide) (by decide), xk 5 (by decide) (by decide) (by decide) (by decide) (by decide) (by decide), xk 6 (by decide) (by decide) (by decide) (by decide) (by decide) (by decide), xk 7 (by decide) (by decide) (by decide) (by decide) (by decide) (by decide), xk 8 (by decide) (by decide) (by decide) (by decide) (by decide) (by decide), xk 9 (by decide) (by decide) (by decide) (by decide) (by decide) (by decide), xk 10 (by decide) (by decide) (by decide) (by decide) (by decide) (by decide), xk 12 (by decide) (by decide) (by decide) (by decide) (by decide) (by decide)]
                  rw [mk 0 (by decide) (by decide) (by decide), mk 4 (by decide) (by decide) (by decide), mk 5 (by decide) (by decide) (by decide), mk 6 (by decide) (by decide) (by decide), mk 7 (by decide) (by decide) (by decide), mk 8 (by decide) (by decide) (by decide), mk 9 (by decide) (by decide) (by decide), mk 10 (by decide) (by decide) (by decide), mk 13 (by decide) (by decide) (by decide), m2', m3', m11']
                  rw [mu 0, mu 1, mu 2, mu 3, xu 0 (by omega), xu 1 (by omega), xu 2 (by omega), xu 3 (by omega), f22, bl4]
                  have sum4 : (if 0 = s then plD hd ol yg else 0) + (if 1 = s then plD hd ol yg else 0) + (if 2 = s then plD hd ol yg else 0) + (if 3 = s then plD hd ol yg else 0) = plD hd ol yg := by
                    rcases (show s = 0 ∨ s = 1 ∨ s = 2 ∨ s = 3 by omega) with y | y | y | y <;> rw [y] <;> simp [Int32.add_zero, Int32.zero_add]
                  have nn : ∀ k, 0 ≤ (if k = s then plD hd ol yg else 0).toInt := fun k => by split <;> omega
                  have sumT : (plD hd ol yg).toInt = (if 0 = s then plD hd ol yg else 0).toInt + (if 1 = s then plD hd ol yg else 0).toInt + (if 2 = s then plD hd ol yg else 0).toInt + (if 3 = s then plD hd ol yg else 0).toInt := by
                    rcases (show s = 0 ∨ s = 1 ∨ s = 2 ∨ s = 3 by omega) with y | y | y | y <;> rw [y] <;> simp
                  refine ⟨⟨by decide, rfl, rfl, by decide, by decide, by decide, by decide, by decide, by decide, by decide, rfl, by decide, by decide⟩, ⟨rfl, rfl, rfl, rfl⟩, ⟨sum4.symm, nn 0, nn 1, nn 2, nn 3, sumT⟩, ⟨Or.inl rfl, fun y => absurd rfl y⟩, ⟨by decide, t01, by decide⟩, ⟨fun y => absurd y (by decide), fun _ => dp, fun _ => by decide⟩, ⟨by decide, ?_⟩, ⟨by decide, by decide, fun y => absurd rfl y, fun y => absurd rfl y⟩, BidR.nil (by rw [bl5]; decide) (by rw [bl5, z0]; omega) (fun k hk => by rw [f23]; exact bl6 k hk)⟩
                  show (0 : Int32).toInt ≤ _
                  rw [z0]; omega
                · have hi2 : i' < nL := by omega
                  rw [rowS_ne y, rowS_ne y]
                  simp (disch := omega) only [fI]; exact (r1 i' hi2).mono (Nat.le_succ _)
              · simp (disch := omega) only [fI]; exact r2 i' (by omega) y2
              · by_cases y : i' = s
                · subst y
                  unfold SecR
                  have y1 : (I (2 * i' + 11) 6 - hd).toInt = (I (2 * i' + 11) 6).toInt - hd.toInt := tSub (by omega) (by omega)
                  have y2 : (I (2 * i' + 12) 3 - ol).toInt = (I (2 * i' + 12) 3).toInt - ol.toInt := tSub (by have := (sh 3 (by omega)).1; omega) (by have := (sh 3 (by omega)).2; omega)
                  have y3 : (I (2 * i' + 12) 2 - yg).toInt = (I (2 * i' + 12) 2).toInt - yg.toInt := tSub (by have := (sh 2 (by omega)).1; omega) (by have := (sh 2 (by omega)).2; omega)
                  have f135 : I3 (2 * i' + 135) = I (2 * i' + 135) := by simp (disch := omega) only [fI]
                  have q4 : I3 (2 * i' + 136) 4 = I (2 * i' + 136) 4 - hd := by rw [fq]; exact L4.trans (by rw [gq])
                  have q3 : I3 (2 * i' + 136) 3 = I (2 * i' + 136) 3 - ol := by rw [fq]; exact L5.trans (by rw [gq])
                  have q2 : I3 (2 * i' + 136) 2 = I (2 * i' + 136) 2 - yg := by rw [fq]; exact L6.trans (by rw [gq])
                  have q0 : ∀ k, k ≠ 4 → k ≠ 3 → k ≠ 2 → I3 (2 * i' + 136) k = I (2 * i' + 136) k := fun k a1 a2 a3 => by rw [fq]; exact (L7 k a1 a2 a3).trans (by rw [gq])
                  rw [f135, q4, q3, q2, q0 0 (by decide) (by decide) (by decide), q0 1 (by decide) (by decide) (by decide)]
                  rw [x11, x11, x11, x11, x11, x11, x11, x12, x12, x12, x12, X7, X8 0 (by decide), X8 1 (by decide), X8 2 (by decide), X8 3 (by decide), X8 4 (by decide), X8 5 (by decide), X9, X10, X11 0 (by decide) (by decide), X11 1 (by decide) (by decide)]
                  refine ⟨⟨F0, F1, F2, F3, F4, F5, by rw [F6]⟩, ⟨G0, G1, by rw [G2], by rw [G3]⟩, ⟨b1, b2, b3, b4, b5, b6, b7, b8⟩, fun k hk => ?_, by rw [y1]; omega, by rw [y1]; omega⟩
                  have s3 := sh 3 (by omega)
                  have s2 := sh 2 (by omega)
                  rw [x12]
                  by_cases k3 : k = 3
                  · rw [k3, X9, y2]; omega
                  · by_cases k2 : k = 2
                    · rw [k2, X10, y3]; omega
                    · rw [X11 k k3 k2]; exact sh k hk
                · simp (disch := omega) only [fI]; exact (r3 i' hi').mono (Nat.le_succ _)
              · simp (disch := omega) only [fI]; exact r4 i' y1 y2
              · simp (disch := omega) only [fI]; exact (r5 i' hi').mono (Nat.le_succ _)
              · unfold SumR
                rw [sumZ_succ]
                have e1 : (I3 (6 * nL + 19) 1).toInt ≤ 360 := by
                  have : I3 (6 * nL + 19) 1 = plD hd ol yg := by rw [x19]; exact X13
                  rw [this, dd]; omega
                have e2 : sumZ (fun i => (I3 (6 * i + 19) 1).toInt) nL = sumZ (fun i => (I (6 * i + 19) 1).toInt) nL := sumZ_congr (fun j hj => by simp (disch := omega) only [fI])
                have r6' : sumZ (fun i => (I (6 * i + 19) 1).toInt) nL ≤ 360 * nL := r6
                show _ + (I3 (6 * nL + 19) 1).toInt ≤ _
                rw [e2]
                omega
          have e132 : φ3 132 = φ 132 := fP 132 (by omega) (by omega)
          have e0' : φ3 0 = φ 0 := fP 0 (by omega) (by omega)
          have e124 : φ3 124 = φ 124 := fP 124 (by omega) (by omega)
          have G := Agr.fin (X := f_L_pluck (some (φ 0)) p (Int32.ofNat st) r (some (φ 132)) (pt φ T I R τ)) (M := fun σ => f_X8_pluck e0 mi (φ 124) p (Int32.ofNat st) r σ) (b := Int32.ofNat nL) (σ1 := pt φ T JX R τ1) hCx ?_ ?_ f124' ?_
          · rw [e132, e0', e124] at G; exact G
          · have X := XR τ
            rw [if_neg hz, X1] at X
            simp (config := {decide := true}) only [f_L_pluck, b_L_pluck_0, X, gI_pt hj, gR_pt hj, ob_pt hj, ck_pt hj, pI_pt hj, pB_pt hj, pR_pt hj, aI_pt hj, aR_pt hj, wI_pt hj, wJ_pt hj, aL_pt hj, cl1_s, cl1_n, cl1_i, cx1_s, cx1_x, cx1_n, cx1_i, nul_n, nul_s, nm, dv2, dv3, dv4, dv5, dv8, dv10, dv20, dv40, thr, bo, mI_pt hj, mT_pt hj, sB_pt, mZ_pt, mJ_pt, mJ_sJ, mZ_sJ, tn0, tn1, tn2, tn3, tn4, tn5, tn6, hx0, h132, ii0, ii1, ii2, ii3, ii4, if_true, if_false, ne_eq, not_false_eq_true, not_true_eq_false, true_and, and_true, false_and, and_false, and_self, true_or, or_true, false_or, or_false, or_self, Nat.reduceAdd, Nat.reduceLT, Nat.reduceLeDiff, Nat.succ_ne_zero, reduceIte, reduceCtorEq]
            rw [hτ1]
          · have NS := m_noSecJ (J := JX) (τ := τ1) h (X2 125 (by omega) (by omega) (by omega) (by omega) (by omega)) hp
            have JX' : ∀ v, 125 ≤ v → up2 JX 124 0 0 v = I v := fun v hv => by rw [← hJd]; exact JI v (by omega) (by omega)
            have GS := m_getSJ (J := up2 JX 124 0 0) (τ := τ1) h (JX' 125 (by omega)) hp hi
            have S2' : up2 JX 124 0 0 126 2 = Int32.ofNat nL := by rw [JX' 126 (by omega)]; exact S2
            have MM := MAY (up2 JX 124 0 0) τ1 (JX' _ (by omega))
            have mne : ¬ may st (I (2 * s + 11) 6) (I (2 * s + 12) 3) (I (2 * s + 12) 2) = 0 := fun y => hz (dz.mpr y)
            have c1 : ¬ Int32.ofNat nL = 16 := by rw [show (16 : Int32) = Int32.ofNat 16 from rfl, kN_eq (by omega) (by omega)]; omega
            rw [hJd] at N1
            have ZZ : ∀ (K : Mem → Option Nat → Option (Int32 × Mem)), nO 7 (pt φ T (up2 JX 124 0 0) R τ1) K = K (pt φ T (up2 JX 124 0 0) R (sN τ1 (8, 0))) (some (mZ τ1)) := fun K => by
              rw [nO_off (Off.of hl1 (Nat.le_refl _))]
            have OB8 : ∀ (K : Nat → Option (Int32 × Mem)), ob 7 (pt φ T (up2 JX 124 0 0) R (sN τ1 (8, 0))) (some (mZ τ1)) K = K (mZ τ1) := fun K => by
              rw [ob_off (Off.of hl1 (Nat.le_refl _)) (by rw [mT_sN_at])]
            have stp : Int32.ofNat st + 1 = Int32.ofNat (st + 1) := kN_s st
            have LRun : l_X8_pluck_116 e0 mi 40 (φ 124) p r (some (φ (2 * s + 135))) (some (mZ τ1)) (8 * r) (Int32.ofNat (st + 1)) (pt φ1 T1 J1 R1 τ2) = plEnd e0 mi (φ 124) (some (mZ τ1)) (pt φ1 T1 Jd R1 τ2) := by
              have u1 := aP 124 (by omega) (by omega) (by omega)
              have u2 := aP (2 * s + 135) (by omega) (by omega) (by omega)
              rw [u1, u2, Pg] at LR
              exact LR
            have END : plEnd e0 mi (φ 124) (some (mZ τ1)) (pt φ1 T1 Jd R1 τ2) = some (Int32.ofNat nL, pt φ3 T3 I3 R3 τ3) := by
              have u1 := aP 124 (by omega) (by omega) (by omega)
              have u2 := aP 126 (by omega) (by omega) (by omega)
              have v1 : (T1 124).1 = 10 + 1 := by rw [aT _ (by omega) (by omega) (by omega), h0]
              have v2 : (T1 126).1 = 1 + 1 := by rw [aT _ (by omega) (by omega) (by omega), h6]
              have w1 : (T3 124).1 = 10 + 1 := by rw [fT 124 (by omega) (by omega), h0]
              have w2 : (T3 126).1 = 1 + 1 := by rw [fT 126 (by omega) (by omega), h6]
              have sb : Int32.ofNat (nL + 1) - 1 = Int32.ofNat nL := by rw [← kN_s]; exact Int32.add_sub_cancel _ _
              have e126 : φ3 126 = φ 126 := fP 126 (by omega) (by omega)
              rw [plEnd, ← u1, gR_pt inj1 v1, aR 124 (by omega) (by omega) (by omega), h7, ← u2, ob_pt inj1 v2, ← Pg, LA, cl1_s, u1, ← e124, gR_pt inj3 w1, fR 124 (by omega) (by omega) (by omega), h7, ← e126, ob_pt inj3 w2, f_Jx4a65c_size_8abf5, b_Jx4a65c_size_8abf5_0, gI_pt inj3 w2, LL2, cl1_s]
              show some (Int32.ofNat (nL + 1) - 1, _) = _
              rw [sb]
            simp (config := {decide := true}) only [f_X8_pluck, b_X8_pluck_0, b_X8_pluck_38, b_X8_pluck_87, NS, m_start0 hj h0, m_isIn _ hq.1 hq.2, m_isIn _ hr.1 hr.2, m_ref0 hj h0, GS, MM, mne, b_Jx4a65c_size_8abf5_0, f_Jx4a65c_size_8abf5, S2', c1, ZZ, OB8, N1, stp, LRun, END, gI_pt hj, gR_pt hj, ob_pt hj, ck_pt hj, pI_pt hj, pB_pt hj, pR_pt hj, aI_pt hj, aR_pt hj, wI_pt hj, wJ_pt hj, aL_pt hj, cl1_s, cl1_n, cl1_i, cx1_s, cx1_x, cx1_n, cx1_i, nul_n, nul_s, nm, dv2, dv3, dv4, dv5, dv8, dv10, dv20, dv40, thr, bo, mI_pt hj, mT_pt hj, sB_pt, mZ_pt, mJ_pt, mJ_sJ, mZ_sJ, tn0, tn1, tn2, tn3, tn4, tn5, tn6, h0, h7, h6, M6, M5, T9, ii0, ii1, ii2, ii3, ii4, if_true, if_false, ne_eq, not_false_eq_true, not_true_eq_false, true_and, and_true, false_and, and_false, and_self, true_or, or_true, false_or, or_false, or_self, Nat.reduceAdd, Nat.reduceLT, Nat.reduceLeDiff, Nat.succ_ne_zero, reduceIte, reduceCtorEq]
          · rw [e132, Lj _ (by have := h.out; omega), jj1 _ (by rw [z1]; exact h.out)]; exact j1
      · refine Agr.bad (k := 2) (b := 0) h (by decide) ?_ ?_
        · simp (config := {decide := true}) only [f_L_pluck, b_L_pluck_0, f_X4_pluck, b_X4_pluck_0, x_secAt h hp hi, x_req _ hq.1 hq.2, x_reqN _ hr, gI_pt hj, gR_pt hj, ob_pt hj, ck_pt hj, pI_pt hj, pB_pt hj, pR_pt hj, aI_pt hj, aR_pt hj, wI_pt hj, wJ_pt hj, aL_pt hj, cl1_s, cl1_n, cl1_i, cx1_s, cx1_x, cx1_n, cx1_i, nul_n, nul_s, nm, dv2, dv3, dv4, dv5, dv8, dv10, dv20, dv40, thr, bo, mI_pt hj, mT_pt hj, sB_pt, mZ_pt, mJ_pt, mJ_sJ, mZ_sJ, tn0, tn1, tn2, tn3, tn4, tn5, tn6, hx0, ii0, ii1, ii2, ii3, ii4, if_true, if_false, ne_eq, not_false_eq_true, not_true_eq_false, true_and, and_true, false_and, and_false, and_self, true_or, or_true, false_or, or_false, or_self, Nat.reduceAdd, Nat.reduceLT, Nat.reduceLeDiff, Nat.succ_ne_zero, reduceIte, reduceCtorEq]
        · simp (config := {decide := true}) only [f_X8_pluck, b_X8_pluck_0, b_X8_pluck_33, b_X8_pluck_38, b_X8_pluck_45, m_noSec h' hp, m_start0 hj h0, m_isIn _ hq.1 hq.2, m_isInN _ hr, m_ref1 hj h0 (show ¬ (2 : Int32) ≤ 0 by decide), gI_pt hj, gR_pt hj, ob_pt hj, ck_pt hj, pI_pt hj, pB_pt hj, pR_pt hj, aI_pt hj, aR_pt hj, wI_pt hj, wJ_pt hj, aL_pt hj, cl1_s, cl1_n, cl1_i, cx1_s, cx1_x, cx1_n, cx1_i, nul_n, nul_s, nm, dv2, dv3, dv4, dv5, dv8, dv10, dv20, dv40, thr, bo, mI_pt hj, mT_pt hj, sB_pt, mZ_pt, mJ_pt, mJ_sJ, mZ_sJ, tn0, tn1, tn2, tn3, tn4, tn5, tn6, h0, ii0, ii1, ii2, ii3, ii4, if_true, if_false, ne_eq, not_false_eq_true, not_true_eq_false, true_and, and_true, false_and, and_false, and_self, true_or, or_true, false_or, or_false, or_self, Nat.reduceAdd, Nat.reduceLT, Nat.reduceLeDiff, Nat.succ_ne_zero, reduceIte, reduceCtorEq]
    · refine Agr.bad (k := 2) (b := 0) h (by decide) ?_ ?_
      · simp (config := {decide := true}) only [f_L_pluck, b_L_pluck_0, f_X4_pluck, b_X4_pluck_0, x_secAt h hp hi, x_reqN _ hq, gI_pt hj, gR_pt hj, ob_pt hj, ck_pt hj, pI_pt hj, pB_pt hj, pR_pt hj, aI_pt hj, aR_pt hj, wI_pt hj, wJ_pt hj, aL_pt hj, cl1_s, cl1_n, cl1_i, cx1_s, cx1_x, cx1_n, cx1_i, nul_n, nul_s, nm, dv2, dv3, dv4, dv5, dv8, dv10, dv20, dv40, thr, bo, mI_pt hj, mT_pt hj, sB_pt, mZ_pt, mJ_pt, mJ_sJ, mZ_sJ, tn0, tn1, tn2, tn3, tn4, tn5, tn6, hx0, ii0, ii1, ii2, ii3, ii4, if_true, if_false, ne_eq, not_false_eq_true, not_true_eq_false, true_and, and_true, false_and, and_false, and_self, true_or, or_true, false_or, or_false, or_self, Nat.reduceAdd, Nat.reduceLT, Nat.reduceLeDiff, Nat.succ_ne_zero, reduceIte, reduceCtorEq]
      · simp (config := {decide := true}) only [f_X8_pluck, b_X8_pluck_0, b_X8_pluck_33, b_X8_pluck_38, b_X8_pluck_45, m_noSec h' hp, m_start0 hj h0, m_isInN _ hq, m_ref1 hj h0 (show ¬ (2 : Int32) ≤ 0 by decide), gI_pt hj, gR_pt hj, ob_pt hj, ck_pt hj, pI_pt hj, pB_pt hj, pR_pt hj, aI_pt hj, aR_pt hj, wI_pt hj, wJ_pt hj, aL_pt hj, cl1_s, cl1_n, cl1_i, cx1_s, cx1_x, cx1_n, cx1_i, nul_n, nul_s, nm, dv2, dv3, dv4, dv5, dv8, dv10, dv20, dv40, thr, bo, mI_pt hj, mT_pt hj, sB_pt, mZ_pt, mJ_pt, mJ_sJ, mZ_sJ, tn0, tn1, tn2, tn3, tn4, tn5, tn6, h0, ii0, ii1, ii2, ii3, ii4, if_true, if_false, ne_eq, not_false_eq_true, not_true_eq_false, true_and, and_true, false_and, and_false, and_self, true_or, or_true, false_or, or_false, or_self, Nat.reduceAdd, Nat.reduceLT, Nat.reduceLeDiff, Nat.succ_ne_zero, reduceIte, reduceCtorEq]
  · refine Agr.bad (k := 1) (b := 0) h (by decide) ?_ ?_
    · simp (config := {decide := true}) only [f_L_pluck, b_L_pluck_0, f_X4_pluck, b_X4_pluck_0, x_secAtN h hp, gI_pt hj, gR_pt hj, ob_pt hj, ck_pt hj, pI_pt hj, pB_pt hj, pR_pt hj, aI_pt hj, aR_pt hj, wI_pt hj, wJ_pt hj, aL_pt hj, cl1_s, cl1_n, cl1_i, cx1_s, cx1_x, cx1_n, cx1_i, nul_n, nul_s, nm, dv2, dv3, dv4, dv5, dv8, dv10, dv20, dv40, thr, bo, mI_pt hj, mT_pt hj, sB_pt, mZ_pt, mJ_pt, mJ_sJ, mZ_sJ, tn0, tn1, tn2, tn3, tn4, tn5, tn6, hx0, ii0, ii1, ii2, ii3, ii4, if_true, if_false, ne_eq, not_false_eq_true, not_true_eq_false, true_and, and_true, false_and, and_false, and_self, true_or, or_true, false_or, or_false, or_self, Nat.reduceAdd, Nat.reduceLT, Nat.reduceLeDiff, Nat.succ_ne_zero, reduceIte, reduceCtorEq]
    · simp (config := {decide := true}) only [f_X8_pluck, b_X8_pluck_0, b_X8_pluck_45, m_noSecN h' hp, m_start1 hj h0 (show ¬ (1 : Int32) ≤ 0 by decide), gI_pt hj, gR_pt hj, ob_pt hj, ck_pt hj, pI_pt hj, pB_pt hj, pR_pt hj, aI_pt hj, aR_pt hj, wI_pt hj, wJ_pt hj, aL_pt hj, cl1_s, cl1_n, cl1_i, cx1_s, cx1_x, cx1_n, cx1_i, nul_n, nul_s, nm, dv2, dv3, dv4, dv5, dv8, dv10, dv20, dv40, thr, bo, mI_pt hj, mT_pt hj, sB_pt, mZ_pt, mJ_pt, mJ_sJ, mZ_sJ, tn0, tn1, tn2, tn3, tn4, tn5, tn6, h0, ii0, ii1, ii2, ii3, ii4, if_true, if_false, ne_eq, not_false_eq_true, not_true_eq_false, true_and, and_true, false_and, and_false, and_self, true_or, or_true, false_or, or_false, or_self, Nat.reduceAdd, Nat.reduceLT, Nat.reduceLeDiff, Nat.succ_ne_zero, reduceIte, reduceCtorEq]
end PW
