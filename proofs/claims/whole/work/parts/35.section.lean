/-! SECTION -/
section SE
variable {φ : Nat → Nat} {T : Nat → Nat × Nat} {I : Nat → Nat → Int32} {R : Nat → Nat → Option Nat} {τ : Mem} {e0 nS nL cS cL n z : Nat} {mx : Nat → Int32} {cB : Nat → Nat} {bl : Nat → List (Nat × Int32)}
variable {mi a k i : Nat} {J : Nat → Nat → Int32} {p q r : Int32} {τ0 τ1 : Mem}
theorem take1 (w : Nat) {t s : Nat} (hj : Inj φ T) (hl : live T φ z) (hz : z ≤ a) (ha : mT τ a = (t, s)) (ht : t ≠ 0) : ∃ φ' T' I' R' τ', pt φ T I R τ = pt φ' T' I' R' τ' ∧ Inj φ' T' ∧ live T' φ' (a + 1) ∧ φ' w = a ∧ T' w = (t, s) ∧ I' w = mI τ a ∧ R' w = mR τ a ∧ (∀ v, v ≠ w → φ' v = φ v) ∧ (∀ v, v ≠ w → T' v = T v) ∧ (∀ v, v ≠ w → I' v = I v) ∧ (∀ v, v ≠ w → R' v = R v) ∧ mZ τ' = mZ τ ∧ (∀ b, z ≤ b → mT τ' b = mT τ b ∧ mI τ' b = mI τ b ∧ mR τ' b = mR τ b) ∧ (∀ b, mJ τ' b = mJ τ b) := by
  have ho : ∀ b, z ≤ b → Off φ T b := fun b hb => Off.of hl hb
  obtain ⟨e1, e2⟩ := pt_take (I := I) (R := R) w hj (ho a hz) (by rw [ha]; exact ht)
  rw [ha] at e1 e2
  refine ⟨_, _, _, _, _, e2, e1, ?_, rowS_hit, rowS_hit, rowS_hit, rowS_hit, fun v hv => rowS_ne hv, fun v hv => rowS_ne hv, fun v hv => rowS_ne hv, fun v hv => rowS_ne hv, rfl, fun b hb => ⟨mT_off (ho b hb), mI_off (ho b hb), mR_off (ho b hb)⟩, fun b => rfl⟩
  have h2 : live T φ (a + 1) := fun v hv => Nat.lt_of_lt_of_le (hl v hv) (by omega)
  exact h2.take (Nat.lt_succ_self _)
theorem m_newSec (hj : Inj φ T) (hl : live T φ (mZ τ)) : ∃ τ', f_X6_init (mZ τ) p q (pt φ T I R (sN τ (9, 0))) = some ((), pt φ T I R τ') ∧ mT τ' (mZ τ) = (9, 0) ∧ mT τ' (mZ τ + 1) = (100, 5) ∧ mI τ' (mZ τ) 0 = p ∧ mI τ' (mZ τ) 1 = q ∧ (∀ k, 2 ≤ k → mI τ' (mZ τ) k = 0) ∧ mR τ' (mZ τ) 6 = some (mZ τ + 1) ∧ (∀ k, mI τ' (mZ τ + 1) k = 0) ∧ mZ τ' = mZ τ + 2 ∧ Kp (mZ τ) τ τ' := by
  have o1 : Off φ T (mZ τ) := Off.of hl (Nat.le_refl _)
  have o2 : Off φ T (mZ τ + 1) := Off.of hl (Nat.le_succ _)
  have n1 : mZ τ ≠ mZ τ + 1 := by omega
  obtain ⟨τ2, W2, T2, Z2, -, K2, z2⟩ := nA_ex (J := I) (R := R) (τ1 := sN τ (9, 0)) (p := 5) (c := 5) (t := 0) (bd := 5) o2 (by decide) rfl (by decide)
  have q1 : mT τ2 (mZ τ) = (9, 0) := by rw [(K2.2 (mZ τ) (Nat.lt_succ_self _)).2.2.2]; exact mT_sN_at
  have q2 : ∀ k, mI τ2 (mZ τ) k = 0 := by intro k; rw [(K2.2 (mZ τ) (Nat.lt_succ_self _)).1]; exact mI_sN_at
  have q0 : (mT τ2 (mZ τ)).1 = 8 + 1 := by rw [q1]
  refine ⟨sI (sI (sR τ2 (mZ τ) 6 (some (mZ τ + 1))) (mZ τ) 0 p) (mZ τ) 1 q, ?_, q1, T2, ?_, ?_, ?_, ?_, ?_, z2, ?_⟩
  · have q3 : mT (sN τ (9, 0)) (mZ τ) = (9, 0) := mT_sN_at
    simp (config := {decide := true}) only [f_X6_init, b_X6_init_0, W2, gI_pt hj, gR_pt hj, ob_pt hj, ck_pt hj, pI_pt hj, pB_pt hj, pR_pt hj, aI_pt hj, aR_pt hj, wI_pt hj, wJ_pt hj, aL_pt hj, cl1_s, cl1_n, cl1_i, cx1_s, cx1_x, cx1_n, cx1_i, nul_n, nul_s, nm, dv2, dv3, dv4, dv5, dv8, dv10, dv20, dv40, thr, bo, gI_off, gR_off, ob_off, ck_off, pI_off, pB_off, pR_off, aI_off, wI_off, aR_off, nA_off, nO_off, mT_sI, mT_sR, mT_sJ, mT_sN_at, mI_sN_at, mR_sN_at, mI_sI, mI_sR, mI_sJ, mR_sI, mR_sR, mR_sJ, mZ_sI, mZ_sR, mZ_sN, mJ_sI, mJ_sR, o1, mI_pt hj, mT_pt hj, sB_pt, mZ_pt, mJ_pt, mJ_sJ, mZ_sJ, tn0, tn1, tn2, tn3, tn4, tn5, tn6, q0, q3, ii0, ii1, ii2, ii3, ii4, if_true, if_false, ne_eq, not_false_eq_true, not_true_eq_false, true_and, and_true, false_and, and_false, and_self, true_or, or_true, false_or, or_false, or_self, Nat.reduceAdd, Nat.reduceLT, Nat.reduceLeDiff, Nat.succ_ne_zero, reduceIte, reduceCtorEq]
  · simp (config := {decide := true}) only [mI_sI, mI_sR, up2, and_false, and_true, if_false, if_true]
  · simp (config := {decide := true}) only [mI_sI, mI_sR, up2, and_false, and_true, if_false, if_true]
  · intro k hk; simp only [mI_sI, mI_sR, up2]; rw [if_neg (by omega), if_neg (by omega)]; exact q2 k
  · simp only [mR_sI, mR_sR]; exact up2_at
  · intro k; simp only [mI_sI, mI_sR, up2]; rw [if_neg (by omega), if_neg (by omega)]; exact Z2 k
  · exact ((Kp.sN (Nat.le_refl _)).trans (K2.less (Nat.le_succ _))).trans ((Kp.sR (Nat.le_refl _)).trans ((Kp.sI (Nat.le_refl _)).trans (Kp.sI (Nat.le_refl _))))
theorem op_section {x m o : Nat} {σ : Mem} (p q : Int32) (h : Jn e0 x m o n σ) : Agr e0 x m o n (f_L_section (some x) p q (some o) σ) (fun σ => f_X8_section e0 mi m p q σ) := by
  obtain ⟨φ, T, I, R, τ, nS, nL, cS, cL, mx, cB, bl, rfl, ⟨rfl, rfl, rfl⟩, h⟩ := h
  have h : Cx φ T I R (mZ τ) e0 nS nL cS cL mx cB bl n := h
  have hj := h.hj
  have h0 := h.m.1
  have hx0 := h.m.2.2.2.2.2.2.2
  have h132 := h.m.2.2.2.2.2.2.1
  have hN := h.m.2.2.2.2.1
  have hS := h.m.2.2.2.2.2.1
  by_cases hp : 1 ≤ p ∧ p ≤ 9
  · by_cases hq : 0 ≤ q ∧ q ≤ 2
    · by_cases hs : nS = 4
      · refine Agr.bad (k := 2) (b := 0) h (by decide) ?_ ?_
        · obtain ⟨hj, hl, hx, hm, hr⟩ := h; obtain ⟨hx0, hx1, hx2, hx3, hx4, hx5, hx6, hx7, hx8, hx9, hx10, hx11, hx12, hx13, hx14, hx15, hx16, hx17, hx18, hx19, hx20, hx21, hx22, hx23, hx24, hx25, hx26, hx27⟩ := hx; obtain ⟨hm0, hm1, hm2, hm3, hm4, hm5, hm6, hm7, hm8, hm9, hm10, hm11, hm12, hm13, hm14, hm15, hm16, hm17, hm18, hm19, hm20, hm21, hm22, hm23, hm24, hm25, hm26, hm27, hm28, hm29, hm30, hm31, hm32, hm33, hm34, hm35, hm36, hm37, hm38, hm39, hm40, hm41, hm42, hm43, hm44⟩ := hm; obtain ⟨⟨⟨g1, g2⟩, ⟨g3, g4, g5, g6, g7⟩, g8, g9, g10⟩, r1, r2, r3, r4, r5, r6⟩ := hr
          simp (config := {decide := true}) only [f_L_section, b_L_section_0, f_X4_section, b_X4_section_0, b_X4_section_26, x_req _ hp.1 hp.2, x_req _ hq.1 hq.2, x_st0, g1, hs, show (4 : Int32) ≤ Int32.ofNat 4 by decide, gI_pt hj, gR_pt hj, ob_pt hj, ck_pt hj, pI_pt hj, pB_pt hj, pR_pt hj, aI_pt hj, aR_pt hj, wI_pt hj, wJ_pt hj, aL_pt hj, cl1_s, cl1_n, cl1_i, cx1_s, cx1_x, cx1_n, cx1_i, nul_n, nul_s, nm, dv2, dv3, dv4, dv5, dv8, dv10, dv20, dv40, thr, bo, mI_pt hj, mT_pt hj, sB_pt, mZ_pt, mJ_pt, mJ_sJ, mZ_sJ, tn0, tn1, tn2, tn3, tn4, tn5, tn6, hx0, h132, ii0, ii1, ii2, ii3, ii4, if_true, if_false, ne_eq, not_false_eq_true, not_true_eq_false, true_and, and_true, false_and, and_false, and_self, true_or, or_true, false_or, or_false, or_self, Nat.reduceAdd, Nat.reduceLT, Nat.reduceLeDiff, Nat.succ_ne_zero, reduceIte, reduceCtorEq]
        · obtain ⟨hj, hl, hx, hm, hr⟩ := h; obtain ⟨hx0, hx1, hx2, hx3, hx4, hx5, hx6, hx7, hx8, hx9, hx10, hx11, hx12, hx13, hx14, hx15, hx16, hx17, hx18, hx19, hx20, hx21, hx22, hx23, hx24, hx25, hx26, hx27⟩ := hx; obtain ⟨hm0, hm1, hm2, hm3, hm4, hm5, hm6, hm7, hm8, hm9, hm10, hm11, hm12, hm13, hm14, hm15, hm16, hm17, hm18, hm19, hm20, hm21, hm22, hm23, hm24, hm25, hm26, hm27, hm28, hm29, hm30, hm31, hm32, hm33, hm34, hm35, hm36, hm37, hm38, hm39, hm40, hm41, hm42, hm43, hm44⟩ := hm; obtain ⟨⟨⟨g1, g2⟩, ⟨g3, g4, g5, g6, g7⟩, g8, g9, g10⟩, r1, r2, r3, r4, r5, r6⟩ := hr
          have ne1 : (125 : Nat) ≠ 124 := by decide
          simp (config := {decide := true}) only [f_X8_section, b_X8_section_0, b_X8_section_25, b_X8_section_49, b_X8_section_56, m_isIn _ hp.1 hp.2, m_isIn _ hq.1 hq.2, m_start0 hj h0, m_ref1 hj h0 (show ¬ (2 : Int32) ≤ 0 by decide), b_Jx4a65c_size_8abf5_0, f_Jx4a65c_size_8abf5, gI_pt hj, gR_pt hj, ob_pt hj, ck_pt hj, pI_pt hj, pB_pt hj, pR_pt hj, aI_pt hj, aR_pt hj, wI_pt hj, wJ_pt hj, aL_pt hj, cl1_s, cl1_n, cl1_i, cx1_s, cx1_x, cx1_n, cx1_i, nul_n, nul_s, nm, dv2, dv3, dv4, dv5, dv8, dv10, dv20, dv40, thr, bo, mI_pt hj, mT_pt hj, sB_pt, mZ_pt, mJ_pt, mJ_sJ, mZ_sJ, tn0, tn1, tn2, tn3, tn4, tn5, tn6, hm1, hm5, up2_row ne1, hm12, hs, h0, show Int32.ofNat 4 = 4 by decide, ii0, ii1, ii2, ii3, ii4, if_true, if_false, ne_eq, not_false_eq_true, not_true_eq_false, true_and, and_true, false_and, and_false, and_self, true_or, or_true, false_or, or_false, or_self, Nat.reduceAdd, Nat.reduceLT, Nat.reduceLeDiff, Nat.succ_ne_zero, reduceIte, reduceCtorEq]
      · -- a new one
        have hS4 : nS < 4 := by omega
        obtain ⟨I1, hI1⟩ : ∃ I1, I1 = up2 (up2 (up2 I (2 * nS + 11) 0 p) (2 * nS + 11) 1 q) 0 1 (Int32.ofNat (nS + 1)) := ⟨_, rfl⟩
        obtain ⟨J, hJd⟩ : ∃ J, J = up2 I1 124 0 0 := ⟨_, rfl⟩
        obtain ⟨τ1, hτ1⟩ : ∃ τ1, τ1 = sJ τ (φ 132) 0 (Int32.ofNat nS).toInt64 := ⟨_, rfl⟩
        have z1 : mZ τ1 = mZ τ := by rw [hτ1]; rfl
        have j1 : mJ τ1 (φ 132) 0 = (Int32.ofNat nS).toInt64 := by rw [hτ1]; exact sJ_at
        have JI : ∀ v, v ≠ 124 → v ≠ 0 → v ≠ 2 * nS + 11 → J v = I v := fun v h1 h2 h3 => by rw [hJd, hI1]; simp (disch := omega) only [up2_row]
        have hout := h.out
        have hl1 : live T φ (mZ τ1) := by rw [z1]; exact h.hl
        obtain ⟨τ2, N1, N2, N3, N4, N5, N6, N7, N8, N9, N10⟩ := m_newSec (I := J) (R := R) (p := p) (q := q) hj hl1
        obtain ⟨φ1, T1, J1, R1, τ3, eq1, inj1, live1, ph1, pT1, pI1, pR1, aP1, aT1, aI1, aR1, zz1, of1, jj1⟩ := take1 (I := J) (R := R) (2 * nS + 135) hj hl1 (Nat.le_refl _) N2 (by decide)
        obtain ⟨φ2, T2, J2, R2, τ4, eq2, inj2, live2, ph2, pT2, pI2, pR2, aP2, aT2, aI2, aR2, zz2, of2, jj2⟩ := take1 (I := J1) (R := R1) (a := mZ τ1 + 1) (2 * nS + 136) inj1 live1 (Nat.le_refl _) ((of1 _ (Nat.le_succ _)).1.trans N3) (by decide)
        have hm' := h.2.2.2.1
        have hr' := h.2.2.2.2
        have hx' := h.2.2.1
        obtain ⟨hm0, hm1, hm2, hm3, hm4, hm5, hm6, hm7, hm8, hm9, hm10, hm11, hm12, hm13, hm14, hm15, hm16, hm17, hm18, hm19, hm20, hm21, hm22, hm23, hm24, hm25, hm26, hm27, hm28, hm29, hm30, hm31, hm32, hm33, hm34, hm35, hm36, hm37, hm38, hm39, hm40, hm41, hm42, hm43, hm44⟩ := hm'
        have L := list_add (e0 := e0) (mi := mi) (l := 125) (w := 133) (s := nS) (c := if nS = 0 then 0 else cS) (u := 2 * nS + 135) (I := J2) (R := R2) (τ := τ4) inj2 (by rw [zz2, zz1, N9]; exact live2) (by simp (disch := omega) only [aT2, aT1]; exact hm5) (by decide) (by simp (disch := omega) only [aI2, aI1, JI]; exact hm12) (by split <;> omega) (by omega) (by split <;> omega) (by
            simp (disch := omega) only [aR2, aR1, aP2, aP1]; rw [hm14]
            by_cases q0 : nS = 0
            · simp [q0]
            · have : cS ≠ 0 := by omega
              simp [q0, this]) (by
            intro hc
            by_cases q0 : nS = 0
            · simp [q0] at hc
            · simp only [if_neg q0]; simp (disch := omega) only [aT2, aT1]; exact hm16 (by omega)) (by simp (disch := omega) only [aT2, aT1]; exact hm41) (by simp (disch := omega) only [aP2, aP1]; exact hm42) (by decide) (by omega) (by
            right; left; rw [aT2 _ (by omega), pT1]) (fun k hk => ⟨2 * k + 135, by simp (disch := omega) only [aR2, aR1, aP2, aP1]; exact hm24 k hk, by right; left; simp (disch := omega) only [aT2, aT1]; rw [hm25 k hk]⟩)
        obtain ⟨φ3, T3, I3, R3, τ5, c3, LA, inj3, live3, ⟨c3a, c3b⟩, LT, LP, LI, L2, LI2, LR, LR2, L1, LRk, LRs, Lz, Lj, Lnn⟩ := L
        have fP : ∀ v, v ≠ 133 → v ≠ 2 * nS + 135 → v ≠ 2 * nS + 136 → φ3 v = φ v := fun v h1 h2 h3 => by rw [(LP v h1).1, aP2 v h3, aP1 v h2]
        have fT : ∀ v, v ≠ 133 → v ≠ 2 * nS + 135 → v ≠ 2 * nS + 136 → T3 v = T v := fun v h1 h2 h3 => by rw [(LP v h1).2, aT2 v h3, aT1 v h2]
        have fI : ∀ v, v ≠ 133 → v ≠ 125 → v ≠ 2 * nS + 135 → v ≠ 2 * nS + 136 → v ≠ 124 → v ≠ 0 → v ≠ 2 * nS + 11 → I3 v = I v := fun v h1 h2 h3 h4 h5 h6 h7 => by rw [LI v h1 h2, aI2 v h4, aI1 v h3, JI v h5 h6 h7]
        have fR : ∀ v, v ≠ 133 → v ≠ 125 → v ≠ 2 * nS + 135 → v ≠ 2 * nS + 136 → R3 v = R v := fun v h1 h2 h3 h4 => by rw [LR v h1 h2, aR2 v h4, aR1 v h3]
        have fJ : ∀ v, v ≠ 133 → v ≠ 125 → v ≠ 2 * nS + 135 → v ≠ 2 * nS + 136 → I3 v = J v := fun v h1 h2 h3 h4 => by rw [LI v h1 h2, aI2 v h4, aI1 v h3]
        have a12 := L2
        have a14 := L1
        have a16 := LT
        have a24 : R3 133 nS = some (φ3 (2 * nS + 135)) := by rw [LRs, (LP _ (by omega)).1]
        have a24' : ∀ k, k < nS → R3 133 k = R 133 k := fun k hk => by rw [LRk k hk, aR2 _ (by omega), aR1 _ (by omega)]
        have a25 : T3 (2 * nS + 135) = (9, 0) := by rw [(LP _ (by omega)).2, aT2 _ (by omega), pT1]
        have a26 : R3 (2 * nS + 135) 6 = some (φ3 (2 * nS + 136)) := by
          rw [LR _ (by omega) (by omega), aR2 _ (by omega), pR1, N7, (LP (2 * nS + 136) (by omega)).1, ph2]
        have a27 : T3 (2 * nS + 136) = (100, 5) := by rw [(LP _ (by omega)).2, pT2]
        have s135 : ∀ k, I3 (2 * nS + 135) k = if k = 0 then p else if k = 1 then q else 0 := by
          intro k
          rw [LI _ (by omega) (by omega), aI2 _ (by omega), pI1]
          by_cases k0 : k = 0
          · rw [if_pos k0, k0]; exact N4
          · by_cases k1 : k = 1
            · rw [if_neg k0, if_pos k1, k1]; exact N5
            · rw [if_neg k0, if_neg k1]; exact N6 k (by omega)
        have s136 : ∀ k, I3 (2 * nS + 136) k = 0 := by
          intro k
          rw [LI _ (by omega) (by omega), pI2, (of1 _ (Nat.le_succ _)).2.1]
          exact N8 k
        have s11 : ∀ k, k < 7 → I3 (2 * nS + 11) k = if k = 0 then p else if k = 1 then q else 0 := by
          intro k hk
          rw [fJ _ (by omega) (by omega) (by omega) (by omega), hJd, hI1, up2_row (by omega), up2_row (by omega)]
          simp only [up2]
          have B := (h.2.2.2.2.2.2.2.2.1 nS (Nat.le_refl _) hS4).1 k hk
          by_cases k0 : k = 0
          · simp [k0]
          · by_cases k1 : k = 1
            · simp [k1]
            · simp [k0, k1, B]
        have s12 : ∀ k, k < 4 → I3 (2 * nS + 12) k = 0 := by
          intro k hk
          rw [fI _ (by omega) (by omega) (by omega) (by omega) (by omega) (by omega) (by omega)]
          exact (h.2.2.2.2.2.2.2.2.1 nS (Nat.le_refl _) hS4).2 k hk
        have hJ0 : ∀ k, k ≠ 1 → I3 0 k = I 0 k := fun k hk => by
          rw [fJ _ (by omega) (by omega) (by omega) (by omega), hJd, hI1, up2_row (by omega), up2_k hk, up2_row (by omega), up2_row (by omega)]
        have hJ01 : I3 0 1 = Int32.ofNat (nS + 1) := by
          rw [fJ _ (by omega) (by omega) (by omega) (by omega), hJd, hI1, up2_row (by omega), up2_at]
        have hJ124 : ∀ k, k ≠ 0 → I3 124 k = I 124 k := fun k hk => by
          rw [fJ _ (by omega) (by omega) (by omega) (by omega), hJd, hI1, up2_k hk]; simp (disch := omega) only [up2_row]
        have hJ124' : I3 124 0 = 0 := by
          rw [fJ _ (by omega) (by omega) (by omega) (by omega), hJd, up2_at]
        have hCx : Cx φ3 T3 I3 R3 (mZ τ5) e0 (nS + 1) nL c3 cL mx cB bl (n + 1) := by
          refine ⟨inj3, live3, hx'.frame (fun v hv => fP v (by omega) (by omega) (by omega)) (fun v hv => fT v (by omega) (by omega) (by omega)) (fun v hv => fR v (by omega) (by omega) (by omega) (by omega)), ?_, ?_⟩
          · unfold SM
            refine ⟨?_, ?_, ?_, ?_, ?_, ?_, ?_, ?_, ?_, ?_, ?_, ?_, ?_, ?_, ?_, ?_, ?_, ?_, ?_, ?_, ?_, ?_, ?_, ?_, ?_, ?_, ?_, ?_, ?_, ?_, ?_, ?_, ?_, ?_, ?_, ?_, ?_, ?_, ?_, ?_, ?_, ?_, ?_, ?_, ?_⟩
            · simp (disch := omega) only [fP, fT, fI, fR]; exact hm0
            · simp (disch := omega) only [fP, fT, fI, fR]; exact hm1
            · simp (disch := omega) only [fP, fT, fI, fR]; exact hm2
            · simp (disch := omega) only [fP, fT, fI, fR]; exact hm3
            · simp (disch := omega) only [fP, fT, fI, fR]; exact hm4
            · simp (disch := omega) only [fP, fT, fI, fR]; exact hm5
            · simp (disch := omega) only [fP, fT, fI, fR]; exact hm6
            · simp (disch := omega) only [fP, fT, fI, fR]; exact hm7
            · simp (disch := omega) only [fP, fT, fI, fR]; exact hm8
            · simp (disch := omega) only [fP, fT, fI, fR]; exact hm9
            · intro i hi; simp (disch := omega) only [fP, fT, fI, fR]; exact hm10 i hi
            · intro i hi; simp (disch := omega) only [fP, fT, fI, fR]; exact hm11 i hi
            · exact a12
            · simp (disch := omega) only [fP, fT, fI, fR]; exact hm13
            · rw [if_neg (by omega)]; exact a14
            · simp (disch := omega) only [fP, fT, fI, fR]; exact hm15
            · intro hi; exact a16
            · intro hi; simp (disch := omega) only [fP, fT, fI, fR]; exact hm17 hi
            · omega
            · omega
            · exact hm20
            · exact hm21
            · omega
            · exact hm23
            · intro i hi
              by_cases q : i = nS
              · subst q; exact a24
              · have hi' : i < nS := by omega
                rw [a24' i hi', fP (2 * i + 135) (by omega) (by omega) (by omega)]; exact hm24 i hi'
            · intro i hi
              by_cases q : i = nS
              · subst q; exact a25
              · have hi' : i < nS := by omega
                rw [fT (2 * i + 135) (by omega) (by omega) (by omega)]; exact hm25 i hi'
            · intro i hi
              by_cases q : i = nS
              · subst q; exact a26
              · have hi' : i < nS := by omega
                rw [fR (2 * i + 135) (by omega) (by omega) (by omega) (by omega), fP (2 * i + 136) (by omega) (by omega) (by omega)]; exact hm26 i hi'
            · intro i hi
              by_cases q : i = nS
              · subst q; exact a27
              · have hi' : i < nS := by omega
                rw [fT (2 * i + 136) (by omega) (by omega) (by omega)]; exact hm27 i hi'
            · intro i hi; simp (disch := omega) only [fP, fT, fI, fR]; exact hm28 i hi
            · intro i hi; simp (disch := omega) only [fP, fT, fI, fR]; exact hm29 i hi
            · intro i hi; simp (disch := omega) only [fP, fT, fI, fR]; exact hm30 i hi
            · intro i hi; simp (disch := omega) only [fP, fT, fI, fR]; exact hm31 i hi
            · intro i hi; simp (disch := omega) only [fP, fT, fI, fR]; exact hm32 i hi
            · intro i hi; simp (disch := omega) only [fP, fT, fI, fR]; exact hm33 i hi
            · intro i hi; simp (disch := omega) only [fP, fT, fI, fR]; exact hm34 i hi
            · intro i hi; simp (disch := omega) only [fP, fT, fI, fR]; exact hm35 i hi
            · intro i hi; simp (disch := omega) only [fP, fT, fI, fR]; exact hm36 i hi
            · intro i hi; simp (disch := omega) only [fP, fT, fI, fR]; exact hm37 i hi
            · intro i hi; simp (disch := omega) only [fP, fT, fI, fR]; exact hm38 i hi
            · intro i hi; exact hm39 i hi
            · intro i hi k b hb; have hb4 := (hm40 i hi k b hb).1; simp (disch := omega) only [fP, fT, fI, fR]; exact hm40 i hi k b hb
            · simp (disch := omega) only [fP, fT, fI, fR]; exact hm41
            · simp (disch := omega) only [fP, fT, fI, fR]; exact hm42
            · intro i hi; exact hm43 i hi
            · intro i h1 h2; simp (disch := omega) only [fR]; exact hm44 i h1 h2
          · obtain ⟨⟨⟨g1, g2⟩, ⟨g3, g4, g5, g6, g7⟩, g8, g9, g10⟩, r1, r2, r3, r4, r5, r6⟩ := hr'
            refine ⟨⟨⟨hJ01, ?_⟩, ⟨?_, ?_, ?_, ?_, ?_⟩, ?_, ?_, ?_⟩, fun i hi => ?_, fun i y1 y2 => ?_, fun i hi => ?_, fun i y1 y2 => ?_, fun i hi => ?_, ?_⟩
            · rw [hJ0 4 (by decide)]; exact g2
            · rw [hJ0 2 (by decide), hJ124 1 (by decide)]; exact g3
            · rw [hJ0 8 (by decide), hJ124 2 (by decide)]; exact g4
            · rw [hJ0 9 (by decide), hJ124 3 (by decide)]; exact g5
            · rw [hJ0 11 (by decide), hJ124 4 (by decide)]; exact g6
            · rw [hJ0 10 (by decide), hJ124 5 (by decide)]; exact g7
            · simp (disch := omega) only [fI]; exact g8
            · simp (disch := omega) only [fI]; exact g9
            · simp (disch := omega) only [fI]; exact g10
            · simp (disch := omega) only [fI]; exact (r1 i hi).mono (Nat.le_succ _)
            · simp (disch := omega) only [fI]; exact r2 i y1 y2
            · by_cases e : i = nS
              · subst e
                have l1 := leT hp.1
                have l2 := leT hp.2
                have l3 := leT hq.1
                have l4 := leT hq.2
                have z0 : (0 : Int32).toInt = 0 := rfl
                have z1 : (1 : Int32).toInt = 1 := rfl
                have z2 : (2 : Int32).toInt = 2 := rfl
                have z9 : (9 : Int32).toInt = 9 := rfl
                unfold SecR
                rw [s11 0 (by omega), s11 1 (by omega), s11 2 (by omega), s11 3 (by omega), s11 4 (by omega), s11 5 (by omega), s11 6 (by omega), s12 0 (by omega), s12 1 (by omega), s12 2 (by omega), s12 3 (by omega)]
                simp (config := {decide := true}) only [s135, s136, if_true, if_false, and_self, true_and]
                refine ⟨?_, ?_, ?_⟩
                · repeat' apply And.intro
                  all_goals first | omega | decide | (rw [z0]; omega)
                · intro k hk
                  rw [s12 k hk, z0]; omega
                · repeat' apply And.intro
                  all_goals first | omega | decide | (rw [z0]; omega)
              · have hi' : i < nS := by omega
                simp (disch := omega) only [fI]; exact (r3 i hi').mono (Nat.le_succ _)
            · simp (disch := omega) only [fI]; exact r4 i (by omega) y2
            · simp (disch := omega) only [fI]; exact (r5 i hi).mono (Nat.le_succ _)
            · unfold SumR
              rw [sumZ_congr (g := fun i => (I (6 * i + 19) 1).toInt)]
              · exact r6
              · intro j hj; simp (disch := omega) only [fI]
        have e132 : φ3 132 = φ 132 := fP 132 (by omega) (by omega) (by omega)
        have e0' : φ3 0 = φ 0 := fP 0 (by omega) (by omega) (by omega)
        have e124 : φ3 124 = φ 124 := fP 124 (by omega) (by omega) (by omega)
        have G := Agr.fin (X := f_L_section (some (φ 0)) p q (some (φ 132)) (pt φ T I R τ)) (M := fun σ => f_X8_section e0 mi (φ 124) p q σ) (b := Int32.ofNat nS) (σ1 := pt φ T I1 R τ1) hCx ?_ ?_ hJ124' ?_
        · rw [e132, e0', e124] at G; exact G
        · obtain ⟨hx0, hx1, hx2, hx3, hx4, hx5, hx6, hx7, hx8, hx9, hx10, hx11, hx12, hx13, hx14, hx15, hx16, hx17, hx18, hx19, hx20, hx21, hx22, hx23, hx24, hx25, hx26, hx27⟩ := hx'
          obtain ⟨⟨⟨g1, g2⟩, -⟩, -⟩ := hr'
          have c1 : ¬ (4 : Int32) ≤ Int32.ofNat nS := by
            rw [show (4 : Int32) = Int32.ofNat 4 from rfl, kN_le (by omega) (by omega)]; omega
          have c2 := kN_nn (a := nS) (by omega)
          have c3 := tnK (k := nS) (by omega)
          have n1 : (0 : Nat) ≠ 2 * nS + 11 := by omega
          have sb : Int32.ofNat (nS + 1) - 1 = Int32.ofNat nS := by rw [← kN_s]; exact Int32.add_sub_cancel _ _
          simp (config := {decide := true}) only [f_L_section, b_L_section_0, f_X4_section, b_X4_section_0, b_X4_section_26, x_req _ hp.1 hp.2, x_req _ hq.1 hq.2, x_st1, g1, c1, c2, c3, hS4, hx1, hx6, hx10 nS hS4, hx11 nS hS4, up2_row n1, up2_at, kN_s, sb, gI_pt hj, gR_pt hj, ob_pt hj, ck_pt hj, pI_pt hj, pB_pt hj, pR_pt hj, aI_pt hj, aR_pt hj, wI_pt hj, wJ_pt hj, aL_pt hj, cl1_s, cl1_n, cl1_i, cx1_s, cx1_x, cx1_n, cx1_i, nul_n, nul_s, nm, dv2, dv3, dv4, dv5, dv8, dv10, dv20, dv40, thr, bo, mI_pt hj, mT_pt hj, sB_pt, mZ_pt, mJ_pt, mJ_sJ, mZ_sJ, tn0, tn1, tn2, tn3, tn4, tn5, tn6, hx0, h132, ii0, ii1, ii2, ii3, ii4, if_true, if_false, ne_eq, not_false_eq_true, not_true_eq_false, true_and, and_true, false_and, and_false, and_self, true_or, or_true, false_or, or_false, or_self, Nat.reduceAdd, Nat.reduceLT, Nat.reduceLeDiff, Nat.succ_ne_zero, reduceIte, reduceCtorEq]
          rw [hτ1, hI1]
        · have S5 : R (124) 6 = some (φ 125) := hm1
          have c1 : ¬ Int32.ofNat nS = 4 := by
            rw [show (4 : Int32) = Int32.ofNat 4 from rfl, kN_eq (by omega) (by omega)]; omega
          have n1 : (125 : Nat) ≠ 124 := by decide
          have J125 : up2 I1 124 0 0 125 = I 125 := by rw [← hJd]; exact JI 125 (by decide) (by decide) (by omega)
          have ZZ : ∀ (K : Mem → Option Nat → Option (Int32 × Mem)), nO 8 (pt φ T J R τ1) K = K (pt φ T J R (sN τ1 (9, 0))) (some (mZ τ1)) := fun K => by
            rw [nO_off (Off.of hl1 (Nat.le_refl _))]
          have OB8 : ∀ (K : Nat → Option (Int32 × Mem)), ob 8 (pt φ T J R (sN τ1 (9, 0))) (some (mZ τ1)) K = K (mZ τ1) := fun K => by
            rw [ob_off (Off.of hl1 (Nat.le_refl _)) (by rw [mT_sN_at])]
          have LB : f_Jx4a65c_add_9ea2d e0 mi (φ 125) (some (mZ τ1)) (pt φ T J R τ2) = some (1, pt φ3 T3 I3 R3 τ5) := by
            have u1 : φ2 (2 * nS + 135) = mZ τ1 := by rw [aP2 _ (by omega), ph1]
            have u2 : φ2 125 = φ 125 := by rw [aP2 _ (by omega), aP1 _ (by omega)]
            rw [u1, u2] at LA
            rw [eq1, eq2]; exact LA
          have SZ0 : ∀ (X : Nat → Nat → Int32) (σ : Mem), f_Jx4a65c_size_8abf5 (φ 125) (pt φ T X R σ) = some (X 125 2, pt φ T X R σ) := by
            intro X σ
            rw [f_Jx4a65c_size_8abf5, b_Jx4a65c_size_8abf5_0, gI_pt hj (show (T 125).1 = 1 + 1 by rw [hm5])]
          have SZ : f_Jx4a65c_size_8abf5 (φ 125) (pt φ3 T3 I3 R3 τ5) = some (Int32.ofNat (nS + 1), pt φ3 T3 I3 R3 τ5) := by
            have u2 : φ3 125 = φ 125 := fP 125 (by omega) (by omega) (by omega)
            have t2 : (T3 125).1 = 1 + 1 := by rw [fT 125 (by omega) (by omega) (by omega), hm5]
            rw [← u2, f_Jx4a65c_size_8abf5, b_Jx4a65c_size_8abf5_0, gI_pt inj3 t2, a12]
          have OB3 : ∀ {β : Type} (K : Nat → Option β), ob 1 (pt φ3 T3 I3 R3 τ5) (some (φ 125)) K = K (φ 125) := by
            intro β K
            have u2 : φ3 125 = φ 125 := fP 125 (by omega) (by omega) (by omega)
            have t2 : (T3 125).1 = 1 + 1 := by rw [fT 125 (by omega) (by omega) (by omega), hm5]
            rw [← u2, ob_pt inj3 t2]
          have GR3 : ∀ {β : Type} (K : Option Nat → Option β), gR 10 6 (pt φ3 T3 I3 R3 τ5) (some (φ 124)) K = K (some (φ 125)) := by
            intro β K
            have u2 : φ3 124 = φ 124 := fP 124 (by omega) (by omega) (by omega)
            have t2 : (T3 124).1 = 10 + 1 := by rw [fT 124 (by omega) (by omega) (by omega), hm0]
            rw [← u2, gR_pt inj3 t2, fR 124 (by omega) (by omega) (by omega) (by omega), hm1]
          have sb : Int32.ofNat (nS + 1) - 1 = Int32.ofNat nS := by rw [← kN_s]; exact Int32.add_sub_cancel _ _
          simp (config := {decide := true}) only [f_X8_section, b_X8_section_0, b_X8_section_25, b_X8_section_49, m_isIn _ hp.1 hp.2, m_isIn _ hq.1 hq.2, m_start0 hj h0, m_ref0 hj h0, gI_pt hj, gR_pt hj, ob_pt hj, ck_pt hj, pI_pt hj, pB_pt hj, pR_pt hj, aI_pt hj, aR_pt hj, wI_pt hj, wJ_pt hj, aL_pt hj, cl1_s, cl1_n, cl1_i, cx1_s, cx1_x, cx1_n, cx1_i, nul_n, nul_s, nm, dv2, dv3, dv4, dv5, dv8, dv10, dv20, dv40, thr, bo, mI_pt hj, mT_pt hj, sB_pt, mZ_pt, mJ_pt, mJ_sJ, mZ_sJ, tn0, tn1, tn2, tn3, tn4, tn5, tn6, h0, hm1, hm5, SZ0, J125, hm12, c1, ii0, ii1, ii2, ii3, ii4, if_true, if_false, ne_eq, not_false_eq_true, not_true_eq_false, true_and, and_true, false_and, and_false, and_self, true_or, or_true, false_or, or_false, or_self, Nat.reduceAdd, Nat.reduceLT, Nat.reduceLeDiff, Nat.succ_ne_zero, reduceIte, reduceCtorEq]
          rw [← hJd]
          simp (config := {decide := true}) only [ZZ, OB8, N1, LB, gI_pt hj, gR_pt hj, ob_pt hj, ck_pt hj, pI_pt hj, pB_pt hj, pR_pt hj, aI_pt hj, aR_pt hj, wI_pt hj, wJ_pt hj, aL_pt hj, cl1_s, cl1_n, cl1_i, cx1_s, cx1_x, cx1_n, cx1_i, nul_n, nul_s, nm, dv2, dv3, dv4, dv5, dv8, dv10, dv20, dv40, thr, bo, mI_pt hj, mT_pt hj, sB_pt, mZ_pt, mJ_pt, mJ_sJ, mZ_sJ, tn0, tn1, tn2, tn3, tn4, tn5, tn6, hm5, ii0, ii1, ii2, ii3, ii4, if_true, if_false, ne_eq, not_false_eq_true, not_true_eq_false, true_and, and_true, false_and, and_false, and_self, true_or, or_true, false_or, or_false, or_self, Nat.reduceAdd, Nat.reduceLT, Nat.reduceLeDiff, Nat.succ_ne_zero, reduceIte, reduceCtorEq]
          rw [GR3, OB3, SZ, cl1_s]
          show some (Int32.ofNat (nS + 1) - 1, pt φ3 T3 I3 R3 τ5) = _
          rw [sb]
        · rw [e132, Lj _ (by rw [zz2, zz1, N9]; omega), jj2, jj1, (N10.2 _ (by rw [z1]; exact hout)).2.2.1]; exact j1
    · refine Agr.bad (k := 1) (b := 0) h (by decide) ?_ ?_
      · simp (config := {decide := true}) only [f_L_section, b_L_section_0, f_X4_section, b_X4_section_0, x_req _ hp.1 hp.2, x_reqN _ hq, gI_pt hj, gR_pt hj, ob_pt hj, ck_pt hj, pI_pt hj, pB_pt hj, pR_pt hj, aI_pt hj, aR_pt hj, wI_pt hj, wJ_pt hj, aL_pt hj, cl1_s, cl1_n, cl1_i, cx1_s, cx1_x, cx1_n, cx1_i, nul_n, nul_s, nm, dv2, dv3, dv4, dv5, dv8, dv10, dv20, dv40, thr, bo, mI_pt hj, mT_pt hj, sB_pt, mZ_pt, mJ_pt, mJ_sJ, mZ_sJ, tn0, tn1, tn2, tn3, tn4, tn5, tn6, hx0, h132, ii0, ii1, ii2, ii3, ii4, if_true, if_false, ne_eq, not_false_eq_true, not_true_eq_false, true_and, and_true, false_and, and_false, and_self, true_or, or_true, false_or, or_false, or_self, Nat.reduceAdd, Nat.reduceLT, Nat.reduceLeDiff, Nat.succ_ne_zero, reduceIte, reduceCtorEq]
      · simp (config := {decide := true}) only [f_X8_section, b_X8_section_0, b_X8_section_20, b_X8_section_25, b_X8_section_56, m_isIn _ hp.1 hp.2, m_isInN _ hq, m_start1 hj h0 (show ¬ (1 : Int32) ≤ 0 by decide), gI_pt hj, gR_pt hj, ob_pt hj, ck_pt hj, pI_pt hj, pB_pt hj, pR_pt hj, aI_pt hj, aR_pt hj, wI_pt hj, wJ_pt hj, aL_pt hj, cl1_s, cl1_n, cl1_i, cx1_s, cx1_x, cx1_n, cx1_i, nul_n, nul_s, nm, dv2, dv3, dv4, dv5, dv8, dv10, dv20, dv40, thr, bo, mI_pt hj, mT_pt hj, sB_pt, mZ_pt, mJ_pt, mJ_sJ, mZ_sJ, tn0, tn1, tn2, tn3, tn4, tn5, tn6, h0, ii0, ii1, ii2, ii3, ii4, if_true, if_false, ne_eq, not_false_eq_true, not_true_eq_false, true_and, and_true, false_and, and_false, and_self, true_or, or_true, false_or, or_false, or_self, Nat.reduceAdd, Nat.reduceLT, Nat.reduceLeDiff, Nat.succ_ne_zero, reduceIte, reduceCtorEq]
  · refine Agr.bad (k := 1) (b := 0) h (by decide) ?_ ?_
    · simp (config := {decide := true}) only [f_L_section, b_L_section_0, f_X4_section, b_X4_section_0, x_reqN _ hp, gI_pt hj, gR_pt hj, ob_pt hj, ck_pt hj, pI_pt hj, pB_pt hj, pR_pt hj, aI_pt hj, aR_pt hj, wI_pt hj, wJ_pt hj, aL_pt hj, cl1_s, cl1_n, cl1_i, cx1_s, cx1_x, cx1_n, cx1_i, nul_n, nul_s, nm, dv2, dv3, dv4, dv5, dv8, dv10, dv20, dv40, thr, bo, mI_pt hj, mT_pt hj, sB_pt, mZ_pt, mJ_pt, mJ_sJ, mZ_sJ, tn0, tn1, tn2, tn3, tn4, tn5, tn6, hx0, h132, ii0, ii1, ii2, ii3, ii4, if_true, if_false, ne_eq, not_false_eq_true, not_true_eq_false, true_and, and_true, false_and, and_false, and_self, true_or, or_true, false_or, or_false, or_self, Nat.reduceAdd, Nat.reduceLT, Nat.reduceLeDiff, Nat.succ_ne_zero, reduceIte, reduceCtorEq]
    · simp (config := {decide := true}) only [f_X8_section, b_X8_section_0, b_X8_section_20, b_X8_section_25, b_X8_section_56, m_isInN _ hp, m_start1 hj h0 (show ¬ (1 : Int32) ≤ 0 by decide), gI_pt hj, gR_pt hj, ob_pt hj, ck_pt hj, pI_pt hj, pB_pt hj, pR_pt hj, aI_pt hj, aR_pt hj, wI_pt hj, wJ_pt hj, aL_pt hj, cl1_s, cl1_n, cl1_i, cx1_s, cx1_x, cx1_n, cx1_i, nul_n, nul_s, nm, dv2, dv3, dv4, dv5, dv8, dv10, dv20, dv40, thr, bo, mI_pt hj, mT_pt hj, sB_pt, mZ_pt, mJ_pt, mJ_sJ, mZ_sJ, tn0, tn1, tn2, tn3, tn4, tn5, tn6, h0, ii0, ii1, ii2, ii3, ii4, if_true, if_false, ne_eq, not_false_eq_true, not_true_eq_false, true_and, and_true, false_and, and_false, and_self, true_or, or_true, false_or, or_false, or_self, Nat.reduceAdd, Nat.reduceLT, Nat.reduceLeDiff, Nat.succ_ne_zero, reduceIte, reduceCtorEq]
end SE
