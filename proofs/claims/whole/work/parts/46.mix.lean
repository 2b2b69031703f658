/-! MIX -/
section MZ
variable {φ : Nat → Nat} {T : Nat → Nat × Nat} {I : Nat → Nat → Int32} {R : Nat → Nat → Option Nat} {τ : Mem} {e0 nS nL cS cL n z : Nat} {mx : Nat → Int32} {cB : Nat → Nat} {bl : Nat → List (Nat × Int32)}
variable {mi a b i j k s c g : Nat} {J J' : Nat → Nat → Int32} {R' : Nat → Nat → Option Nat} {p q r d cn u w : Int32} {τ0 τ1 : Mem} {t : Nat → Int32}
theorem Tk.congr {f f' : Nat → Int32} (h : Tk f cn t) (e : ∀ k, k < 4 → f' k = f k) : Tk f' cn t := by
  obtain ⟨a, b, c, d⟩ := h
  exact ⟨by rw [e 0 (by omega)]; exact a, by rw [e 1 (by omega)]; exact b, by rw [e 2 (by omega)]; exact c, by rw [e 3 (by omega)]; exact d⟩
theorem m_mixL {φ1 : Nat → Nat} {T1 : Nat → Nat × Nat} {R1 : Nat → Nat → Option Nat} (hj : Inj φ1 T1) (ti : T1 a = (8, 0)) (tj : T1 b = (8, 0)) (tg : T1 g = (8, 0)) (rg : R1 g 12 = some (φ1 (g + 2))) (tg2 : T1 (g + 2) = (100, 3)) (hz : u + w ≠ 0) {va vb : Nat → Int32}
    (NA : ∀ J' k, (∀ v, v ≠ g + 2 → J' v = J v) → k < 3 → f_X5_note (φ1 a) (Int32.ofNat k) (pt φ1 T1 J' R1 τ) = some (va k, pt φ1 T1 J' R1 τ))
    (NB : ∀ J' k, (∀ v, v ≠ g + 2 → J' v = J v) → k < 3 → f_X5_note (φ1 b) (Int32.ofNat k) (pt φ1 T1 J' R1 τ) = some (vb k, pt φ1 T1 J' R1 τ)) (a0 : Nat) :
    l_X8_mix_197 e0 mi 40 a0 u w (some (φ1 a)) (some (φ1 b)) (some (φ1 g)) 0 (pt φ1 T1 J R1 τ) = mmEnd e0 mi a0 u w (some (φ1 a)) (some (φ1 b)) (some (φ1 g)) (pt φ1 T1 (up2 (up2 (up2 J (g + 2) 0 ((va 0 * u + vb 0 * w) / (u + w))) (g + 2) 1 ((va 1 * u + vb 1 * w) / (u + w))) (g + 2) 2 ((va 2 * u + vb 2 * w) / (u + w))) R1 τ) := by
  have A0 : f_X5_note (φ1 a) 0 (pt φ1 T1 J R1 τ) = some (va 0, pt φ1 T1 J R1 τ) := NA J 0 (fun _ _ => rfl) (by decide)
  have B0 : f_X5_note (φ1 b) 0 (pt φ1 T1 J R1 τ) = some (vb 0, pt φ1 T1 J R1 τ) := NB J 0 (fun _ _ => rfl) (by decide)
  have A1 : ∀ y, f_X5_note (φ1 a) 1 (pt φ1 T1 (up2 J (g + 2) 0 y) R1 τ) = some (va 1, pt φ1 T1 (up2 J (g + 2) 0 y) R1 τ) := fun y => NA _ 1 (fun v hv => up2_row hv) (by decide)
  have B1 : ∀ y, f_X5_note (φ1 b) 1 (pt φ1 T1 (up2 J (g + 2) 0 y) R1 τ) = some (vb 1, pt φ1 T1 (up2 J (g + 2) 0 y) R1 τ) := fun y => NB _ 1 (fun v hv => up2_row hv) (by decide)
  have A2 : ∀ y z, f_X5_note (φ1 a) 2 (pt φ1 T1 (up2 (up2 J (g + 2) 0 y) (g + 2) 1 z) R1 τ) = some (va 2, pt φ1 T1 (up2 (up2 J (g + 2) 0 y) (g + 2) 1 z) R1 τ) := fun y z => NA _ 2 (fun v hv => by rw [up2_row hv, up2_row hv]) (by decide)
  have B2 : ∀ y z, f_X5_note (φ1 b) 2 (pt φ1 T1 (up2 (up2 J (g + 2) 0 y) (g + 2) 1 z) R1 τ) = some (vb 2, pt φ1 T1 (up2 (up2 J (g + 2) 0 y) (g + 2) 1 z) R1 τ) := fun y z => NB _ 2 (fun v hv => by rw [up2_row hv, up2_row hv]) (by decide)
  rw [mmEnd]
  simp (config := {decide := true}) only [l_X8_mix_197, itr_40, itr_39, itr_38, itr_37, b_X8_mix_197, A0, B0, A1, B1, A2, B2, dv_c hz, gI_pt hj, gR_pt hj, ob_pt hj, ck_pt hj, pI_pt hj, pB_pt hj, pR_pt hj, aI_pt hj, aR_pt hj, wI_pt hj, wJ_pt hj, aL_pt hj, cl1_s, cl1_n, cl1_i, cx1_s, cx1_x, cx1_n, cx1_i, nul_n, nul_s, nm, dv2, dv3, dv4, dv5, dv8, dv10, dv20, dv40, thr, bo, mI_pt hj, mT_pt hj, sB_pt, mZ_pt, mJ_pt, mJ_sJ, mZ_sJ, tn0, tn1, tn2, tn3, tn4, tn5, tn6, ti, tj, tg, rg, tg2, ii0, ii1, ii2, ii3, ii4, if_true, if_false, ne_eq, not_false_eq_true, not_true_eq_false, true_and, and_true, false_and, and_false, and_self, true_or, or_true, false_or, or_false, or_self, Nat.reduceAdd, Nat.reduceLT, Nat.reduceLeDiff, Nat.succ_ne_zero, reduceIte, reduceCtorEq]
set_option maxHeartbeats 16000000 in
theorem op_mix {x m o : Nat} {σ : Mem} (p u q w : Int32) (h : Jn e0 x m o n σ) : Agr e0 x m o n (f_L_mix (some x) p u q w (some o) σ) (fun σ => f_X8_mix e0 mi m p u q w σ) := by
  obtain ⟨φ, T, I, R, τ, nS, nL, cS, cL, mx, cB, bl, rfl, ⟨rfl, rfl, rfl⟩, h⟩ := h
  have h : Cx φ T I R (mZ τ) e0 nS nL cS cL mx cB bl n := h
  have hj := h.hj
  have h0 := h.m.1
  have hx0 := h.m.2.2.2.2.2.2.2
  have h132 := h.m.2.2.2.2.2.2.1
  have h7 := h.m.2.2.2.1
  have h6 := h.m.2.2.1
  have hN := h.m.2.2.2.2.1
  have hS := h.m.2.2.2.2.2.1
  have h' : Cx φ T I R (mZ (sB τ)) e0 nS nL cS cL mx cB bl n := h.up (Nat.le_succ _)
  by_cases hp : InN p nL
  · by_cases hq : InN q nL
    · have iL := (idx h.m.2.2.2.2.1 hp.1 hp.2).2.2.2.2
      have jL := (idx h.m.2.2.2.2.1 hq.1 hq.2).2.2.2.2
      by_cases hd : p = q
      · subst hd
        refine Agr.bad (k := 2) (b := 0) h (by decide) ?_ ?_
        · simp (config := {decide := true}) only [f_L_mix, b_L_mix_0, f_X4_mix, b_X4_mix_0, x_lotAt h hp rfl, x_difN, gI_pt hj, gR_pt hj, ob_pt hj, ck_pt hj, pI_pt hj, pB_pt hj, pR_pt hj, aI_pt hj, aR_pt hj, wI_pt hj, wJ_pt hj, aL_pt hj, cl1_s, cl1_n, cl1_i, cx1_s, cx1_x, cx1_n, cx1_i, nul_n, nul_s, nm, dv2, dv3, dv4, dv5, dv8, dv10, dv20, dv40, thr, bo, mI_pt hj, mT_pt hj, sB_pt, mZ_pt, mJ_pt, mJ_sJ, mZ_sJ, tn0, tn1, tn2, tn3, tn4, tn5, tn6, hx0, ii0, ii1, ii2, ii3, ii4, if_true, if_false, ne_eq, not_false_eq_true, not_true_eq_false, true_and, and_true, false_and, and_false, and_self, true_or, or_true, false_or, or_false, or_self, Nat.reduceAdd, Nat.reduceLT, Nat.reduceLeDiff, Nat.succ_ne_zero, reduceIte, reduceCtorEq]
        · simp (config := {decide := true}) only [f_X8_mix, b_X8_mix_0, b_X8_mix_22, b_X8_mix_40, b_X8_mix_47, m_noLot h' hp, m_start0 hj h0, m_ref1 hj h0 (show ¬ (2 : Int32) ≤ 0 by decide), gI_pt hj, gR_pt hj, ob_pt hj, ck_pt hj, pI_pt hj, pB_pt hj, pR_pt hj, aI_pt hj, aR_pt hj, wI_pt hj, wJ_pt hj, aL_pt hj, cl1_s, cl1_n, cl1_i, cx1_s, cx1_x, cx1_n, cx1_i, nul_n, nul_s, nm, dv2, dv3, dv4, dv5, dv8, dv10, dv20, dv40, thr, bo, mI_pt hj, mT_pt hj, sB_pt, mZ_pt, mJ_pt, mJ_sJ, mZ_sJ, tn0, tn1, tn2, tn3, tn4, tn5, tn6, h0, ii0, ii1, ii2, ii3, ii4, if_true, if_false, ne_eq, not_false_eq_true, not_true_eq_false, true_and, and_true, false_and, and_false, and_self, true_or, or_true, false_or, or_false, or_self, Nat.reduceAdd, Nat.reduceLT, Nat.reduceLeDiff, Nat.succ_ne_zero, reduceIte, reduceCtorEq]
      · have hne : p.toNatClampNeg ≠ q.toNatClampNeg := by
          obtain ⟨i, i1, rfl⟩ := hp.num hN
          obtain ⟨j, j1, rfl⟩ := hq.num hN
          rw [tnK (by omega), tnK (by omega)]
          intro y; exact hd (by rw [y])
        generalize hi : p.toNatClampNeg = i at iL hne
        generalize hj' : q.toNatClampNeg = j at jL hne
        have A := x_lotAt h hp hi
        have B := x_lotAt h hq hj'
        have TX1 : T (6 * i + 19) = (4, 0) := h.t4 (by omega)
        have TX2 : T (6 * j + 19) = (4, 0) := h.t4 (by omega)
        have TM1 := h.t8 iL
        have TM2 := h.t8 jL
        have JJ : ∀ v, 125 ≤ v → up2 I 124 0 0 v = I v := fun v hv => up2_row (by omega)
        have XF1 := x_free (τ := τ) h (show i < 17 by omega)
        have XF2 := x_free (τ := τ) h (show j < 17 by omega)
        have S2 : I 126 2 = Int32.ofNat nL := h.m.2.1
        by_cases hc : (I (6 * i + 19) 0 = 2 ∧ I (6 * i + 22) 0 ≤ 0) ∧ (1 ≤ u ∧ u ≤ I (6 * i + 19) 1) ∧ (I (6 * j + 19) 0 = 2 ∧ I (6 * j + 22) 0 ≤ 0) ∧ (1 ≤ w ∧ w ≤ I (6 * j + 19) 1) ∧ nL < 16
        · obtain ⟨⟨a1, a2⟩, ⟨u1, u2⟩, ⟨a3, a4⟩, ⟨w1, w2⟩, n16⟩ := hc
          have F1 : f_X1_isFreeMade (φ (6 * i + 19)) (pt φ T I R τ) = some (1, pt φ T I R τ) := by
            rcases XF1 with ⟨-, -, y⟩ | ⟨y, -⟩
            · exact y
            · exact absurd ⟨a1, a2⟩ y
          have F2 : f_X1_isFreeMade (φ (6 * j + 19)) (pt φ T I R τ) = some (1, pt φ T I R τ) := by
            rcases XF2 with ⟨-, -, y⟩ | ⟨y, -⟩
            · exact y
            · exact absurd ⟨a3, a4⟩ y
          have z0 : (0 : Int32).toInt = 0 := rfl
          have z1' : (1 : Int32).toInt = 1 := rfl
          have uT := leT u1
          have uT2 := leT u2
          have wT := leT w1
          have wT2 := leT w2
          have dn1 := h.dn iL
          have dn2 := h.dn jL
          have d12 := h.d2 iL jL hne
          have uw : (u + w).toInt = u.toInt + w.toInt := tAdd (by omega) (by omega)
          have hz : u + w ≠ 0 := fun y => by rw [y, z0] at uw; omega
          have L1 := h.lr iL
          have L2 := h.lr jL
          obtain ⟨⟨E0, E2, E3, E4, E5, E6, E7, E8, E9, E10, E11, E12, E13⟩, ⟨eB0, eB1, eB2, eB3⟩, ⟨eC1, eC2, eC3, eC4, eC5, eC6⟩, eD, ⟨eE1, eE2, eE3⟩, eF, eG, eH, eK⟩ := h.lr iL
          obtain ⟨⟨D0, D2, D3, D4, D5, D6, D7, D8, D9, D10, D11, D12, D13⟩, ⟨dB0, dB1, dB2, dB3⟩, ⟨dC1, dC2, dC3, dC4, dC5, dC6⟩, dD, ⟨dE1, dE2, dE3⟩, dF, dG, dH, dK⟩ := h.lr jL
          have r1z : I (6 * i + 22) 0 = 0 := Int32.toInt_inj.mp (by have := leT a2; rw [z0] at this ⊢; have := eH.1; omega)
          have r2z : I (6 * j + 22) 0 = 0 := Int32.toInt_inj.mp (by have := leT a4; rw [z0] at this ⊢; have := dH.1; omega)
          have b1n : bl i = [] := Classical.byContradiction (fun y => eH.2.2.2 y r1z)
          have b2n : bl j = [] := Classical.byContradiction (fun y => dH.2.2.2 y r2z)
          rw [b1n] at L1
          rw [b2n] at L2
          obtain ⟨t1, tk1⟩ := tk_ex (I (10 * i + 151)) u
          obtain ⟨t2, tk2⟩ := tk_ex (I (10 * j + 151)) w
          obtain ⟨tb1, ts1, -⟩ := tk_b tk1 eC2 eC3 eC4 eC5 (by omega) (by omega) (by omega)
          obtain ⟨tb2, ts2, -⟩ := tk_b tk2 dC2 dC3 dC4 dC5 (by omega) (by omega) (by omega)
          have sd1 := tk_sum tk1 eC2 eC3 eC4 eC5 (by omega) (by omega) (by omega) eC1 eC6
          have sd2 := tk_sum tk2 dC2 dC3 dC4 dC5 (by omega) (by omega) (by omega) dC1 dC6
          obtain ⟨tt, htt⟩ : ∃ tt, tt = orT (I (6 * i + 19) 11) (I (6 * j + 19) 11) := ⟨_, rfl⟩
          -- the garden
          obtain ⟨JA0, hJA0⟩ : ∃ JA0, JA0 = up2 (up2 (up2 (up2 I 0 4 (Int32.ofNat (nL + 1))) (6 * nL + 19) 0 2) (6 * nL + 19) 12 1) (6 * nL + 19) 11 tt := ⟨_, rfl⟩
          have fA0 : ∀ v, v ≠ 0 → v ≠ 6 * nL + 19 → JA0 v = I v := fun v y1 y2 => by rw [hJA0]; simp (disch := omega) only [up2_row]
          obtain ⟨JA, hJA⟩ : ∃ JA, JA = up2 (up2 (up2 JA0 (6 * nL + 21) 0 (ntV I i j u w 0)) (6 * nL + 21) 1 (ntV I i j u w 1)) (6 * nL + 21) 2 (ntV I i j u w 2) := ⟨_, rfl⟩
          have fA : ∀ v, v ≠ 6 * nL + 21 → JA v = JA0 v := fun v y1 => by rw [hJA]; simp (disch := omega) only [up2_row]
          have MXL := x_mixL (J := JA0) (τ := τ) (u := u) (w := w) h (show i < 17 by omega) (show j < 17 by omega) (show nL < 17 by omega) (by omega) (by omega) (fA0 _ (by omega) (by omega)) (fA0 _ (by omega) (by omega)) (fA0 _ (by omega) (by omega)) (fA0 _ (by omega) (by omega)) hz
          rw [← hJA] at MXL
          obtain ⟨JB, XB1, XB2, XB3, XB4, XB5, XB6⟩ := x_take (J := JA) (τ := τ) (a := nL) (b := i) (cn := u) (t := t1) h (by omega) (by omega) (by omega) (tk1.congr (fun k hk => by
            rw [fA _ (by omega), fA0 _ (by omega) (by omega)]
            rcases (show k = 0 ∨ k = 1 ∨ k = 2 ∨ k = 3 by omega) with rfl | rfl | rfl | rfl <;> assumption))
          obtain ⟨JC, XC1, XC2, XC3, XC4, XC5, XC6⟩ := x_take (J := JB) (τ := τ) (a := nL) (b := j) (cn := w) (t := t2) h (by omega) (by omega) (by omega) (tk2.congr (fun k hk => by
            rw [XB2 _ (by omega) (by omega) (by omega) (by omega), fA _ (by omega), fA0 _ (by omega) (by omega)]
            rcases (show k = 0 ∨ k = 1 ∨ k = 2 ∨ k = 3 by omega) with rfl | rfl | rfl | rfl <;> assumption))
          have fC : ∀ v, v ≠ 0 → v ≠ 6 * nL + 19 → v ≠ 6 * nL + 20 → v ≠ 6 * nL + 21 → v ≠ 6 * i + 19 → v ≠ 6 * i + 20 → v ≠ 6 * j + 19 → v ≠ 6 * j + 20 → JC v = I v := fun v y1 y2 y3 y4 y5 y6 y7 y8 => by rw [XC2 v y2 y3 y7 y8, XB2 v y2 y3 y5 y6, fA v y4, fA0 v y1 y2]
          obtain ⟨τ1, hτ1⟩ : ∃ τ1, τ1 = sJ τ (φ 132) 0 (Int32.ofNat nL).toInt64 := ⟨_, rfl⟩
          have z1 : mZ τ1 = mZ τ := by rw [hτ1]; rfl
          have j1 : mJ τ1 (φ 132) 0 = (Int32.ofNat nL).toInt64 := by rw [hτ1]; exact sJ_at
          have hl1 : live T φ (mZ τ1) := by rw [z1]; exact h.hl
          obtain ⟨J, hJd⟩ : ∃ J, J = up2 JC 124 0 0 := ⟨_, rfl⟩
          have JI : ∀ v, 125 ≤ v → J v = I v := fun v hv => by rw [hJd, up2_row (by omega), fC v (by omega) (by omega) (by omega) (by omega) (by omega) (by omega) (by omega) (by omega)]
          -- the reference
          obtain ⟨φ1, T1, I1, R1, τ2, N1, inj1, live1, Pg, Tg, Tg1, Tg3, Ig, Rg1, Rg12, Rg14, Ig1, Ig3, Rg3, aP, aT, aI, aR, zz1, jj1⟩ := m_newLotV (e0 := e0) (mi := mi) (I := J) (R := R) (10 * nL + 150) hj hl1
          obtain ⟨J1, hJ1⟩ : ∃ J1, J1 = up2 (up2 I1 (10 * nL + 150) 0 2) (10 * nL + 150) 11 tt := ⟨_, rfl⟩
          have f1 : ∀ v, v ≠ 10 * nL + 150 → J1 v = I1 v := fun v y => by rw [hJ1, up2_row y, up2_row y]
          obtain ⟨τ3, W3, T3, Z3, Y3, K3, z3⟩ := nA_ex (J := J1) (R := R1) (τ1 := τ2) (p := 3) (c := 3) (t := 0) (bd := 3) (Off.of live1 (Nat.le_refl _)) (by decide) rfl (by decide)
          obtain ⟨φ2, T2, J2, R2, τ4, eq2, inj2, live2, ph2, pT2, pI2, pR2, aP2, aT2, aI2, aR2, zz2, of2, jj2⟩ := take1 (I := J1) (R := up2 R1 (10 * nL + 150) 12 (some (mZ τ2))) (10 * nL + 152) inj1 live1 (Nat.le_refl _) T3 (by decide)
          have hm' := h.2.2.2.1
          have hr' := h.2.2.2.2
          have hx' := h.2.2.1
          obtain ⟨hm0, hm1, hm2, hm3, hm4, hm5, hm6, hm7, hm8, hm9, hm10, hm11, hm12, hm13, hm14, hm15, hm16, hm17, hm18, hm19, hm20, hm21, hm22, hm23, hm24, hm25, hm26, hm27, hm28, hm29, hm30, hm31, hm32, hm33, hm34, hm35, hm36, hm37, hm38, hm39, hm40, hm41, hm42, hm43, hm44⟩ := hm'
          -- the view now
          have vP : ∀ v, v < 10 * nL + 150 → φ2 v = φ v := fun v y => by rw [aP2 v (by omega), aP v (by omega) (by omega) (by omega)]
          have vT : ∀ v, v < 10 * nL + 150 → T2 v = T v := fun v y => by rw [aT2 v (by omega), aT v (by omega) (by omega) (by omega)]
          have vR : ∀ v, v < 10 * nL + 150 → R2 v = R v := fun v y => by rw [aR2 v (by omega), up2_row (by omega), aR v (by omega) (by omega) (by omega)]
          have vI : ∀ v, v < 10 * nL + 150 → J2 v = J v := fun v y => by rw [aI2 v (by omega), f1 v (by omega), aI v (by omega) (by omega) (by omega)]
          have vTg : T2 (10 * nL + 150) = (8, 0) := by rw [aT2 _ (by omega)]; exact Tg
          have vTg1 : T2 (10 * nL + 151) = (100, 4) := by rw [aT2 _ (by omega)]; exact Tg1
          have vTg3 : T2 (10 * nL + 153) = (2, 0) := by rw [aT2 _ (by omega)]; exact Tg3
          have vRg : ∀ k, k ≠ 12 → R2 (10 * nL + 150) k = R1 (10 * nL + 150) k := fun k y => by rw [aR2 _ (by omega), up2_k y]
          have vRg12 : R2 (10 * nL + 150) 12 = some (φ2 (10 * nL + 152)) := by rw [aR2 _ (by omega), up2_at, ph2]
          have vRg1 : R2 (10 * nL + 150) 1 = some (φ2 (10 * nL + 151)) := by rw [vRg 1 (by decide), aP2 _ (by omega)]; exact Rg1
          have vRg14 : R2 (10 * nL + 150) 14 = some (φ2 (10 * nL + 153)) := by rw [vRg 14 (by decide), aP2 _ (by omega)]; exact Rg14
          have nt : ∀ (l : Nat) (lL : l < nL) (hs : I (6 * l + 19) 0 ≠ 3) (J' : Nat → Nat → Int32) (k : Nat), (∀ v, v ≠ 10 * nL + 152 → J' v = J2 v) → k < 3 → f_X5_note (φ2 (10 * l + 150)) (Int32.ofNat k) (pt φ2 T2 J' R2 τ4) = some (NV I l k, pt φ2 T2 J' R2 τ4) := by
            intro l lL hs J' k hJ' hk
            have q0 : J' (10 * l + 150) = I (10 * l + 150) := by rw [hJ' _ (by omega), vI _ (by omega), JI _ (by omega)]
            have q1 : J' (10 * l + 151) = I (10 * l + 151) := by rw [hJ' _ (by omega), vI _ (by omega), JI _ (by omega)]
            have q2 : J' (10 * l + 152) = I (10 * l + 152) := by rw [hJ' _ (by omega), vI _ (by omega), JI _ (by omega)]
            refine m_noteV (b := 10 * l + 150) (m := mx l) (bb := bl l) (x := I (6 * l + 19)) (xn := I (6 * l + 21)) (xu := I (6 * l + 20)) (xa := I (6 * l + 22)) (xp := I (6 * l + 23)) (xt := I (6 * l + 24)) (n := n) inj2 ?_ ?_ ?_ ?_ ?_ ?_ hs hk
            · rw [vT _ (by omega)]; exact hm29 l lL
            · rw [vR _ (by omega), vP (10 * l + 150 + 1) (by omega)]; exact hm30 l lL
            · rw [vT _ (by omega)]; exact hm31 l lL
            · rw [vR _ (by omega), vP (10 * l + 150 + 2) (by omega)]; exact hm32 l lL
            · intro hm; rw [vT _ (by omega)]; exact hm33 l lL hm
            · show LotR _ _ _ _ _ _ (J' (10 * l + 150)) (J' (10 * l + 151)) (J' (10 * l + 152)) _ _ _
              rw [q0, q1, q2]; exact h.lr lL
          have MML := m_mixL (e0 := e0) (mi := mi) (J := J2) (τ := τ4) (a := 10 * i + 150) (b := 10 * j + 150) (g := 10 * nL + 150) (u := u) (w := w) (va := NV I i) (vb := NV I j) inj2 (by rw [vT _ (by omega)]; exact TM1) (by rw [vT _ (by omega)]; exact TM2) vTg vRg12 pT2 hz (nt i iL (by rw [a1]; decide)) (nt j jL (by rw [a3]; decide)) (φ 124)
          obtain ⟨J3, hJ3⟩ : ∃ J3, J3 = up2 (up2 (up2 J2 (10 * nL + 152) 0 (ntV I i j u w 0)) (10 * nL + 152) 1 (ntV I i j u w 1)) (10 * nL + 152) 2 (ntV I i j u w 2) := ⟨_, rfl⟩
          have f3 : ∀ v, v ≠ 10 * nL + 152 → J3 v = J2 v := fun v y => by rw [hJ3, up2_row y, up2_row y, up2_row y]
          have MML' : l_X8_mix_197 e0 mi 40 (φ 124) u w (some (φ2 (10 * i + 150))) (some (φ2 (10 * j + 150))) (some (φ2 (10 * nL + 150))) 0 (pt φ2 T2 J2 R2 τ4) = mmEnd e0 mi (φ 124) u w (some (φ2 (10 * i + 150))) (some (φ2 (10 * j + 150))) (some (φ2 (10 * nL + 150))) (pt φ2 T2 J3 R2 τ4) := by
            rw [hJ3]; exact MML
          have e3i : ∀ v, v < 10 * nL + 150 → 125 ≤ v → J3 v = I v := fun v y1 y2 => by rw [f3 v (by omega), vI v y1, JI v y2]
          have sd1' : (J3 (10 * i + 150 + 1) 0 - t1 0) + (J3 (10 * i + 150 + 1) 1 - t1 1) + (J3 (10 * i + 150 + 1) 2 - t1 2) + (J3 (10 * i + 150 + 1) 3 - t1 3) = I (6 * i + 19) 1 - u := by
            rw [e3i (10 * i + 150 + 1) (by omega) (by omega)]; exact sd1
          have li153 : I (10 * i + 153) 2 = 0 := by rw [hm36 i iL, b1n]; rfl
          have lj153 : I (10 * j + 153) 2 = 0 := by rw [hm36 j jL, b2n]; rfl
          obtain ⟨J4, R4, T45, T41, T42, T43, T44, T46⟩ := m_take (b := 10 * i + 150) (g := 10 * nL + 150) (J := J3) (τ := τ4) (cn := u) (t := t1) (d := I (6 * i + 19) 1 - u) inj2 (by rw [vT _ (by omega)]; exact TM1) (by rw [vR _ (by omega), vP (10 * i + 150 + 1) (by omega)]; exact hm30 i iL) (by rw [vT _ (by omega)]; exact hm31 i iL) vTg vRg1 vTg1 (by omega) (by rw [e3i (10 * i + 150 + 1) (by omega) (by omega)]; exact tk1) sd1' (fun J0 hJ0 => m_goV inj2 (by rw [vT _ (by omega)]; exact TM1) (by rw [vR _ (by omega), vP (10 * i + 150 + 1) (by omega)]; exact hm30 i iL) (by rw [vT _ (by omega)]; exact hm31 i iL) (by rw [vR _ (by omega), vP (10 * i + 150 + 3) (by omega)]; exact hm34 i iL) (by rw [vT _ (by omega)]; exact hm35 i iL) ⟨_, by rw [vR (10 * i + 150 + 3) (by omega)]; exact hm37 i iL⟩ (by rw [hJ0, e3i (10 * i + 150 + 3) (by omega) (by omega)]; exact li153))
          have e4j : ∀ v, v < 10 * nL + 150 → 125 ≤ v → v ≠ 10 * i + 150 → v ≠ 10 * i + 151 → v ≠ 10 * i + 153 → J4 v = I v := fun v y1 y2 y3 y4 y5 => by rw [T41 v y3 y4 y5 (by omega), e3i v y1 y2]
          have r4 : ∀ v, v < 10 * nL + 150 → v ≠ 10 * i + 154 → R4 v = R v := fun v y1 y2 => by rw [T42 v (by omega), vR v y1]
          have r4' : ∀ v, 10 * nL + 150 ≤ v → R4 v = R2 v := fun v y1 => T42 v (by omega)
          obtain ⟨J5, R5, T55, T51, T52, T53, T54, T56⟩ := m_take (b := 10 * j + 150) (g := 10 * nL + 150) (J := J4) (τ := τ4) (R1 := R4) (cn := w) (t := t2) (d := I (6 * j + 19) 1 - w) inj2 (by rw [vT _ (by omega)]; exact TM2) (by rw [r4 _ (by omega) (by omega), vP (10 * j + 150 + 1) (by omega)]; exact hm30 j jL) (by rw [vT _ (by omega)]; exact hm31 j jL) vTg (by rw [r4' _ (by omega)]; exact vRg1) vTg1 (by omega) (by rw [e4j (10 * j + 150 + 1) (by omega) (by omega) (by omega) (by omega) (by omega)]; exact tk2) (by rw [e4j (10 * j + 150 + 1) (by omega) (by omega) (by omega) (by omega) (by omega)]; exact sd2) (fun J0 hJ0 => m_goV inj2 (by rw [vT _ (by omega)]; exact TM2) (by rw [r4 _ (by omega) (by omega), vP (10 * j + 150 + 1) (by omega)]; exact hm30 j jL) (by rw [vT _ (by omega)]; exact hm31 j jL) (by rw [r4 _ (by omega) (by omega), vP (10 * j + 150 + 3) (by omega)]; exact hm34 j jL) (by rw [vT _ (by omega)]; exact hm35 j jL) ⟨_, by rw [r4 (10 * j + 150 + 3) (by omega) (by omega)]; exact hm37 j jL⟩ (by rw [hJ0, e4j (10 * j + 150 + 3) (by omega) (by omega) (by omega) (by omega) (by omega)]; exact lj153))
          have e5 : ∀ v, v < 10 * nL + 150 → v ≠ 10 * i + 150 → v ≠ 10 * i + 151 → v ≠ 10 * i + 153 → v ≠ 10 * j + 150 → v ≠ 10 * j + 151 → v ≠ 10 * j + 153 → J5 v = J v := fun v y1 y2 y3 y4 y5 y6 y7 => by rw [T51 v y5 y6 y7 (by omega), T41 v y2 y3 y4 (by omega), f3 v (by omega), vI v y1]
          have r5 : ∀ v, v < 10 * nL + 150 → v ≠ 10 * i + 154 → v ≠ 10 * j + 154 → R5 v = R v := fun v y1 y2 y3 => by rw [T52 v (by omega), r4 v y1 y2]
          have r5' : ∀ v, 10 * nL + 150 ≤ v → R5 v = R2 v := fun v y1 => by rw [T52 v (by omega), r4' v y1]
          have L := list_add (e0 := e0) (mi := mi) (l := 126) (w := 134) (s := nL) (c := cL) (u := 10 * nL + 150) (I := J5) (R := R5) (τ := τ4) inj2 (by rw [zz2, z3]; exact live2) (by rw [vT _ (by omega)]; exact hm6) (by decide) (by rw [e5 _ (by omega) (by omega) (by omega) (by omega) (by omega) (by omega) (by omega), JI _ (by omega)]; exact hm13) hm20 (by omega) hm21 (by
              have q0 : nL ≠ 0 := by omega
              have : cL ≠ 0 := by omega
              rw [r5 _ (by omega) (by omega) (by omega), hm15, if_neg q0, if_neg this, vP _ (by omega)]) (by
              intro hc; rw [vT _ (by omega)]; exact hm17 (by omega)) (by rw [vT _ (by omega)]; exact hm41) (by rw [vP _ (by omega)]; exact hm42) (by decide) (by omega) (by left; rw [vTg]) (fun k hk => ⟨10 * k + 150, by rw [r5 _ (by omega) (by omega) (by omega), hm28 k hk, vP _ (by omega)], by left; rw [vT _ (by omega), hm29 k hk]⟩)
          obtain ⟨φ3, T3', I3, R3, τ5, c3, LA, inj3, live3, ⟨c3a, c3b⟩, LT, LP, LI, LL2, LI2, LLR, LR2, LL1, LRk, LRs, Lz, Lj, Lnn⟩ := L
          have fP : ∀ v, v < 10 * nL + 150 → v ≠ 134 → φ3 v = φ v := fun v y1 y2 => by rw [(LP v y2).1, vP v y1]
          have fT : ∀ v, v < 10 * nL + 150 → v ≠ 134 → T3' v = T v := fun v y1 y2 => by rw [(LP v y2).2, vT v y1]
          have fR : ∀ v, v < 10 * nL + 150 → v ≠ 134 → v ≠ 126 → v ≠ 10 * i + 154 → v ≠ 10 * j + 154 → R3 v = R v := fun v y1 y2 y3 y4 y5 => by rw [LLR v y2 y3, r5 v y1 y4 y5]
          have fD : ∀ v, v < 10 * nL + 150 → v ≠ 134 → v ≠ 126 → v ≠ 10 * i + 150 → v ≠ 10 * i + 151 → v ≠ 10 * i + 153 → v ≠ 10 * j + 150 → v ≠ 10 * j + 151 → v ≠ 10 * j + 153 → I3 v = J v := fun v y1 y2 y3 y4 y5 y6 y7 y8 y9 => by rw [LI v y2 y3, e5 v y1 y4 y5 y6 y7 y8 y9]
          have fX : ∀ v, v < 124 → I3 v = JC v := fun v y => by rw [fD v (by omega) (by omega) (by omega) (by omega) (by omega) (by omega) (by omega) (by omega) (by omega), hJd, up2_row (by omega)]
          have fI : ∀ v, v < 10 * nL + 150 → v ≠ 134 → v ≠ 126 → v ≠ 10 * i + 150 → v ≠ 10 * i + 151 → v ≠ 10 * i + 153 → v ≠ 10 * j + 150 → v ≠ 10 * j + 151 → v ≠ 10 * j + 153 → v ≠ 124 → v ≠ 0 → v ≠ 6 * nL + 19 → v ≠ 6 * nL + 20 → v ≠ 6 * nL + 21 → v ≠ 6 * i + 19 → v ≠ 6 * i + 20 → v ≠ 6 * j + 19 → v ≠ 6 * j + 20 → I3 v = I v := fun v y1 y2 y3 y4 y5 y6 y7 y8 y9 y10 y11 y12 y13 y14 y15 y16 y17 y18 => by rw [fD v y1 y2 y3 y4 y5 y6 y7 y8 y9, hJd, up2_row y10, fC v y11 y12 y13 y14 y15 y16 y17 y18]
          have f124 : ∀ k, k ≠ 0 → I3 124 k = I 124 k := fun k y => by rw [fD _ (by omega) (by omega) (by omega) (by omega) (by omega) (by omega) (by omega) (by omega) (by omega), hJd, up2_k y, fC _ (by omega) (by omega) (by omega) (by omega) (by omega) (by omega) (by omega) (by omega)]
          have f124' : I3 124 0 = 0 := by rw [fD _ (by omega) (by omega) (by omega) (by omega) (by omega) (by omega) (by omega) (by omega) (by omega), hJd, up2_at]
          have i153 : I3 (10 * i + 153) 2 = 0 := by rw [LI _ (by omega) (by omega), T51 _ (by omega) (by omega) (by omega) (by omega)]; exact T44 (by rw [e3i (10 * i + 150 + 3) (by omega) (by omega)]; exact li153)
          have j153 : I3 (10 * j + 153) 2 = 0 := by rw [LI _ (by omega) (by omega)]; exact T54 (by rw [e4j (10 * j + 150 + 3) (by omega) (by omega) (by omega) (by omega) (by omega)]; exact lj153)
          have g0 : ∀ k, I3 (10 * nL + 150) k = J1 (10 * nL + 150) k := fun k => by rw [LI _ (by omega) (by omega), T51 _ (by omega) (by omega) (by omega) (by omega), T41 _ (by omega) (by omega) (by omega) (by omega), f3 _ (by omega), aI2 _ (by omega)]
          have g1 : ∀ k, k < 4 → I3 (10 * nL + 151) k = 0 + t1 k + t2 k := fun k hk => by
            rw [LI _ (by omega) (by omega)]
            have e1 : J5 (10 * nL + 151) k = J4 (10 * nL + 151) k + t2 k := T53 k hk
            have e2 : J4 (10 * nL + 151) k = J3 (10 * nL + 151) k + t1 k := T43 k hk
            rw [e1, e2, f3 _ (by omega), aI2 _ (by omega), f1 _ (by omega), Ig1]
          have g2 : ∀ k, k < 3 → I3 (10 * nL + 152) k = ntV I i j u w k := fun k hk => by
            rw [LI _ (by omega) (by omega), T51 _ (by omega) (by omega) (by omega) (by omega), T41 _ (by omega) (by omega) (by omega) (by omega), hJ3]
            rcases le2 hk with rfl | rfl | rfl <;> simp (disch := omega) only [up2_k, up2_at]
          have g3 : I3 (10 * nL + 153) 2 = 0 := by rw [LI _ (by omega) (by omega), T51 _ (by omega) (by omega) (by omega) (by omega), T41 _ (by omega) (by omega) (by omega) (by omega), f3 _ (by omega), aI2 _ (by omega), f1 _ (by omega)]; exact Ig3
          have i150 : ∀ k, I3 (10 * i + 150) k = J4 (10 * i + 150) k := fun k => by rw [LI _ (by omega) (by omega), T51 _ (by omega) (by omega) (by omega) (by omega)]
          have i151 : ∀ k, I3 (10 * i + 151) k = J4 (10 * i + 151) k := fun k => by rw [LI _ (by omega) (by omega), T51 _ (by omega) (by omega) (by omega) (by omega)]
          have j150 : ∀ k, I3 (10 * j + 150) k = J5 (10 * j + 150) k := fun k => by rw [LI _ (by omega) (by omega)]
          have j151 : ∀ k, I3 (10 * j + 151) k = J5 (10 * j + 151) k := fun k => by rw [LI _ (by omega) (by omega)]
          -- the two lots
          have x19 : ∀ k, I3 (6 * i + 19) k = JB (6 * i + 19) k := fun k => by rw [fX _ (by omega), XC2 _ (by omega) (by omega) (by omega) (by omega)]
          have x20 : ∀ k, I3 (6 * i + 20) k = JB (6 * i + 20) k := fun k => by rw [fX _ (by omega), XC2 _ (by omega) (by omega) (by omega) (by omega)]
          have y19 : ∀ k, I3 (6 * j + 19) k = JC (6 * j + 19) k := fun k => by rw [fX _ (by omega)]
          have y20 : ∀ k, I3 (6 * j + 20) k = JC (6 * j + 20) k := fun k => by rw [fX _ (by omega)]
          have JAi : JA (6 * i + 19) = I (6 * i + 19) := by rw [fA _ (by omega), fA0 _ (by omega) (by omega)]
          have JAi2 : JA (6 * i + 20) = I (6 * i + 20) := by rw [fA _ (by omega), fA0 _ (by omega) (by omega)]
          have JBj : JB (6 * j + 19) = I (6 * j + 19) := by rw [XB2 _ (by omega) (by omega) (by omega) (by omega), fA _ (by omega), fA0 _ (by omega) (by omega)]
          have JBj2 : JB (6 * j + 20) = I (6 * j + 20) := by rw [XB2 _ (by omega) (by omega) (by omega) (by omega), fA _ (by omega), fA0 _ (by omega) (by omega)]
          rw [JAi, JAi2] at XB6
          rw [JBj, JBj2] at XC6
          have J3i : J3 (10 * i + 150) = I (10 * i + 150) := e3i _ (by omega) (by omega)
          have J3i1 : J3 (10 * i + 150 + 1) = I (10 * i + 151) := e3i _ (by omega) (by omega)
          have J4j : J4 (10 * j + 150) = I (10 * j + 150) := e4j _ (by omega) (by omega) (by omega) (by omega) (by omega)
          have J4j1 : J4 (10 * j + 150 + 1) = I (10 * j + 151) := e4j _ (by omega) (by omega) (by omega) (by omega) (by omega)
          rw [J3i, J3i1] at T46
          rw [J4j, J4j1] at T56
          obtain ⟨LI', dI'⟩ := L1.less (x' := I3 (6 * i + 19)) (xu' := I3 (6 * i + 20)) (m' := I3 (10 * i + 150)) (mu' := I3 (10 * i + 151)) (cn := u) (t := t1) a1 r1z tk1 (by omega) uT2 dn1.2 (by simp only [x19, x20]; exact XB6) (by simp only [i150, i151]; exact T46)
          obtain ⟨LJ', dJ'⟩ := L2.less (x' := I3 (6 * j + 19)) (xu' := I3 (6 * j + 20)) (m' := I3 (10 * j + 150)) (mu' := I3 (10 * j + 151)) (cn := w) (t := t2) a3 r2z tk2 (by omega) wT2 dn2.2 (by simp only [y19, y20]; exact XC6) (by simp only [j150, j151]; exact T56)
          obtain ⟨⟨⟨k1, k2⟩, ⟨k3, k4, k5, k6, k7⟩, k8, k9, k10⟩, s1, s2, s3, s4, s5, s6⟩ := hr'
          obtain ⟨bl1, bl2, bl3, bl4, bl5, bl6⟩ := s2 nL (Nat.le_refl _) n16
          -- the new lot
          have gx : ∀ k, I3 (6 * nL + 19) k = JC (6 * nL + 19) k := fun k => by rw [fX _ (by omega)]
          have gx1 : I3 (6 * nL + 19) 1 = 0 + u + w := by rw [gx, XC3, XB3, fA _ (by omega), hJA0]; simp (disch := omega) only [up2_k, up2_row]; rw [bl1 1 (by decide)]; rfl
          have gxk : ∀ k, k ≠ 1 → k ≠ 0 → k ≠ 11 → k ≠ 12 → k < 13 → I3 (6 * nL + 19) k = if k = 9 then -1 else 0 := fun k y1 y2 y3 y4 y5 => by rw [gx, XC4 k y1, XB4 k y1, fA _ (by omega), hJA0]; simp (disch := omega) only [up2_k, up2_row]; exact bl1 k y5
          have gx0 : I3 (6 * nL + 19) 0 = 2 := by rw [gx, XC4 _ (by omega), XB4 _ (by omega), fA _ (by omega), hJA0]; simp (disch := omega) only [up2_k, up2_at]
          have gx11 : I3 (6 * nL + 19) 11 = tt := by rw [gx, XC4 _ (by omega), XB4 _ (by omega), fA _ (by omega), hJA0]; simp (disch := omega) only [up2_k, up2_at]
          have gx12 : I3 (6 * nL + 19) 12 = 1 := by rw [gx, XC4 _ (by omega), XB4 _ (by omega), fA _ (by omega), hJA0]; simp (disch := omega) only [up2_k, up2_at]
          have gu : ∀ k, k < 4 → I3 (6 * nL + 20) k = 0 + t1 k + t2 k := fun k hk => by rw [fX _ (by omega), XC5 k hk, XB5 k hk, fA _ (by omega), fA0 _ (by omega) (by omega), bl2 k hk]
          have gn : ∀ k, k < 3 → I3 (6 * nL + 21) k = ntV I i j u w k := fun k hk => by
            rw [fX _ (by omega), XC2 _ (by omega) (by omega) (by omega) (by omega), XB2 _ (by omega) (by omega) (by omega) (by omega), hJA]
            rcases le2 hk with rfl | rfl | rfl <;> simp (disch := omega) only [up2_k, up2_at]
          have mk0 : I3 (10 * nL + 150) 0 = 2 := by rw [g0, hJ1, up2_k (by decide), up2_at]
          have mk11 : I3 (10 * nL + 150) 11 = tt := by rw [g0, hJ1, up2_at]
          have mkk : ∀ k, k ≠ 0 → k ≠ 11 → I3 (10 * nL + 150) k = if k = 9 then -1 else 0 := fun k y1 y2 => by rw [g0, hJ1, up2_k y2, up2_k y1, Ig]
          have t01 : tt = 0 ∨ tt = 1 := by
            rw [htt, orT]; split
            · split
              · exact Or.inl rfl
              · exact Or.inr rfl
            · exact Or.inr rfl
          have tt12 : ∀ k, k < 4 → (0 + t1 k + t2 k).toInt = (t1 k).toInt + (t2 k).toInt := fun k hk => by
            have b1 := tb1 k hk
            have b2 := tb2 k hk
            rw [Int32.zero_add]
            exact tAdd (by omega) (by
              have : (I (10 * i + 151) k).toInt ≤ 5760 := by
                rcases (show k = 0 ∨ k = 1 ∨ k = 2 ∨ k = 3 by omega) with rfl | rfl | rfl | rfl <;> omega
              have : (I (10 * j + 151) k).toInt ≤ 5760 := by
                rcases (show k = 0 ∨ k = 1 ∨ k = 2 ∨ k = 3 by omega) with rfl | rfl | rfl | rfl <;> omega
              omega)
          have q0 := tt12 0 (by omega)
          have q1 := tt12 1 (by omega)
          have q2 := tt12 2 (by omega)
          have q3 := tt12 3 (by omega)
          have p0 := tb1 0 (by omega)
          have p1 := tb1 1 (by omega)
          have p2 := tb1 2 (by omega)
          have p3 := tb1 3 (by omega)
          have o0 := tb2 0 (by omega)
          have o1 := tb2 1 (by omega)
          have o2 := tb2 2 (by omega)
          have o3 := tb2 3 (by omega)
          have uwT : (0 + u + w).toInt = u.toInt + w.toInt := by rw [Int32.zero_add]; exact uw
          have s01 : (0 + t1 0 + t2 0 + (0 + t1 1 + t2 1)).toInt = (t1 0).toInt + (t2 0).toInt + ((t1 1).toInt + (t2 1).toInt) := by rw [tAdd (by omega) (by omega), q0, q1]
          have s012 : (0 + t1 0 + t2 0 + (0 + t1 1 + t2 1) + (0 + t1 2 + t2 2)).toInt = (t1 0).toInt + (t2 0).toInt + ((t1 1).toInt + (t2 1).toInt) + ((t1 2).toInt + (t2 2).toInt) := by rw [tAdd (by omega) (by omega), s01, q2]
          have sum4 : 0 + u + w = 0 + t1 0 + t2 0 + (0 + t1 1 + t2 1) + (0 + t1 2 + t2 2) + (0 + t1 3 + t2 3) := by
            refine Int32.toInt_inj.mp ?_
            rw [uwT, tAdd (by omega) (by omega), s012, q3]; omega
          have LN : LotR (I3 (6 * nL + 19)) (I3 (6 * nL + 20)) (I3 (6 * nL + 21)) (I3 (6 * nL + 22)) (I3 (6 * nL + 23)) (I3 (6 * nL + 24)) (I3 (10 * nL + 150)) (I3 (10 * nL + 151)) (I3 (10 * nL + 152)) 1 [] (n + 1) := by
            have h22 : I3 (6 * nL + 22) = I (6 * nL + 22) := by simp (disch := omega) only [fI]
            have h23 : I3 (6 * nL + 23) = I (6 * nL + 23) := by simp (disch := omega) only [fI]
            unfold LotR
            rw [gx0, gx1, gx11, gx12, gxk 2 (by decide) (by decide) (by decide) (by decide) (by decide), gxk 3 (by decide) (by decide) (by decide) (by decide) (by decide), gxk 4 (by decide) (by decide) (by decide) (by decide) (by decide), gxk 5 (by decide) (by decide) (by decide) (by decide) (by decide), gxk 6 (by decide) (by decide) (by decide) (by decide) (by decide), gxk 7 (by decide) (by decide) (by decide) (by decide) (by decide), gxk 8 (by decide) (by decide) (by decide) (by decide) (by decide), gxk 9 (by decide) (by decide) (by decide) (by decide) (by decide), gxk 10 (by decide) (by decide) (by decide) (by decide) (by decide)]
            rw [mk0, mk11, mkk 2 (by decide) (by decide), mkk 3 (by decide) (by decide), mkk 4 (by decide) (by decide), mkk 5 (by decide) (by decide), mkk 6 (by decide) (by decide), mkk 7 (by decide) (by decide), mkk 8 (by decide) (by decide), mkk 9 (by decide) (by decide), mkk 10 (by decide) (by decide), mkk 13 (by decide) (by decide)]
            rw [g1 0 (by omega), g1 1 (by omega), g1 2 (by omega), g1 3 (by omega), gu 0 (by omega), gu 1 (by omega), gu 2 (by omega), gu 3 (by omega), h22, bl4]
            refine ⟨⟨rfl, rfl, rfl, rfl, rfl, rfl, rfl, rfl, rfl, rfl, rfl, rfl, by decide⟩, ⟨rfl, rfl, rfl, rfl⟩, ⟨sum4, by rw [q0]; omega, by rw [q1]; omega, by rw [q2]; omega, by rw [q3]; omega, by rw [uwT, q0, q1, q2, q3]; omega⟩, ⟨Or.inr rfl, fun _ k hk => ?_⟩, ⟨by decide, t01, by decide⟩, ⟨fun y => absurd y (by decide), fun _ => by rw [uwT]; omega, fun y => absurd y (by decide)⟩, ⟨by decide, ?_⟩, ⟨by decide, by decide, fun y => absurd rfl y, fun y => absurd rfl y⟩, BidR.nil (by rw [bl5]; decide) (by rw [bl5, z0]; omega) (fun k hk => by rw [h23]; exact bl6 k hk)⟩
            · rw [gn k hk, g2 k hk]
              exact ⟨rfl, nt_b (NV_b h iL hk) (NV_b h jL hk) ⟨by omega, by omega⟩ ⟨by omega, by omega⟩⟩
            · show (0 : Int32).toInt ≤ _
              rw [z0]; omega
          have SMb : SM φ T (rowS (rowS I (10 * i + 153) (I3 (10 * i + 153))) (10 * j + 153) (I3 (10 * j + 153))) (rowS (rowS R (10 * i + 154) (R3 (10 * i + 154))) (10 * j + 154) (R3 (10 * j + 154))) e0 nS nL cS cL mx cB bl := by
            have e1 : rowS bl i [] = bl := by funext x; by_cases y : x = i <;> simp [rowS, y, b1n]
            have e2 : rowS bl j [] = bl := by funext x; by_cases y : x = j <;> simp [rowS, y, b2n]
            have M1 := SM.clr (I' := rowS I (10 * i + 153) (I3 (10 * i + 153))) (R' := rowS R (10 * i + 154) (R3 (10 * i + 154))) h.2.2.2.1 iL (fun v hv => by
              refine rowS_ne (fun y => ?_)
              rcases hv with rfl | rfl | ⟨i', k, y1, y2, y3, y4, y5⟩
              · omega
              · omega
              · exact y5 y) (by rw [rowS_hit]; exact i153) (fun v hv => rowS_ne hv)
            rw [e1] at M1
            have M2 := SM.clr (I' := rowS (rowS I (10 * i + 153) (I3 (10 * i + 153))) (10 * j + 153) (I3 (10 * j + 153))) (R' := rowS (rowS R (10 * i + 154) (R3 (10 * i + 154))) (10 * j + 154) (R3 (10 * j + 154))) M1 jL (fun v hv => by
              refine rowS_ne (fun y => ?_)
              rcases hv with rfl | rfl | ⟨i', k, y1, y2, y3, y4, y5⟩
              · omega
              · omega
              · exact y5 y) (by rw [rowS_hit]; exact j153) (fun v hv => rowS_ne hv)
            rw [e2] at M2
            exact M2
          have hCx : Cx φ3 T3' I3 R3 (mZ τ5) e0 nS (nL + 1) cS c3 (rowS mx nL 1) (rowS cB nL 0) (rowS bl nL []) (n + 1) := by
            refine ⟨inj3, live3, hx'.frame (fun v hv => fP v (by omega) (by omega)) (fun v hv => fT v (by omega) (by omega)) (fun v hv => fR v (by omega) (by omega) (by omega) (by omega) (by omega)), ?_, ?_⟩
            · refine SM.addL SMb n16 fP fT (fun v y1 y2 y3 => ?_) (fun v y1 y2 => ?_) c3a c3b LL2 LL1 LT ?_ ?_ ?_ ?_ ?_ ?_ (fun _ => ?_) ?_ ?_ ?_ ?_ ?_
              · by_cases y4 : v = 10 * j + 154
                · rw [y4, rowS_hit]
                · rw [rowS_ne y4]
                  by_cases y5 : v = 10 * i + 154
                  · rw [y5, rowS_hit]
                  · rw [rowS_ne y5]; exact fR v y1 y2 y3 y5 y4
              · by_cases y4 : v = 10 * j + 153
                · rw [y4, rowS_hit]
                · rw [rowS_ne y4]
                  by_cases y5 : v = 10 * i + 153
                  · rw [y5, rowS_hit]
                  · rw [rowS_ne y5]
                    rcases y2 with rfl | ⟨i', k, y6, y7, y8, rfl⟩ <;> exact fI _ (by omega) (by omega) (by omega) (by omega) (by omega) (by omega) (by omega) (by omega) (by omega) (by omega) (by omega) (by omega) (by omega) (by omega) (by omega) (by omega) (by omega) (by omega)
              · rw [LRs, (LP _ (by omega)).1]
              · intro k hk; rw [LRk k hk, r5 _ (by omega) (by omega) (by omega), rowS_ne (by omega), rowS_ne (by omega)]
              · rw [(LP _ (by omega)).2]; exact vTg
              · rw [LLR _ (by omega) (by omega), r5' _ (by omega), (LP (10 * nL + 151) (by omega)).1]; exact vRg1
              · rw [(LP _ (by omega)).2]; exact vTg1
              · rw [LLR _ (by omega) (by omega), r5' _ (by omega), (LP (10 * nL + 152) (by omega)).1, if_neg (by decide)]; exact vRg12
              · rw [(LP _ (by omega)).2]; exact pT2
              · rw [LLR _ (by omega) (by omega), r5' _ (by omega), (LP (10 * nL + 153) (by omega)).1]; exact vRg14
              · rw [(LP _ (by omega)).2]; exact vTg3
              · exact g3
              · rw [LLR _ (by omega) (by omega), r5' _ (by omega), aR2 _ (by omega), up2_row (by omega)]; exact Rg3
              · intro k y1 y2; exact Lnn k (by omega) y2 (fun y3 => by rw [r5 _ (by omega) (by omega) (by omega)]; exact hm44 k (by omega) y3)
            · refine ⟨⟨⟨?_, ?_⟩, ⟨?_, ?_, ?_, ?_, ?_⟩, ?_, ?_, ?_⟩, fun i' hi' => ?_, fun i' y1 y2 => ?_, fun i' hi' => ?_, fun i' y1 y2 => ?_, fun i' hi' => ?_, ?_⟩
              · rw [fX _ (by omega), XC2 _ (by omega) (by omega) (by omega) (by omega), XB2 _ (by omega) (by omega) (by omega) (by omega), fA _ (by omega), hJA0, up2_row (by omega), up2_row (by omega), up2_row (by omega), up2_k (by decide)]; exact k1
              · rw [fX _ (by omega), XC2 _ (by omega) (by omega) (by omega) (by omega), XB2 _ (by omega) (by omega) (by omega) (by omega), fA _ (by omega), hJA0, up2_row (by omega), up2_row (by omega), up2_row (by omega), up2_at]
              · rw [fX _ (by omega), XC2 _ (by omega) (by omega) (by omega) (by omega), XB2 _ (by omega) (by omega) (by omega) (by omega), fA _ (by omega), hJA0, up2_row (by omega), up2_row (by omega), up2_row (by omega), up2_k (by decide), f124 1 (by decide)]; exact k3
              · rw [fX _ (by omega), XC2 _ (by omega) (by omega) (by omega) (by omega), XB2 _ (by omega) (by omega) (by omega) (by omega), fA _ (by omega), hJA0, up2_row (by omega), up2_row (by omega), up2_row (by omega), up2_k (by decide), f124 2 (by decide)]; exact k4
              · rw [fX _ (by omega), XC2 _ (by omega) (by omega) (by omega) (by omega), XB2 _ (by omega) (by omega) (by omega) (by omega), fA _ (by omega), hJA0, up2_row (by omega), up2_row (by omega), up2_row (by omega), up2_k (by decide), f124 3 (by decide)]; exact k5
              · rw [fX _ (by omega), XC2 _ (by omega) (by omega) (by omega) (by omega), XB2 _ (by omega) (by omega) (by omega) (by omega), fA _ (by omega), hJA0, up2_row (by omega), up2_row (by omega), up2_row (by omega), up2_k (by decide), f124 4 (by decide)]; exact k6
              · rw [fX _ (by omega), XC2 _ (by omega) (by omega) (by omega) (by omega), XB2 _ (by omega) (by omega) (by omega) (by omega), fA _ (by omega), hJA0, up2_row (by omega), up2_row (by omega), up2_row (by omega), up2_k (by decide), f124 5 (by decide)]; exact k7
              · simp (disch := omega) only [fI]; exact k8
              · simp (disch := omega) only [fI]; exact k9
              · simp (disch := omega) only [fI]; exact k10
              · by_cases y : i' = nL
                · subst y; rw [rowS_hit, rowS_hit]; exact LN
                · have hi2 : i' < nL := by omega
                  rw [rowS_ne y, rowS_ne y]
                  by_cases yi : i' = i
                  · subst yi
                    have h21 : I3 (6 * i' + 21) = I (6 * i' + 21) := by simp (disch := omega) only [fI]
                    have h22 : I3 (6 * i' + 22) = I (6 * i' + 22) := by simp (disch := omega) only [fI]
                    have h23 : I3 (6 * i' + 23) = I (6 * i' + 23) := by simp (disch := omega) only [fI]
                    have h24 : I3 (6 * i' + 24) = I (6 * i' + 24) := by simp (disch := omega) only [fI]
                    have h152 : I3 (10 * i' + 152) = I (10 * i' + 152) := by simp (disch := omega) only [fI]
                    rw [h21, h22, h23, h24, h152, b1n]; exact LI'
                  · by_cases yj : i' = j
                    · subst yj
                      have h21 : I3 (6 * i' + 21) = I (6 * i' + 21) := by simp (disch := omega) only [fI]
                      have h22 : I3 (6 * i' + 22) = I (6 * i' + 22) := by simp (disch := omega) only [fI]
                      have h23 : I3 (6 * i' + 23) = I (6 * i' + 23) := by simp (disch := omega) only [fI]
                      have h24 : I3 (6 * i' + 24) = I (6 * i' + 24) := by simp (disch := omega) only [fI]
                      have h152 : I3 (10 * i' + 152) = I (10 * i' + 152) := by simp (disch := omega) only [fI]
                      rw [h21, h22, h23, h24, h152, b2n]; exact LJ'
                    · simp (disch := omega) only [fI]; exact (s1 i' hi2).mono (Nat.le_succ _)
              · simp (disch := omega) only [fI]; exact s2 i' (by omega) y2
              · simp (disch := omega) only [fI]; exact (s3 i' hi').mono (Nat.le_succ _)
              · simp (disch := omega) only [fI]; exact s4 i' y1 y2
              · simp (disch := omega) only [fI]; exact (s5 i' hi').mono (Nat.le_succ _)
              · unfold SumR
                rw [sumZ_succ]
                have s6' : sumZ (fun i => (I (6 * i + 19) 1).toInt) nL ≤ 360 * nL := s6
                have mv : sumZ (fun k => (I3 (6 * k + 19) 1).toInt) nL = sumZ (fun k => if k = i then (I (6 * i + 19) 1).toInt - u.toInt else if k = j then (I (6 * j + 19) 1).toInt - w.toInt else (I (6 * k + 19) 1).toInt) nL := sumZ_congr (fun k hk => by
                  by_cases y1 : k = i
                  · subst y1; simp only [if_true]; exact dI'
                  · by_cases y2 : k = j
                    · subst y2; simp only [if_neg y1, if_true]; exact dJ'
                    · simp only [if_neg y1, if_neg y2]; simp (disch := omega) only [fI])
                have le : sumZ (fun k => if k = i then (I (6 * i + 19) 1).toInt - u.toInt else if k = j then (I (6 * j + 19) 1).toInt - w.toInt else (I (6 * k + 19) 1).toInt) nL + (u.toInt + w.toInt) = sumZ (fun i => (I (6 * i + 19) 1).toInt) nL := by
                  rw [sumZ_at (f := fun k => if k = i then (I (6 * i + 19) 1).toInt - u.toInt else if k = j then (I (6 * j + 19) 1).toInt - w.toInt else (I (6 * k + 19) 1).toInt) iL, sumZ_at (f := fun k => if k = i then 0 else if k = i then (I (6 * i + 19) 1).toInt - u.toInt else if k = j then (I (6 * j + 19) 1).toInt - w.toInt else (I (6 * k + 19) 1).toInt) jL, sumZ_at (f := fun i => (I (6 * i + 19) 1).toInt) iL, sumZ_at (f := fun k => if k = i then 0 else (I (6 * k + 19) 1).toInt) jL]
                  rw [sumZ_congr (f := fun k => if k = j then 0 else if k = i then 0 else if k = i then (I (6 * i + 19) 1).toInt - u.toInt else if k = j then (I (6 * j + 19) 1).toInt - w.toInt else (I (6 * k + 19) 1).toInt) (g := fun k => if k = j then 0 else if k = i then 0 else (I (6 * k + 19) 1).toInt) (fun k hk => by
                    by_cases y1 : k = j
                    · simp only [y1, if_true]
                    · by_cases y2 : k = i
                      · simp only [if_neg y1, y2, if_true]
                      · simp only [if_neg y1, if_neg y2])]
                  simp only [if_neg (Ne.symm hne), if_true]
                  omega
                show _ + (I3 (6 * nL + 19) 1).toInt ≤ _
                rw [mv, gx1, uwT]
                omega
          have e132 : φ3 132 = φ 132 := fP 132 (by omega) (by omega)
          have e0' : φ3 0 = φ 0 := fP 0 (by omega) (by omega)
          have e124 : φ3 124 = φ 124 := fP 124 (by omega) (by omega)
          have G := Agr.fin (X := f_L_mix (some (φ 0)) p u q w (some (φ 132)) (pt φ T I R τ)) (M := fun σ => f_X8_mix e0 mi (φ 124) p u q w σ) (b := Int32.ofNat nL) (σ1 := pt φ T JC R τ1) hCx ?_ ?_ f124' ?_
          · rw [e132, e0', e124] at G; exact G
          · have sb : Int32.ofNat (nL + 1) - 1 = Int32.ofNat nL := by rw [← kN_s]; exact Int32.add_sub_cancel _ _
            obtain ⟨hx7', hx14', g2'⟩ : R 0 3 = some (φ 2) ∧ R 2 nL = some (φ (6 * nL + 19)) ∧ I 0 4 = Int32.ofNat nL := by
              obtain ⟨hj, hl, hx, hm, hr⟩ := h; obtain ⟨hx0, hx1, hx2, hx3, hx4, hx5, hx6, hx7, hx8, hx9, hx10, hx11, hx12, hx13, hx14, hx15, hx16, hx17, hx18, hx19, hx20, hx21, hx22, hx23, hx24, hx25, hx26, hx27⟩ := hx; obtain ⟨hm0, hm1, hm2, hm3, hm4, hm5, hm6, hm7, hm8, hm9, hm10, hm11, hm12, hm13, hm14, hm15, hm16, hm17, hm18, hm19, hm20, hm21, hm22, hm23, hm24, hm25, hm26, hm27, hm28, hm29, hm30, hm31, hm32, hm33, hm34, hm35, hm36, hm37, hm38, hm39, hm40, hm41, hm42, hm43, hm44⟩ := hm; obtain ⟨⟨⟨g1, g2⟩, ⟨g3, g4, g5, g6, g7⟩, g8, g9, g10⟩, r1, r2, r3, r4, r5, r6⟩ := hr
              exact ⟨hx2, hx14 nL n16, g2⟩
            have hx2t : T 2 = (102, 16) := by
              obtain ⟨hj, hl, hx, hm, hr⟩ := h; obtain ⟨hx0, hx1, hx2, hx3, hx4, hx5, hx6, hx7, hx8, hx9, hx10, hx11, hx12, hx13, hx14, hx15, hx16, hx17, hx18, hx19, hx20, hx21, hx22, hx23, hx24, hx25, hx26, hx27⟩ := hx; obtain ⟨hm0, hm1, hm2, hm3, hm4, hm5, hm6, hm7, hm8, hm9, hm10, hm11, hm12, hm13, hm14, hm15, hm16, hm17, hm18, hm19, hm20, hm21, hm22, hm23, hm24, hm25, hm26, hm27, hm28, hm29, hm30, hm31, hm32, hm33, hm34, hm35, hm36, hm37, hm38, hm39, hm40, hm41, hm42, hm43, hm44⟩ := hm; obtain ⟨⟨⟨g1, g2⟩, ⟨g3, g4, g5, g6, g7⟩, g8, g9, g10⟩, r1, r2, r3, r4, r5, r6⟩ := hr
              exact hx7
            have hgt : T (6 * nL + 19) = (4, 0) := h.t4 (by omega)
            have c1 : ¬ (16 : Int32) ≤ Int32.ofNat nL := by rw [show (16 : Int32) = Int32.ofNat 16 from rfl, kN_le (by omega) (by omega)]; omega
            have c2 := kN_nn (a := nL) (by omega)
            have c3 := tnK (k := nL) (by omega)
            have jc4 : JC 0 4 = Int32.ofNat (nL + 1) := by rw [XC2 _ (by omega) (by omega) (by omega) (by omega), XB2 _ (by omega) (by omega) (by omega) (by omega), fA _ (by omega), hJA0, up2_row (by omega), up2_row (by omega), up2_row (by omega), up2_at]
            have EX : l_X4_mix_134 40 (φ 0) u w (some (φ (6 * i + 19))) (some (φ (6 * j + 19))) (some (φ (6 * nL + 19))) (u + w) 0 (pt φ T JA0 R τ) = some (.inl (Int32.ofNat nL), pt φ T JC R τ) := by
              rw [MXL, mxEnd, ob_pt hj (by rw [hgt]), XB1, cl1_s, ob_pt hj (by rw [hgt]), XC1, cl1_s, gI_pt hj (by rw [hx0]), jc4]
              show some (Sum.inl (Int32.ofNat (nL + 1) - 1), _) = _
              rw [sb]
            have nu1 : ¬ u < 1 := Int32.not_lt.mpr u1
            have nu2 : ¬ I (6 * i + 19) 1 < u := Int32.not_lt.mpr u2
            have nw1 : ¬ w < 1 := Int32.not_lt.mpr w1
            have nw2 : ¬ I (6 * j + 19) 1 < w := Int32.not_lt.mpr w2
            have d1 : 6 * i + 19 ≠ 6 * nL + 19 := by omega
            have d2 : 6 * j + 19 ≠ 6 * nL + 19 := by omega
            have d3 : 6 * i + 19 ≠ 0 := by omega
            have d4 : 6 * j + 19 ≠ 0 := by omega
            rw [hJA0] at EX
            by_cases y1 : I (6 * i + 19) 11 = 0
            · by_cases y2 : I (6 * j + 19) 11 = 0
              · have ot : tt = 0 := by rw [htt, orT, if_pos y1, if_pos y2]
                rw [ot] at EX
                simp (config := {decide := true}) only [f_L_mix, b_L_mix_0, f_X4_mix, b_X4_mix_0, b_X4_mix_46, b_X4_mix_78, b_X4_mix_117, b_X4_mix_122, A, B, x_dif _ hd, F1, F2, x_st1, b_X4_newLot_14, b_X4_newLot_0, f_X4_newLot, TX1, TX2, hgt, hx7', hx2t, hx14', g2', c1, c2, c3, n16, nu1, nu2, nw1, nw2, kN_s, up2_row d1, up2_row d2, up2_row d3, up2_row d4, y1, y2, EX, gI_pt hj, gR_pt hj, ob_pt hj, ck_pt hj, pI_pt hj, pB_pt hj, pR_pt hj, aI_pt hj, aR_pt hj, wI_pt hj, wJ_pt hj, aL_pt hj, cl1_s, cl1_n, cl1_i, cx1_s, cx1_x, cx1_n, cx1_i, nul_n, nul_s, nm, dv2, dv3, dv4, dv5, dv8, dv10, dv20, dv40, thr, bo, mI_pt hj, mT_pt hj, sB_pt, mZ_pt, mJ_pt, mJ_sJ, mZ_sJ, tn0, tn1, tn2, tn3, tn4, tn5, tn6, hx0, h132, ii0, ii1, ii2, ii3, ii4, if_true, if_false, ne_eq, not_false_eq_true, not_true_eq_false, true_and, and_true, false_and, and_false, and_self, true_or, or_true, false_or, or_false, or_self, Nat.reduceAdd, Nat.reduceLT, Nat.reduceLeDiff, Nat.succ_ne_zero, reduceIte, reduceCtorEq]
                rw [hτ1]
              · have ot : tt = 1 := by rw [htt, orT, if_pos y1, if_neg y2]
                rw [ot] at EX
                simp (config := {decide := true}) only [f_L_mix, b_L_mix_0, f_X4_mix, b_X4_mix_0, b_X4_mix_46, b_X4_mix_78, b_X4_mix_117, b_X4_mix_122, A, B, x_dif _ hd, F1, F2, x_st1, b_X4_newLot_14, b_X4_newLot_0, f_X4_newLot, TX1, TX2, hgt, hx7', hx2t, hx14', g2', c1, c2, c3, n16, nu1, nu2, nw1, nw2, kN_s, up2_row d1, up2_row d2, up2_row d3, up2_row d4, y1, y2, EX, gI_pt hj, gR_pt hj, ob_pt hj, ck_pt hj, pI_pt hj, pB_pt hj, pR_pt hj, aI_pt hj, aR_pt hj, wI_pt hj, wJ_pt hj, aL_pt hj, cl1_s, cl1_n, cl1_i, cx1_s, cx1_x, cx1_n, cx1_i, nul_n, nul_s, nm, dv2, dv3, dv4, dv5, dv8, dv10, dv20, dv40, thr, bo, mI_pt hj, mT_pt hj, sB_pt, mZ_pt, mJ_pt, mJ_sJ, mZ_sJ, tn0, tn1, tn2, tn3, tn4, tn5, tn6, hx0, h132, ii0, ii1, ii2, ii3, ii4, if_true, if_false, ne_eq, not_false_eq_true, not_true_eq_false, true_and, and_true, false_and, and_false, and_self, true_or, or_true, false_or, or_false, or_self, Nat.reduceAdd, Nat.reduceLT, Nat.reduceLeDiff, Nat.succ_ne_zero, reduceIte, reduceCtorEq]
                rw [hτ1]
            · have ot : tt = 1 := by rw [htt, orT, if_neg y1]
              rw [ot] at EX
              simp (config := {decide := true}) only [f_L_mix, b_L_mix_0, f_X4_mix, b_X4_mix_0, b_X4_mix_46, b_X4_mix_78, b_X4_mix_117, b_X4_mix_122, A, B, x_dif _ hd, F1, F2, x_st1, b_X4_newLot_14, b_X4_newLot_0, f_X4_newLot, TX1, TX2, hgt, hx7', hx2t, hx14', g2', c1, c2, c3, n16, nu1, nu2, nw1, nw2, kN_s, up2_row d1, up2_row d2, up2_row d3, up2_row d4, y1, EX, gI_pt hj, gR_pt hj, ob_pt hj, ck_pt hj, pI_pt hj, pB_pt hj, pR_pt hj, aI_pt hj, aR_pt hj, wI_pt hj, wJ_pt hj, aL_pt hj, cl1_s, cl1_n, cl1_i, cx1_s, cx1_x, cx1_n, cx1_i, nul_n, nul_s, nm, dv2, dv3, dv4, dv5, dv8, dv10, dv20, dv40, thr, bo, mI_pt hj, mT_pt hj, sB_pt, mZ_pt, mJ_pt, mJ_sJ, mZ_sJ, tn0, tn1, tn2, tn3, tn4, tn5, tn6, hx0, h132, ii0, ii1, ii2, ii3, ii4, if_true, if_false, ne_eq, not_false_eq_true, not_true_eq_false, true_and, and_true, false_and, and_false, and_self, true_or, or_true, false_or, or_false, or_self, Nat.reduceAdd, Nat.reduceLT, Nat.reduceLeDiff, Nat.succ_ne_zero, reduceIte, reduceCtorEq]
              rw [hτ1]
          · have JC' : ∀ v, 125 ≤ v → up2 JC 124 0 0 v = I v := fun v hv => by rw [← hJd]; exact JI v hv
            have NL1 := m_noLotJ (J := JC) (τ := τ1) h (fC 126 (by omega) (by omega) (by omega) (by omega) (by omega) (by omega) (by omega) (by omega)) hp
            have NL2 := m_noLotJ (J := JC) (τ := τ1) h (fC 126 (by omega) (by omega) (by omega) (by omega) (by omega) (by omega) (by omega) (by omega)) hq
            have G1 := m_getJ (J := up2 JC 124 0 0) (τ := τ1) h (JC' 126 (by omega)) hp hi
            have G2 := m_getJ (J := up2 JC 124 0 0) (τ := τ1) h (JC' 126 (by omega)) hq hj'
            have h1' : Cx φ T I R (mZ τ1) e0 nS nL cS cL mx cB bl n := by rw [z1]; exact h
            have CM1 : f_X8_canMix (φ 124) p (pt φ T (up2 JC 124 0 0) R τ1) = some (1, pt φ T (up2 JC 124 0 0) R τ1) := by
              rcases m_canMix (J := up2 JC 124 0 0) (τ := τ1) h1' JC' hp hi with ⟨-, -, y⟩ | ⟨y, -⟩
              · exact y
              · exact absurd ⟨a1, a2⟩ y
            have CM2 : f_X8_canMix (φ 124) q (pt φ T (up2 JC 124 0 0) R τ1) = some (1, pt φ T (up2 JC 124 0 0) R τ1) := by
              rcases m_canMix (J := up2 JC 124 0 0) (τ := τ1) h1' JC' hq hj' with ⟨-, -, y⟩ | ⟨y, -⟩
              · exact y
              · exact absurd ⟨a3, a4⟩ y
            have DR1 := m_dryJ (J := up2 JC 124 0 0) (τ := τ1) h iL (JC' _ (by omega))
            have DR2 := m_dryJ (J := up2 JC 124 0 0) (τ := τ1) h jL (JC' _ (by omega))
            have S2' : up2 JC 124 0 0 126 2 = Int32.ofNat nL := by rw [JC' 126 (by omega)]; exact S2
            have c1 : ¬ Int32.ofNat nL = 16 := by rw [show (16 : Int32) = Int32.ofNat 16 from rfl, kN_eq (by omega) (by omega)]; omega
            rw [hJd] at N1
            have ZZ : ∀ (K : Mem → Option Nat → Option (Int32 × Mem)), nO 7 (pt φ T (up2 JC 124 0 0) R τ1) K = K (pt φ T (up2 JC 124 0 0) R (sN τ1 (8, 0))) (some (mZ τ1)) := fun K => by
              rw [nO_off (Off.of hl1 (Nat.le_refl _))]
            have OB8 : ∀ (K : Nat → Option (Int32 × Mem)), ob 7 (pt φ T (up2 JC 124 0 0) R (sN τ1 (8, 0))) (some (mZ τ1)) K = K (mZ τ1) := fun K => by
              rw [ob_off (Off.of hl1 (Nat.le_refl _)) (by rw [mT_sN_at])]
            -- in the new view
            have p124 : φ1 124 = φ 124 := aP 124 (by omega) (by omega) (by omega)
            have pi1 : φ1 (10 * i + 150) = φ (10 * i + 150) := aP _ (by omega) (by omega) (by omega)
            have pj1 : φ1 (10 * j + 150) = φ (10 * j + 150) := aP _ (by omega) (by omega) (by omega)
            have q124 : φ2 124 = φ 124 := vP 124 (by omega)
            have qi1 : φ2 (10 * i + 150) = φ (10 * i + 150) := vP _ (by omega)
            have qj1 : φ2 (10 * j + 150) = φ (10 * j + 150) := vP _ (by omega)
            have qg : φ2 (10 * nL + 150) = mZ τ1 := by rw [aP2 _ (by omega), Pg]
            have q126 : φ2 126 = φ 126 := vP 126 (by omega)
            have tg1' : (T1 (10 * nL + 150)).1 = 7 + 1 := by rw [Tg]
            have ti1 : (T1 (10 * i + 150)).1 = 7 + 1 := by rw [aT _ (by omega) (by omega) (by omega), TM1]
            have tj1 : (T1 (10 * j + 150)).1 = 7 + 1 := by rw [aT _ (by omega) (by omega) (by omega), TM2]
            have PU0 : ∀ (K : Mem → Option (Int32 × Mem)), pI 7 0 (pt φ1 T1 I1 R1 τ2) (some (mZ τ1)) 2 K = K (pt φ1 T1 (up2 I1 (10 * nL + 150) 0 2) R1 τ2) := fun K => by
              rw [← Pg, pI_pt inj1 tg1']
            have GI1 : ∀ (K : Int32 → Option (Int32 × Mem)), gI 7 11 (pt φ1 T1 (up2 I1 (10 * nL + 150) 0 2) R1 τ2) (some (φ (10 * i + 150))) K = K (I (6 * i + 19) 11) := fun K => by
              rw [← pi1, gI_pt inj1 ti1, up2_row (by omega), aI _ (by omega) (by omega) (by omega), JI _ (by omega), ← E11]
            have GJ1 : ∀ (K : Int32 → Option (Int32 × Mem)), gI 7 11 (pt φ1 T1 (up2 I1 (10 * nL + 150) 0 2) R1 τ2) (some (φ (10 * j + 150))) K = K (I (6 * j + 19) 11) := fun K => by
              rw [← pj1, gI_pt inj1 tj1, up2_row (by omega), aI _ (by omega) (by omega) (by omega), JI _ (by omega), ← D11]
            have END : mmEnd e0 mi (φ 124) u w (some (φ2 (10 * i + 150))) (some (φ2 (10 * j + 150))) (some (φ2 (10 * nL + 150))) (pt φ2 T2 J3 R2 τ4) = some (Int32.ofNat nL, pt φ3 T3' I3 R3 τ5) := by
              have v1 : (T2 124).1 = 10 + 1 := by rw [vT _ (by omega), h0]
              have v2 : (T2 126).1 = 1 + 1 := by rw [vT _ (by omega), h6]
              have w1 : (T3' 124).1 = 10 + 1 := by rw [fT 124 (by omega) (by omega), h0]
              have w2 : (T3' 126).1 = 1 + 1 := by rw [fT 126 (by omega) (by omega), h6]
              have sb : Int32.ofNat (nL + 1) - 1 = Int32.ofNat nL := by rw [← kN_s]; exact Int32.add_sub_cancel _ _
              have e126 : φ3 126 = φ 126 := fP 126 (by omega) (by omega)
              rw [mmEnd, T45, cl1_s, T55, cl1_s, ← q124, gR_pt inj2 v1, r5 124 (by omega) (by omega) (by omega), h7, ← q126, ob_pt inj2 v2, LA, cl1_s, q124, ← e124, gR_pt inj3 w1, fR 124 (by omega) (by omega) (by omega) (by omega) (by omega), h7, ← e126, ob_pt inj3 w2, f_Jx4a65c_size_8abf5, b_Jx4a65c_size_8abf5_0, gI_pt inj3 w2, LL2, cl1_s]
              show some (Int32.ofNat (nL + 1) - 1, _) = _
              rw [sb]
            have MID : ∀ (y : Int32), y = tt → b_X8_mix_183 e0 mi (φ 124) u w (some (φ (10 * i + 150))) (some (φ (10 * j + 150))) (some (mZ τ1)) y (some (mZ τ1)) (pt φ1 T1 (up2 I1 (10 * nL + 150) 0 2) R1 τ2) = some (Int32.ofNat nL, pt φ3 T3' I3 R3 τ5) := by
              intro y hy
              subst hy
              rw [b_X8_mix_183, ← Pg, pB_pt inj1 tg1' t01, ← hJ1, W3, pR_pt inj1 tg1', eq2, Pg, ← qg, ← qi1, ← qj1, MML', END]
            by_cases y1 : I (6 * i + 19) 11 = 0
            · by_cases y2 : I (6 * j + 19) 11 = 0
              · have M0 := MID 0 (by rw [htt, orT, if_pos y1, if_pos y2])
                simp (config := {decide := true}) only [f_X8_mix, b_X8_mix_0, b_X8_mix_22, b_X8_mix_40, b_X8_mix_136, b_X8_mix_178, NL1, NL2, m_start0 hj h0, m_ref0 hj h0, hd, G1, G2, CM1, CM2, DR1, DR2, m_isIn _ u1 u2, m_isIn _ w1 w2, b_Jx4a65c_size_8abf5_0, f_Jx4a65c_size_8abf5, S2', c1, ZZ, OB8, N1, PU0, GI1, GJ1, y1, y2, M0, gI_pt hj, gR_pt hj, ob_pt hj, ck_pt hj, pI_pt hj, pB_pt hj, pR_pt hj, aI_pt hj, aR_pt hj, wI_pt hj, wJ_pt hj, aL_pt hj, cl1_s, cl1_n, cl1_i, cx1_s, cx1_x, cx1_n, cx1_i, nul_n, nul_s, nm, dv2, dv3, dv4, dv5, dv8, dv10, dv20, dv40, thr, bo, mI_pt hj, mT_pt hj, sB_pt, mZ_pt, mJ_pt, mJ_sJ, mZ_sJ, tn0, tn1, tn2, tn3, tn4, tn5, tn6, h0, h7, h6, TM1, TM2, ii0, ii1, ii2, ii3, ii4, if_true, if_false, ne_eq, not_false_eq_true, not_true_eq_false, true_and, and_true, false_and, and_false, and_self, true_or, or_true, false_or, or_false, or_self, Nat.reduceAdd, Nat.reduceLT, Nat.reduceLeDiff, Nat.succ_ne_zero, reduceIte, reduceCtorEq]
              · have M0 := MID 1 (by rw [htt, orT, if_pos y1, if_neg y2])
                simp (config := {decide := true}) only [f_X8_mix, b_X8_mix_0, b_X8_mix_22, b_X8_mix_40, b_X8_mix_136, b_X8_mix_178, NL1, NL2, m_start0 hj h0, m_ref0 hj h0, hd, G1, G2, CM1, CM2, DR1, DR2, m_isIn _ u1 u2, m_isIn _ w1 w2, b_Jx4a65c_size_8abf5_0, f_Jx4a65c_size_8abf5, S2', c1, ZZ, OB8, N1, PU0, GI1, GJ1, y1, y2, M0, gI_pt hj, gR_pt hj, ob_pt hj, ck_pt hj, pI_pt hj, pB_pt hj, pR_pt hj, aI_pt hj, aR_pt hj, wI_pt hj, wJ_pt hj, aL_pt hj, cl1_s, cl1_n, cl1_i, cx1_s, cx1_x, cx1_n, cx1_i, nul_n, nul_s, nm, dv2, dv3, dv4, dv5, dv8, dv10, dv20, dv40, thr, bo, mI_pt hj, mT_pt hj, sB_pt, mZ_pt, mJ_pt, mJ_sJ, mZ_sJ, tn0, tn1, tn2, tn3, tn4, tn5, tn6, h0, h7, h6, TM1, TM2, ii0, ii1, ii2, ii3, ii4, if_true, if_false, ne_eq, not_false_eq_true, not_true_eq_false, true_and, and_true, false_and, and_false, and_self, true_or, or_true, false_or, or_false, or_self, Nat.reduceAdd, Nat.reduceLT, Nat.reduceLeDiff, Nat.succ_ne_zero, reduceIte, reduceCtorEq]
            · have M0 := MID 1 (by rw [htt, orT, if_neg y1])
              simp (config := {decide := true}) only [f_X8_mix, b_X8_mix_0, b_X8_mix_22, b_X8_mix_40, b_X8_mix_136, b_X8_mix_178, NL1, NL2, m_start0 hj h0, m_ref0 hj h0, hd, G1, G2, CM1, CM2, DR1, DR2, m_isIn _ u1 u2, m_isIn _ w1 w2, b_Jx4a65c_size_8abf5_0, f_Jx4a65c_size_8abf5, S2', c1, ZZ, OB8, N1, PU0, GI1, GJ1, y1, M0, gI_pt hj, gR_pt hj, ob_pt hj, ck_pt hj, pI_pt hj, pB_pt hj, pR_pt hj, aI_pt hj, aR_pt hj, wI_pt hj, wJ_pt hj, aL_pt hj, cl1_s, cl1_n, cl1_i, cx1_s, cx1_x, cx1_n, cx1_i, nul_n, nul_s, nm, dv2, dv3, dv4, dv5, dv8, dv10, dv20, dv40, thr, bo, mI_pt hj, mT_pt hj, sB_pt, mZ_pt, mJ_pt, mJ_sJ, mZ_sJ, tn0, tn1, tn2, tn3, tn4, tn5, tn6, h0, h7, h6, TM1, TM2, ii0, ii1, ii2, ii3, ii4, if_true, if_false, ne_eq, not_false_eq_true, not_true_eq_false, true_and, and_true, false_and, and_false, and_self, true_or, or_true, false_or, or_false, or_self, Nat.reduceAdd, Nat.reduceLT, Nat.reduceLeDiff, Nat.succ_ne_zero, reduceIte, reduceCtorEq]
          · rw [e132, Lj _ (by have := h.out; omega), jj2, (K3.2 _ (by have := h.out; omega)).2.2.1, jj1 _ (by rw [z1]; exact h.out)]; exact j1
        · -- it cannot be
          refine Agr.bad (k := 3) (b := 0) h (by decide) ?_ ?_
          · have g2' : I 0 4 = Int32.ofNat nL := h.2.2.2.2.1.1.2
            rcases XF1 with ⟨f1, f2, f3⟩ | ⟨f1, f3⟩
            · by_cases u1 : u < 1
              · simp (config := {decide := true}) only [f_L_mix, b_L_mix_0, f_X4_mix, b_X4_mix_0, b_X4_mix_45, b_X4_mix_46, A, B, x_dif _ hd, x_st0, f3, u1, TX1, TX2, gI_pt hj, gR_pt hj, ob_pt hj, ck_pt hj, pI_pt hj, pB_pt hj, pR_pt hj, aI_pt hj, aR_pt hj, wI_pt hj, wJ_pt hj, aL_pt hj, cl1_s, cl1_n, cl1_i, cx1_s, cx1_x, cx1_n, cx1_i, nul_n, nul_s, nm, dv2, dv3, dv4, dv5, dv8, dv10, dv20, dv40, thr, bo, mI_pt hj, mT_pt hj, sB_pt, mZ_pt, mJ_pt, mJ_sJ, mZ_sJ, tn0, tn1, tn2, tn3, tn4, tn5, tn6, hx0, ii0, ii1, ii2, ii3, ii4, if_true, if_false, ne_eq, not_false_eq_true, not_true_eq_false, true_and, and_true, false_and, and_false, and_self, true_or, or_true, false_or, or_false, or_self, Nat.reduceAdd, Nat.reduceLT, Nat.reduceLeDiff, Nat.succ_ne_zero, reduceIte, reduceCtorEq]
              · by_cases u2 : I (6 * i + 19) 1 < u
                · simp (config := {decide := true}) only [f_L_mix, b_L_mix_0, f_X4_mix, b_X4_mix_0, b_X4_mix_45, b_X4_mix_46, A, B, x_dif _ hd, x_st0, f3, u1, u2, TX1, TX2, gI_pt hj, gR_pt hj, ob_pt hj, ck_pt hj, pI_pt hj, pB_pt hj, pR_pt hj, aI_pt hj, aR_pt hj, wI_pt hj, wJ_pt hj, aL_pt hj, cl1_s, cl1_n, cl1_i, cx1_s, cx1_x, cx1_n, cx1_i, nul_n, nul_s, nm, dv2, dv3, dv4, dv5, dv8, dv10, dv20, dv40, thr, bo, mI_pt hj, mT_pt hj, sB_pt, mZ_pt, mJ_pt, mJ_sJ, mZ_sJ, tn0, tn1, tn2, tn3, tn4, tn5, tn6, hx0, ii0, ii1, ii2, ii3, ii4, if_true, if_false, ne_eq, not_false_eq_true, not_true_eq_false, true_and, and_true, false_and, and_false, and_self, true_or, or_true, false_or, or_false, or_self, Nat.reduceAdd, Nat.reduceLT, Nat.reduceLeDiff, Nat.succ_ne_zero, reduceIte, reduceCtorEq]
                · rcases XF2 with ⟨e1, e2, e3⟩ | ⟨e1, e3⟩
                  · by_cases w1 : w < 1
                    · simp (config := {decide := true}) only [f_L_mix, b_L_mix_0, f_X4_mix, b_X4_mix_0, b_X4_mix_46, b_X4_mix_77, b_X4_mix_78, A, B, x_dif _ hd, x_st0, x_st1, f3, e3, u1, u2, w1, TX1, TX2, gI_pt hj, gR_pt hj, ob_pt hj, ck_pt hj, pI_pt hj, pB_pt hj, pR_pt hj, aI_pt hj, aR_pt hj, wI_pt hj, wJ_pt hj, aL_pt hj, cl1_s, cl1_n, cl1_i, cx1_s, cx1_x, cx1_n, cx1_i, nul_n, nul_s, nm, dv2, dv3, dv4, dv5, dv8, dv10, dv20, dv40, thr, bo, mI_pt hj, mT_pt hj, sB_pt, mZ_pt, mJ_pt, mJ_sJ, mZ_sJ, tn0, tn1, tn2, tn3, tn4, tn5, tn6, hx0, ii0, ii1, ii2, ii3, ii4, if_true, if_false, ne_eq, not_false_eq_true, not_true_eq_false, true_and, and_true, false_and, and_false, and_self, true_or, or_true, false_or, or_false, or_self, Nat.reduceAdd, Nat.reduceLT, Nat.reduceLeDiff, Nat.succ_ne_zero, reduceIte, reduceCtorEq]
                    · by_cases w2 : I (6 * j + 19) 1 < w
                      · simp (config := {decide := true}) only [f_L_mix, b_L_mix_0, f_X4_mix, b_X4_mix_0, b_X4_mix_46, b_X4_mix_77, b_X4_mix_78, A, B, x_dif _ hd, x_st0, x_st1, f3, e3, u1, u2, w1, w2, TX1, TX2, gI_pt hj, gR_pt hj, ob_pt hj, ck_pt hj, pI_pt hj, pB_pt hj, pR_pt hj, aI_pt hj, aR_pt hj, wI_pt hj, wJ_pt hj, aL_pt hj, cl1_s, cl1_n, cl1_i, cx1_s, cx1_x, cx1_n, cx1_i, nul_n, nul_s, nm, dv2, dv3, dv4, dv5, dv8, dv10, dv20, dv40, thr, bo, mI_pt hj, mT_pt hj, sB_pt, mZ_pt, mJ_pt, mJ_sJ, mZ_sJ, tn0, tn1, tn2, tn3, tn4, tn5, tn6, hx0, ii0, ii1, ii2, ii3, ii4, if_true, if_false, ne_eq, not_false_eq_true, not_true_eq_false, true_and, and_true, false_and, and_false, and_self, true_or, or_true, false_or, or_false, or_self, Nat.reduceAdd, Nat.reduceLT, Nat.reduceLeDiff, Nat.succ_ne_zero, reduceIte, reduceCtorEq]
                      · have n16 : nL = 16 := by
                          have : ¬ nL < 16 := fun y => hc ⟨⟨f1, f2⟩, ⟨Int32.not_lt.mp u1, Int32.not_lt.mp u2⟩, ⟨e1, e2⟩, ⟨Int32.not_lt.mp w1, Int32.not_lt.mp w2⟩, y⟩
                          omega
                        have c1 : (16 : Int32) ≤ I 0 4 := by rw [g2', n16]; decide
                        simp (config := {decide := true}) only [f_L_mix, b_L_mix_0, f_X4_mix, b_X4_mix_0, b_X4_mix_46, b_X4_mix_77, b_X4_mix_78, b_X4_newLot_14, b_X4_newLot_0, f_X4_newLot, A, B, x_dif _ hd, x_st0, x_st1, f3, e3, u1, u2, w1, w2, c1, TX1, TX2, gI_pt hj, gR_pt hj, ob_pt hj, ck_pt hj, pI_pt hj, pB_pt hj, pR_pt hj, aI_pt hj, aR_pt hj, wI_pt hj, wJ_pt hj, aL_pt hj, cl1_s, cl1_n, cl1_i, cx1_s, cx1_x, cx1_n, cx1_i, nul_n, nul_s, nm, dv2, dv3, dv4, dv5, dv8, dv10, dv20, dv40, thr, bo, mI_pt hj, mT_pt hj, sB_pt, mZ_pt, mJ_pt, mJ_sJ, mZ_sJ, tn0, tn1, tn2, tn3, tn4, tn5, tn6, hx0, ii0, ii1, ii2, ii3, ii4, if_true, if_false, ne_eq, not_false_eq_true, not_true_eq_false, true_and, and_true, false_and, and_false, and_self, true_or, or_true, false_or, or_false, or_self, Nat.reduceAdd, Nat.reduceLT, Nat.reduceLeDiff, Nat.succ_ne_zero, reduceIte, reduceCtorEq]
                  · simp (config := {decide := true}) only [f_L_mix, b_L_mix_0, f_X4_mix, b_X4_mix_0, b_X4_mix_46, b_X4_mix_77, b_X4_mix_78, A, B, x_dif _ hd, x_st0, x_st1, f3, e3, u1, u2, TX1, TX2, gI_pt hj, gR_pt hj, ob_pt hj, ck_pt hj, pI_pt hj, pB_pt hj, pR_pt hj, aI_pt hj, aR_pt hj, wI_pt hj, wJ_pt hj, aL_pt hj, cl1_s, cl1_n, cl1_i, cx1_s, cx1_x, cx1_n, cx1_i, nul_n, nul_s, nm, dv2, dv3, dv4, dv5, dv8, dv10, dv20, dv40, thr, bo, mI_pt hj, mT_pt hj, sB_pt, mZ_pt, mJ_pt, mJ_sJ, mZ_sJ, tn0, tn1, tn2, tn3, tn4, tn5, tn6, hx0, ii0, ii1, ii2, ii3, ii4, if_true, if_false, ne_eq, not_false_eq_true, not_true_eq_false, true_and, and_true, false_and, and_false, and_self, true_or, or_true, false_or, or_false, or_self, Nat.reduceAdd, Nat.reduceLT, Nat.reduceLeDiff, Nat.succ_ne_zero, reduceIte, reduceCtorEq]
            · simp (config := {decide := true}) only [f_L_mix, b_L_mix_0, f_X4_mix, b_X4_mix_0, b_X4_mix_45, b_X4_mix_46, A, B, x_dif _ hd, x_st0, f3, TX1, TX2, gI_pt hj, gR_pt hj, ob_pt hj, ck_pt hj, pI_pt hj, pB_pt hj, pR_pt hj, aI_pt hj, aR_pt hj, wI_pt hj, wJ_pt hj, aL_pt hj, cl1_s, cl1_n, cl1_i, cx1_s, cx1_x, cx1_n, cx1_i, nul_n, nul_s, nm, dv2, dv3, dv4, dv5, dv8, dv10, dv20, dv40, thr, bo, mI_pt hj, mT_pt hj, sB_pt, mZ_pt, mJ_pt, mJ_sJ, mZ_sJ, tn0, tn1, tn2, tn3, tn4, tn5, tn6, hx0, ii0, ii1, ii2, ii3, ii4, if_true, if_false, ne_eq, not_false_eq_true, not_true_eq_false, true_and, and_true, false_and, and_false, and_self, true_or, or_true, false_or, or_false, or_self, Nat.reduceAdd, Nat.reduceLT, Nat.reduceLeDiff, Nat.succ_ne_zero, reduceIte, reduceCtorEq]
          · have G1 := m_getJ (J := up2 I 124 0 0) (τ := sB τ) h (JJ 126 (by omega)) hp hi
            have G2 := m_getJ (J := up2 I 124 0 0) (τ := sB τ) h (JJ 126 (by omega)) hq hj'
            have DR1 := m_dryJ (J := up2 I 124 0 0) (τ := sB τ) h iL (JJ _ (by omega))
            have DR2 := m_dryJ (J := up2 I 124 0 0) (τ := sB τ) h jL (JJ _ (by omega))
            have S2' : up2 I 124 0 0 126 2 = Int32.ofNat nL := by rw [JJ 126 (by omega)]; exact S2
            have R3 := m_ref1 (I := I) (R := R) (τ := sB τ) hj h0 (show ¬ (3 : Int32) ≤ 0 by decide)
            rcases m_canMix (J := up2 I 124 0 0) (τ := sB τ) h' JJ hp hi with ⟨f1, f2, f3⟩ | ⟨f1, f3⟩
            · rcases m_canMix (J := up2 I 124 0 0) (τ := sB τ) h' JJ hq hj' with ⟨e1, e2, e3⟩ | ⟨e1, e3⟩
              · by_cases u1 : 1 ≤ u ∧ u ≤ I (6 * i + 19) 1
                · by_cases w1 : 1 ≤ w ∧ w ≤ I (6 * j + 19) 1
                  · have n16 : nL = 16 := by
                      have : ¬ nL < 16 := fun y => hc ⟨⟨f1, f2⟩, u1, ⟨e1, e2⟩, w1, y⟩
                      omega
                    have c1 : Int32.ofNat nL = 16 := by rw [n16]; decide
                    simp (config := {decide := true}) only [f_X8_mix, b_X8_mix_0, b_X8_mix_22, b_X8_mix_40, b_X8_mix_131, b_X8_mix_136, m_noLot h' hp, m_noLot h' hq, m_start0 hj h0, m_ref0 hj h0, R3, hd, G1, G2, f3, e3, DR1, DR2, m_isIn _ u1.1 u1.2, m_isIn _ w1.1 w1.2, b_Jx4a65c_size_8abf5_0, f_Jx4a65c_size_8abf5, S2', c1, gI_pt hj, gR_pt hj, ob_pt hj, ck_pt hj, pI_pt hj, pB_pt hj, pR_pt hj, aI_pt hj, aR_pt hj, wI_pt hj, wJ_pt hj, aL_pt hj, cl1_s, cl1_n, cl1_i, cx1_s, cx1_x, cx1_n, cx1_i, nul_n, nul_s, nm, dv2, dv3, dv4, dv5, dv8, dv10, dv20, dv40, thr, bo, mI_pt hj, mT_pt hj, sB_pt, mZ_pt, mJ_pt, mJ_sJ, mZ_sJ, tn0, tn1, tn2, tn3, tn4, tn5, tn6, h0, h7, h6, TM1, TM2, ii0, ii1, ii2, ii3, ii4, if_true, if_false, ne_eq, not_false_eq_true, not_true_eq_false, true_and, and_true, false_and, and_false, and_self, true_or, or_true, false_or, or_false, or_self, Nat.reduceAdd, Nat.reduceLT, Nat.reduceLeDiff, Nat.succ_ne_zero, reduceIte, reduceCtorEq]
                  · simp (config := {decide := true}) only [f_X8_mix, b_X8_mix_0, b_X8_mix_22, b_X8_mix_40, b_X8_mix_131, b_X8_mix_136, m_noLot h' hp, m_noLot h' hq, m_start0 hj h0, m_ref0 hj h0, R3, hd, G1, G2, f3, e3, DR1, DR2, m_isIn _ u1.1 u1.2, m_isInN _ w1, gI_pt hj, gR_pt hj, ob_pt hj, ck_pt hj, pI_pt hj, pB_pt hj, pR_pt hj, aI_pt hj, aR_pt hj, wI_pt hj, wJ_pt hj, aL_pt hj, cl1_s, cl1_n, cl1_i, cx1_s, cx1_x, cx1_n, cx1_i, nul_n, nul_s, nm, dv2, dv3, dv4, dv5, dv8, dv10, dv20, dv40, thr, bo, mI_pt hj, mT_pt hj, sB_pt, mZ_pt, mJ_pt, mJ_sJ, mZ_sJ, tn0, tn1, tn2, tn3, tn4, tn5, tn6, h0, h7, h6, TM1, TM2, ii0, ii1, ii2, ii3, ii4, if_true, if_false, ne_eq, not_false_eq_true, not_true_eq_false, true_and, and_true, false_and, and_false, and_self, true_or, or_true, false_or, or_false, or_self, Nat.reduceAdd, Nat.reduceLT, Nat.reduceLeDiff, Nat.succ_ne_zero, reduceIte, reduceCtorEq]
                · simp (config := {decide := true}) only [f_X8_mix, b_X8_mix_0, b_X8_mix_22, b_X8_mix_40, b_X8_mix_131, b_X8_mix_136, m_noLot h' hp, m_noLot h' hq, m_start0 hj h0, m_ref0 hj h0, R3, hd, G1, G2, f3, e3, DR1, m_isInN _ u1, gI_pt hj, gR_pt hj, ob_pt hj, ck_pt hj, pI_pt hj, pB_pt hj, pR_pt hj, aI_pt hj, aR_pt hj, wI_pt hj, wJ_pt hj, aL_pt hj, cl1_s, cl1_n, cl1_i, cx1_s, cx1_x, cx1_n, cx1_i, nul_n, nul_s, nm, dv2, dv3, dv4, dv5, dv8, dv10, dv20, dv40, thr, bo, mI_pt hj, mT_pt hj, sB_pt, mZ_pt, mJ_pt, mJ_sJ, mZ_sJ, tn0, tn1, tn2, tn3, tn4, tn5, tn6, h0, h7, h6, TM1, TM2, ii0, ii1, ii2, ii3, ii4, if_true, if_false, ne_eq, not_false_eq_true, not_true_eq_false, true_and, and_true, false_and, and_false, and_self, true_or, or_true, false_or, or_false, or_self, Nat.reduceAdd, Nat.reduceLT, Nat.reduceLeDiff, Nat.succ_ne_zero, reduceIte, reduceCtorEq]
              · simp (config := {decide := true}) only [f_X8_mix, b_X8_mix_0, b_X8_mix_22, b_X8_mix_40, b_X8_mix_131, b_X8_mix_136, m_noLot h' hp, m_noLot h' hq, m_start0 hj h0, m_ref0 hj h0, R3, hd, G1, G2, f3, e3, gI_pt hj, gR_pt hj, ob_pt hj, ck_pt hj, pI_pt hj, pB_pt hj, pR_pt hj, aI_pt hj, aR_pt hj, wI_pt hj, wJ_pt hj, aL_pt hj, cl1_s, cl1_n, cl1_i, cx1_s, cx1_x, cx1_n, cx1_i, nul_n, nul_s, nm, dv2, dv3, dv4, dv5, dv8, dv10, dv20, dv40, thr, bo, mI_pt hj, mT_pt hj, sB_pt, mZ_pt, mJ_pt, mJ_sJ, mZ_sJ, tn0, tn1, tn2, tn3, tn4, tn5, tn6, h0, h7, h6, TM1, TM2, ii0, ii1, ii2, ii3, ii4, if_true, if_false, ne_eq, not_false_eq_true, not_true_eq_false, true_and, and_true, false_and, and_false, and_self, true_or, or_true, false_or, or_false, or_self, Nat.reduceAdd, Nat.reduceLT, Nat.reduceLeDiff, Nat.succ_ne_zero, reduceIte, reduceCtorEq]
            · simp (config := {decide := true}) only [f_X8_mix, b_X8_mix_0, b_X8_mix_22, b_X8_mix_40, b_X8_mix_131, b_X8_mix_136, m_noLot h' hp, m_noLot h' hq, m_start0 hj h0, m_ref0 hj h0, R3, hd, G1, G2, f3, gI_pt hj, gR_pt hj, ob_pt hj, ck_pt hj, pI_pt hj, pB_pt hj, pR_pt hj, aI_pt hj, aR_pt hj, wI_pt hj, wJ_pt hj, aL_pt hj, cl1_s, cl1_n, cl1_i, cx1_s, cx1_x, cx1_n, cx1_i, nul_n, nul_s, nm, dv2, dv3, dv4, dv5, dv8, dv10, dv20, dv40, thr, bo, mI_pt hj, mT_pt hj, sB_pt, mZ_pt, mJ_pt, mJ_sJ, mZ_sJ, tn0, tn1, tn2, tn3, tn4, tn5, tn6, h0, h7, h6, TM1, TM2, ii0, ii1, ii2, ii3, ii4, if_true, if_false, ne_eq, not_false_eq_true, not_true_eq_false, true_and, and_true, false_and, and_false, and_self, true_or, or_true, false_or, or_false, or_self, Nat.reduceAdd, Nat.reduceLT, Nat.reduceLeDiff, Nat.succ_ne_zero, reduceIte, reduceCtorEq]
    · refine Agr.bad (k := 1) (b := 0) h (by decide) ?_ ?_
      · simp (config := {decide := true}) only [f_L_mix, b_L_mix_0, f_X4_mix, b_X4_mix_0, x_lotAt h hp rfl, x_lotAtN h hq, gI_pt hj, gR_pt hj, ob_pt hj, ck_pt hj, pI_pt hj, pB_pt hj, pR_pt hj, aI_pt hj, aR_pt hj, wI_pt hj, wJ_pt hj, aL_pt hj, cl1_s, cl1_n, cl1_i, cx1_s, cx1_x, cx1_n, cx1_i, nul_n, nul_s, nm, dv2, dv3, dv4, dv5, dv8, dv10, dv20, dv40, thr, bo, mI_pt hj, mT_pt hj, sB_pt, mZ_pt, mJ_pt, mJ_sJ, mZ_sJ, tn0, tn1, tn2, tn3, tn4, tn5, tn6, hx0, ii0, ii1, ii2, ii3, ii4, if_true, if_false, ne_eq, not_false_eq_true, not_true_eq_false, true_and, and_true, false_and, and_false, and_self, true_or, or_true, false_or, or_false, or_self, Nat.reduceAdd, Nat.reduceLT, Nat.reduceLeDiff, Nat.succ_ne_zero, reduceIte, reduceCtorEq]
      · simp (config := {decide := true}) only [f_X8_mix, b_X8_mix_0, b_X8_mix_17, b_X8_mix_22, b_X8_mix_47, m_noLot h' hp, m_noLotN h' hq, m_start1 hj h0 (show ¬ (1 : Int32) ≤ 0 by decide), gI_pt hj, gR_pt hj, ob_pt hj, ck_pt hj, pI_pt hj, pB_pt hj, pR_pt hj, aI_pt hj, aR_pt hj, wI_pt hj, wJ_pt hj, aL_pt hj, cl1_s, cl1_n, cl1_i, cx1_s, cx1_x, cx1_n, cx1_i, nul_n, nul_s, nm, dv2, dv3, dv4, dv5, dv8, dv10, dv20, dv40, thr, bo, mI_pt hj, mT_pt hj, sB_pt, mZ_pt, mJ_pt, mJ_sJ, mZ_sJ, tn0, tn1, tn2, tn3, tn4, tn5, tn6, h0, ii0, ii1, ii2, ii3, ii4, if_true, if_false, ne_eq, not_false_eq_true, not_true_eq_false, true_and, and_true, false_and, and_false, and_self, true_or, or_true, false_or, or_false, or_self, Nat.reduceAdd, Nat.reduceLT, Nat.reduceLeDiff, Nat.succ_ne_zero, reduceIte, reduceCtorEq]
  · refine Agr.bad (k := 1) (b := 0) h (by decide) ?_ ?_
    · simp (config := {decide := true}) only [f_L_mix, b_L_mix_0, f_X4_mix, b_X4_mix_0, x_lotAtN h hp, gI_pt hj, gR_pt hj, ob_pt hj, ck_pt hj, pI_pt hj, pB_pt hj, pR_pt hj, aI_pt hj, aR_pt hj, wI_pt hj, wJ_pt hj, aL_pt hj, cl1_s, cl1_n, cl1_i, cx1_s, cx1_x, cx1_n, cx1_i, nul_n, nul_s, nm, dv2, dv3, dv4, dv5, dv8, dv10, dv20, dv40, thr, bo, mI_pt hj, mT_pt hj, sB_pt, mZ_pt, mJ_pt, mJ_sJ, mZ_sJ, tn0, tn1, tn2, tn3, tn4, tn5, tn6, hx0, ii0, ii1, ii2, ii3, ii4, if_true, if_false, ne_eq, not_false_eq_true, not_true_eq_false, true_and, and_true, false_and, and_false, and_self, true_or, or_true, false_or, or_false, or_self, Nat.reduceAdd, Nat.reduceLT, Nat.reduceLeDiff, Nat.succ_ne_zero, reduceIte, reduceCtorEq]
    · simp (config := {decide := true}) only [f_X8_mix, b_X8_mix_0, b_X8_mix_17, b_X8_mix_22, b_X8_mix_47, m_noLotN h' hp, m_start1 hj h0 (show ¬ (1 : Int32) ≤ 0 by decide), gI_pt hj, gR_pt hj, ob_pt hj, ck_pt hj, pI_pt hj, pB_pt hj, pR_pt hj, aI_pt hj, aR_pt hj, wI_pt hj, wJ_pt hj, aL_pt hj, cl1_s, cl1_n, cl1_i, cx1_s, cx1_x, cx1_n, cx1_i, nul_n, nul_s, nm, dv2, dv3, dv4, dv5, dv8, dv10, dv20, dv40, thr, bo, mI_pt hj, mT_pt hj, sB_pt, mZ_pt, mJ_pt, mJ_sJ, mZ_sJ, tn0, tn1, tn2, tn3, tn4, tn5, tn6, h0, ii0, ii1, ii2, ii3, ii4, if_true, if_false, ne_eq, not_false_eq_true, not_true_eq_false, true_and, and_true, false_and, and_false, and_self, true_or, or_true, false_or, or_false, or_self, Nat.reduceAdd, Nat.reduceLT, Nat.reduceLeDiff, Nat.succ_ne_zero, reduceIte, reduceCtorEq]
end MZ
