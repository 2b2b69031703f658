/-! a new lot of the reference, in view -/
section PL
variable {φ : Nat → Nat} {T : Nat → Nat × Nat} {I : Nat → Nat → Int32} {R : Nat → Nat → Option Nat} {τ : Mem} {e0 nS nL cS cL n z : Nat} {mx : Nat → Int32} {cB : Nat → Nat} {bl : Nat → List (Nat × Int32)}
variable {mi a k i j w s c g q : Nat} {J J' : Nat → Nat → Int32} {R' : Nat → Nat → Option Nat} {p r hands : Int32} {τ0 τ1 : Mem}
theorem m_newLot (hj : Inj φ T) (hl : live T φ (mZ τ)) : ∃ τ', f_X5_init e0 mi (mZ τ) (pt φ T I R (sN τ (8, 0))) = some ((), pt φ T I R τ') ∧ mT τ' (mZ τ) = (8, 0) ∧ mT τ' (mZ τ + 1) = (100, 4) ∧ mT τ' (mZ τ + 2) = (2, 0) ∧ (∀ k, mI τ' (mZ τ) k = if k = 9 then -1 else 0) ∧ mR τ' (mZ τ) 1 = some (mZ τ + 1) ∧ mR τ' (mZ τ) 12 = none ∧ mR τ' (mZ τ) 14 = some (mZ τ + 2) ∧ (∀ k, mI τ' (mZ τ + 1) k = 0) ∧ mI τ' (mZ τ + 2) 2 = 0 ∧ mR τ' (mZ τ + 2) 1 = some e0 ∧ mZ τ' = mZ τ + 3 ∧ Kp (mZ τ) τ τ' := by
  have o1 : Off φ T (mZ τ) := Off.of hl (Nat.le_refl _)
  have o2 : Off φ T (mZ τ + 1) := Off.of hl (by omega)
  have o3 : Off φ T (mZ τ + 2) := Off.of hl (by omega)
  obtain ⟨a, ha⟩ : ∃ a, a = mZ τ := ⟨_, rfl⟩
  rw [← ha] at o1 o2 o3 ⊢
  obtain ⟨τ1, h1⟩ : ∃ τ1, τ1 = sN τ (8, 0) := ⟨_, rfl⟩
  have za : mZ τ1 = a + 1 := by rw [h1, ha]; rfl
  have t1 : mT τ1 a = (8, 0) := by rw [h1, ha]; exact mT_sN_at
  have i1 : ∀ k, mI τ1 a k = 0 := fun k => by rw [h1, ha]; exact mI_sN_at
  have r1 : ∀ k, mR τ1 a k = none := fun k => by rw [h1, ha]; exact mR_sN_at
  obtain ⟨τ2, W2, T2, Z2, Y2, K2, z2⟩ := nA_ex (J := I) (R := R) (τ1 := τ1) (p := 4) (c := 4) (t := 0) (bd := 4) (by rw [za]; exact o2) (by decide) rfl (by decide)
  rw [za] at W2 T2 Z2 Y2 K2 z2
  obtain ⟨k1, k2, k3, k4⟩ := K2.2 a (by omega)
  obtain ⟨τ3, h3⟩ : ∃ τ3, τ3 = sI (sR τ2 a 1 (some (a + 1))) a 9 (-1) := ⟨_, rfl⟩
  have z3 : mZ τ3 = a + 2 := by rw [h3]; exact z2
  have t3 : mT τ3 = mT τ2 := by rw [h3]; rfl
  have r3 : mR τ3 = up2 (mR τ2) a 1 (some (a + 1)) := by rw [h3]; rfl
  have i3 : mI τ3 = up2 (mI τ2) a 9 (-1) := by rw [h3]; rfl
  obtain ⟨τ4, N1, N2, N3, N4⟩ := ol_new (e0 := e0) (mi := mi) (I := I) (R := R) (τ := τ3) (z := a) hj (by rw [ha]; exact hl) (by omega)
  rw [z3] at N1 N2 N3 N4
  obtain ⟨n1, n2, n3, n4⟩ := N3.2 a (by omega)
  obtain ⟨n5, n6, n7, n8⟩ := N3.2 (a + 1) (by omega)
  obtain ⟨n9, n10, n11, n12⟩ := N2
  refine ⟨sR τ4 a 14 (some (a + 2)), ?_, ?_, ?_, ?_, ?_, ?_, ?_, ?_, ?_, ?_, ?_, ?_, ?_⟩
  · have q1 : (mT τ1 a).1 = 7 + 1 := by rw [t1]
    have q2 : (mT τ2 a).1 = 7 + 1 := by rw [k4, t1]
    have q4 : (mT τ4 a).1 = 7 + 1 := by rw [n4, t3, k4, t1]
    have ZZ : ∀ (K : Mem → Option Nat → Option (Unit × Mem)), nO 1 (pt φ T I R τ3) K = K (pt φ T I R (sN τ3 (2, 0))) (some (a + 2)) := fun K => by
      rw [nO_off (by rw [z3]; exact o3), z3]
    have OB1 : ∀ (K : Nat → Option (Unit × Mem)), ob 1 (pt φ T I R (sN τ3 (2, 0))) (some (a + 2)) K = K (a + 2) := fun K => by
      rw [ob_off o3 (by rw [← z3, mT_sN_at])]
    rw [← h1]
    rw [h3] at ZZ OB1 N1
    simp (config := {decide := true}) only [f_X5_init, b_X5_init_0, W2, gI_pt hj, gR_pt hj, ob_pt hj, ck_pt hj, pI_pt hj, pB_pt hj, pR_pt hj, aI_pt hj, aR_pt hj, wI_pt hj, wJ_pt hj, aL_pt hj, cl1_s, cl1_n, cl1_i, cx1_s, cx1_x, cx1_n, cx1_i, nul_n, nul_s, nm, dv2, dv3, dv4, dv5, dv8, dv10, dv20, dv40, thr, bo, gI_off, gR_off, ob_off, ck_off, pI_off, pB_off, pR_off, aI_off, wI_off, aR_off, nA_off, nO_off, mT_sI, mT_sR, mT_sJ, mT_sN_at, mI_sN_at, mR_sN_at, mI_sI, mI_sR, mI_sJ, mR_sI, mR_sR, mR_sJ, mZ_sI, mZ_sR, mZ_sN, mJ_sI, mJ_sR, o1, mI_pt hj, mT_pt hj, sB_pt, mZ_pt, mJ_pt, mJ_sJ, mZ_sJ, tn0, tn1, tn2, tn3, tn4, tn5, tn6, q1, q2, ZZ, OB1, N1, q4, ii0, ii1, ii2, ii3, ii4, if_true, if_false, ne_eq, not_false_eq_true, not_true_eq_false, true_and, and_true, false_and, and_false, and_self, true_or, or_true, false_or, or_false, or_self, Nat.reduceAdd, Nat.reduceLT, Nat.reduceLeDiff, Nat.succ_ne_zero, reduceIte, reduceCtorEq]
  · show mT τ4 a = (8, 0); rw [n4, t3, k4, t1]
  · show mT τ4 (a + 1) = (100, 4); rw [n8, t3]; exact T2
  · exact n9
  · intro k
    show mI τ4 a k = _
    rw [n1, i3]
    by_cases q : k = 9
    · rw [q, up2_at, if_pos rfl]
    · rw [up2_k q, k1, i1, if_neg q]
  · show up2 (mR τ4) a 14 _ a 1 = _; rw [up2_k (by decide), n2, r3, up2_at]
  · show up2 (mR τ4) a 14 _ a 12 = _; rw [up2_k (by decide), n2, r3, up2_k (by decide), k2, r1]
  · show up2 (mR τ4) a 14 _ a 14 = _; rw [up2_at]
  · intro k; show mI τ4 (a + 1) k = 0; rw [n5, i3, up2_row (by omega)]; exact Z2 k
  · exact n11
  · show up2 (mR τ4) a 14 _ (a + 2) 1 = _
    rw [up2_row (by omega)]
    rcases n12 with ⟨-, n12⟩ | ⟨wa, -, -, w1, w2, -⟩
    · exact n12
    · omega
  · show mZ τ4 = a + 3; exact N4
  · have e1 : Kp a τ τ1 := by rw [h1]; exact Kp.sN (by omega)
    have e3 : Kp a τ2 τ3 := by rw [h3]; exact (Kp.sR (Nat.le_refl _)).trans (Kp.sI (Nat.le_refl _))
    exact ((e1.trans (K2.less (by omega))).trans (e3.trans (N3.less (by omega)))).trans (Kp.sR (Nat.le_refl _))
theorem m_newLotV (g : Nat) (hj : Inj φ T) (hl : live T φ (mZ τ)) : ∃ φ' T' I' R' τ', f_X5_init e0 mi (mZ τ) (pt φ T I R (sN τ (8, 0))) = some ((), pt φ' T' I' R' τ') ∧ Inj φ' T' ∧ live T' φ' (mZ τ') ∧ φ' g = mZ τ ∧ T' g = (8, 0) ∧ T' (g + 1) = (100, 4) ∧ T' (g + 3) = (2, 0) ∧ (∀ k, I' g k = if k = 9 then -1 else 0) ∧ R' g 1 = some (φ' (g + 1)) ∧ R' g 12 = none ∧ R' g 14 = some (φ' (g + 3)) ∧ (∀ k, I' (g + 1) k = 0) ∧ I' (g + 3) 2 = 0 ∧ R' (g + 3) 1 = some e0 ∧ (∀ v, v ≠ g → v ≠ g + 1 → v ≠ g + 3 → φ' v = φ v) ∧ (∀ v, v ≠ g → v ≠ g + 1 → v ≠ g + 3 → T' v = T v) ∧ (∀ v, v ≠ g → v ≠ g + 1 → v ≠ g + 3 → I' v = I v) ∧ (∀ v, v ≠ g → v ≠ g + 1 → v ≠ g + 3 → R' v = R v) ∧ mZ τ ≤ mZ τ' ∧ (∀ b, b < mZ τ → mJ τ' b = mJ τ b) := by
  obtain ⟨τ2, N1, N2, N3, N4, N5, N6, N7, N8, N9, N10, N11, N12, N13⟩ := m_newLot (e0 := e0) (mi := mi) (I := I) (R := R) hj hl
  obtain ⟨φ1, T1, J1, R1, τ3, eq1, inj1, live1, ph1, pT1, pI1, pR1, aP1, aT1, aI1, aR1, zz1, of1, jj1⟩ := take1 (I := I) (R := R) g hj hl (Nat.le_refl _) N2 (by decide)
  obtain ⟨φ2, T2, J2, R2, τ4, eq2, inj2, live2, ph2, pT2, pI2, pR2, aP2, aT2, aI2, aR2, zz2, of2, jj2⟩ := take1 (I := J1) (R := R1) (a := mZ τ + 1) (g + 1) inj1 live1 (Nat.le_refl _) ((of1 _ (by omega)).1.trans N3) (by decide)
  obtain ⟨φ3, T3, J3, R3, τ5, eq3, inj3, live3, ph3, pT3, pI3, pR3, aP3, aT3, aI3, aR3, zz3, of3, jj3⟩ := take1 (I := J2) (R := R2) (a := mZ τ + 2) (g + 3) inj2 live2 (by omega) ((of2 _ (by omega)).1.trans ((of1 _ (by omega)).1.trans N4)) (by decide)
  refine ⟨φ3, T3, J3, R3, τ5, ?_, inj3, ?_, ?_, ?_, ?_, ?_, ?_, ?_, ?_, ?_, ?_, ?_, ?_, ?_, ?_, ?_, ?_, ?_, ?_⟩
  · rw [N1, eq1, eq2, eq3]
  · rw [zz3, zz2, zz1, N12]; exact live3
  · rw [aP3 _ (by omega), aP2 _ (by omega), ph1]
  · rw [aT3 _ (by omega), aT2 _ (by omega), pT1]
  · rw [aT3 _ (by omega), pT2]
  · exact pT3
  · intro k; rw [aI3 _ (by omega), aI2 _ (by omega), pI1]; exact N5 k
  · rw [aR3 _ (by omega), aR2 _ (by omega), pR1, N6, aP3 _ (by omega), ph2]
  · rw [aR3 _ (by omega), aR2 _ (by omega), pR1, N7]
  · rw [aR3 _ (by omega), aR2 _ (by omega), pR1, N8, ph3]
  · intro k; rw [aI3 _ (by omega), pI2, (of1 _ (by omega)).2.1]; exact N9 k
  · rw [pI3, (of2 _ (by omega)).2.1, (of1 _ (by omega)).2.1]; exact N10
  · rw [pR3, (of2 _ (by omega)).2.2, (of1 _ (by omega)).2.2]; exact N11
  · intro v h1 h2 h3; rw [aP3 v h3, aP2 v h2, aP1 v h1]
  · intro v h1 h2 h3; rw [aT3 v h3, aT2 v h2, aT1 v h1]
  · intro v h1 h2 h3; rw [aI3 v h3, aI2 v h2, aI1 v h1]
  · intro v h1 h2 h3; rw [aR3 v h3, aR2 v h2, aR1 v h1]
  · rw [zz3, zz2, zz1, N12]; omega
  · intro b hb; rw [jj3, jj2, jj1, (N13.2 b hb).2.2.1]
theorem m_dry1 (hj : Inj φ T) (h1 : T g = (8, 0)) (h2 : R g 1 = some (φ (g + 1))) (h3 : T (g + 1) = (100, 4)) (hs : s < 4) (h0 : ∀ k, k < 4 → k ≠ s → J (g + 1) k = 0) : f_X5_dry (φ g) (pt φ T J R τ) = some (J (g + 1) s, pt φ T J R τ) := by
  rw [mdry hj h1 h2 h3]
  rcases (show s = 0 ∨ s = 1 ∨ s = 2 ∨ s = 3 by omega) with rfl | rfl | rfl | rfl
  · rw [h0 1 (by omega) (by omega), h0 2 (by omega) (by omega), h0 3 (by omega) (by omega), Int32.add_zero, Int32.add_zero, Int32.add_zero]
  · rw [h0 0 (by omega) (by omega), h0 2 (by omega) (by omega), h0 3 (by omega) (by omega), Int32.zero_add, Int32.add_zero, Int32.add_zero]
  · rw [h0 0 (by omega) (by omega), h0 1 (by omega) (by omega), h0 3 (by omega) (by omega), Int32.add_zero, Int32.add_zero, Int32.zero_add]
  · rw [h0 0 (by omega) (by omega), h0 1 (by omega) (by omega), h0 2 (by omega) (by omega), Int32.add_zero, Int32.add_zero, Int32.zero_add]
/-- what is taken -/
def mn (a b : Int32) : Int32 := if a < b then a else b
theorem mnT {a b : Int32} : (mn a b).toInt = if a.toInt < b.toInt then a.toInt else b.toInt := by
  by_cases c : a < b
  · rw [mn, if_pos c, if_pos (ltT c)]
  · rw [mn, if_neg c, if_neg (fun q => c (Int32.lt_iff_toInt_lt.mpr q))]
end PL

/-! the shape with one lot more -/
section AD
variable {φ : Nat → Nat} {T : Nat → Nat × Nat} {I : Nat → Nat → Int32} {R : Nat → Nat → Option Nat} {τ : Mem} {e0 nS nL cS cL n z : Nat} {mx : Nat → Int32} {cB : Nat → Nat} {bl : Nat → List (Nat × Int32)}
variable {φ' : Nat → Nat} {T' : Nat → Nat × Nat} {I' : Nat → Nat → Int32} {R' : Nat → Nat → Option Nat} {c' : Nat} {m : Int32}
theorem SM.addL (hm : SM φ T I R e0 nS nL cS cL mx cB bl) (hn : nL < 16) (fP : ∀ v, v < 10 * nL + 150 → v ≠ 134 → φ' v = φ v) (fT : ∀ v, v < 10 * nL + 150 → v ≠ 134 → T' v = T v) (fR : ∀ v, v < 10 * nL + 150 → v ≠ 134 → v ≠ 126 → R' v = R v) (fI : ∀ v, v < 10 * nL + 150 → v = 125 ∨ (∃ i k, i < nL ∧ 3 ≤ k ∧ k < 9 ∧ v = 10 * i + 150 + k) → I' v = I v)
    (c1 : nL + 1 ≤ c') (c2 : c' ≤ 22) (a13 : I' 126 2 = Int32.ofNat (nL + 1)) (a15 : R' 126 1 = some (φ' 134)) (a17 : T' 134 = (106, c')) (a28 : R' 134 nL = some (φ' (10 * nL + 150))) (a28' : ∀ k, k < nL → R' 134 k = R 134 k)
    (a29 : T' (10 * nL + 150) = (8, 0)) (a30 : R' (10 * nL + 150) 1 = some (φ' (10 * nL + 151))) (a31 : T' (10 * nL + 151) = (100, 4)) (a32 : R' (10 * nL + 150) 12 = if m = 0 then none else some (φ' (10 * nL + 152))) (a33 : m ≠ 0 → T' (10 * nL + 152) = (100, 3)) (a34 : R' (10 * nL + 150) 14 = some (φ' (10 * nL + 153))) (a35 : T' (10 * nL + 153) = (2, 0)) (a36 : I' (10 * nL + 153) 2 = 0) (a37 : R' (10 * nL + 153) 1 = some e0) (a44 : ∀ k, nL + 1 ≤ k → k < c' → R' 134 k = none) :
    SM φ' T' I' R' e0 nS (nL + 1) cS c' (rowS mx nL m) (rowS cB nL 0) (rowS bl nL []) := by
  obtain ⟨hm0, hm1, hm2, hm3, hm4, hm5, hm6, hm7, hm8, hm9, hm10, hm11, hm12, hm13, hm14, hm15, hm16, hm17, hm18, hm19, hm20, hm21, hm22, hm23, hm24, hm25, hm26, hm27, hm28, hm29, hm30, hm31, hm32, hm33, hm34, hm35, hm36, hm37, hm38, hm39, hm40, hm41, hm42, hm43, hm44⟩ := hm
  unfold SM
  refine ⟨?_, ?_, ?_, ?_, ?_, ?_, ?_, ?_, ?_, ?_, ?_, ?_, ?_, ?_, ?_, ?_, ?_, ?_, ?_, ?_, ?_, ?_, ?_, ?_, ?_, ?_, ?_, ?_, ?_, ?_, ?_, ?_, ?_, ?_, ?_, ?_, ?_, ?_, ?_, ?_, ?_, ?_, ?_, ?_, ?_⟩
  · (try simp (disch := omega) only [fP, fT, fR, fI]); exact hm0
  · (try simp (disch := omega) only [fP, fT, fR, fI]); exact hm1
  · (try simp (disch := omega) only [fP, fT, fR, fI]); exact hm2
  · (try simp (disch := omega) only [fP, fT, fR, fI]); exact hm3
  · (try simp (disch := omega) only [fP, fT, fR, fI]); exact hm4
  · (try simp (disch := omega) only [fP, fT, fR, fI]); exact hm5
  · (try simp (disch := omega) only [fP, fT, fR, fI]); exact hm6
  · (try simp (disch := omega) only [fP, fT, fR, fI]); exact hm7
  · (try simp (disch := omega) only [fP, fT, fR, fI]); exact hm8
  · (try simp (disch := omega) only [fP, fT, fR, fI]); exact hm9
  · intro i hi; (try simp (disch := omega) only [fP, fT, fR, fI]); exact hm10 i hi
  · intro i hi; (try simp (disch := omega) only [fP, fT, fR, fI]); exact hm11 i hi
  · rw [fI 125 (by omega) (Or.inl rfl)]; exact hm12
  · exact a13
  · (try simp (disch := omega) only [fP, fT, fR, fI]); exact hm14
  · rw [if_neg (by omega)]; exact a15
  · intro hi; (try simp (disch := omega) only [fP, fT, fR, fI]); exact hm16 hi
  · intro _; exact a17
  · exact hm18
  · exact hm19
  · omega
  · omega
  · exact hm22
  · omega
  · intro i hi; (try simp (disch := omega) only [fP, fT, fR, fI]); exact hm24 i hi
  · intro i hi; (try simp (disch := omega) only [fP, fT, fR, fI]); exact hm25 i hi
  · intro i hi; (try simp (disch := omega) only [fP, fT, fR, fI]); exact hm26 i hi
  · intro i hi; (try simp (disch := omega) only [fP, fT, fR, fI]); exact hm27 i hi
  · intro i hi
    by_cases q : i = nL
    · subst q; exact a28
    · have hi' : i < nL := by omega
      rw [a28' i hi', fP (10 * i + 150) (by omega) (by omega)]; exact hm28 i hi'
  · intro i hi
    by_cases q : i = nL
    · subst q; exact a29
    · have hi' : i < nL := by omega
      simp (disch := omega) only [rowS_ne q, fP, fT, fR, fI]; exact hm29 i hi'
  · intro i hi
    by_cases q : i = nL
    · subst q; exact a30
    · have hi' : i < nL := by omega
      simp (disch := omega) only [rowS_ne q, fP, fT, fR, fI]; exact hm30 i hi'
  · intro i hi
    by_cases q : i = nL
    · subst q; exact a31
    · have hi' : i < nL := by omega
      simp (disch := omega) only [rowS_ne q, fP, fT, fR, fI]; exact hm31 i hi'
  · intro i hi
    by_cases q : i = nL
    · subst q; rw [rowS_hit]; exact a32
    · have hi' : i < nL := by omega
      simp (disch := omega) only [rowS_ne q, fP, fT, fR, fI]; exact hm32 i hi'
  · intro i hi
    by_cases q : i = nL
    · subst q; rw [rowS_hit]; exact a33
    · have hi' : i < nL := by omega
      simp (disch := omega) only [rowS_ne q, fP, fT, fR, fI]; exact hm33 i hi'
  · intro i hi
    by_cases q : i = nL
    · subst q; exact a34
    · have hi' : i < nL := by omega
      simp (disch := omega) only [rowS_ne q, fP, fT, fR, fI]; exact hm34 i hi'
  · intro i hi
    by_cases q : i = nL
    · subst q; exact a35
    · have hi' : i < nL := by omega
      simp (disch := omega) only [rowS_ne q, fP, fT, fR, fI]; exact hm35 i hi'
  · intro i hi
    by_cases q : i = nL
    · subst q; rw [rowS_hit]; exact a36
    · have hi' : i < nL := by omega
      rw [rowS_ne q, fI (10 * i + 153) (by omega) (Or.inr ⟨i, 3, hi', by omega, by omega, rfl⟩)]; exact hm36 i hi'
  · intro i hi
    by_cases q : i = nL
    · subst q; rw [rowS_hit, if_pos rfl]; exact a37
    · have hi' : i < nL := by omega
      simp (disch := omega) only [rowS_ne q, fP, fT, fR, fI]; exact hm37 i hi'
  · intro i hi
    by_cases q : i = nL
    · subst q; rw [rowS_hit]; exact fun q => absurd rfl q
    · have hi' : i < nL := by omega
      simp (disch := omega) only [rowS_ne q, fP, fT, fR, fI]; exact hm38 i hi'
  · intro i hi
    by_cases q : i = nL
    · subst q; rw [rowS_hit, rowS_hit]; exact Nat.le_refl _
    · have hi' : i < nL := by omega
      rw [rowS_ne q, rowS_ne q]; exact hm39 i hi'
  · intro i hi k b hb
    by_cases q : i = nL
    · subst q; rw [rowS_hit] at hb; simp at hb
    · have hi' : i < nL := by omega
      rw [rowS_ne q] at hb
      have hb4 := (hm40 i hi' k b hb).1
      rw [fP (10 * i + 155 + b.1) (by omega) (by omega), fT (10 * i + 155 + b.1) (by omega) (by omega), fR (10 * i + 154) (by omega) (by omega) (by omega), fI (10 * i + 155 + b.1) (by omega) (Or.inr ⟨i, 5 + b.1, hi', by omega, by omega, by omega⟩)]
      exact hm40 i hi' k b hb
  · (try simp (disch := omega) only [fP, fT, fR, fI]); exact hm41
  · (try simp (disch := omega) only [fP, fT, fR, fI]); exact hm42
  · intro i hi
    by_cases q : i = nL
    · subst q; rw [rowS_hit]; exact Nat.zero_le _
    · have hi' : i < nL := by omega
      rw [rowS_ne q]; exact hm43 i hi'
  · exact a44
end AD
