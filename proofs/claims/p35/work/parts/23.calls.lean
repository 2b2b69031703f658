/-! CALLS that change one lot -/
section K1
variable {φ : Nat → Nat} {T : Nat → Nat × Nat} {I J : Nat → Nat → Int32} {R : Nat → Nat → Option Nat} {τ : Mem} {nS nL n z : Nat}
variable {i k j q : Nat} {p c f : Int32} {x y : Nat → Int32} {d h0 : Int32}
theorem itn_s {g : (Nat → Int32) → (Nat → Int32)} : ∀ (q : Nat) (x : Nat → Int32), itn g (q + 1) x = g (itn g q x) := by
  intro q
  induction q with
  | zero => intro x; rfl
  | succ q ih => intro x; rw [itn, ih]; rfl
theorem x_killF (h : Cx φ T I R (mZ τ) nS nL n) (iL : i < nL) (s0 : I (6 * i + 19) 0 = 0) (k0 : I (6 * i + 19) 10 = 0) : ∃ J', f_X4_kill (φ 0) (Int32.ofNat i) (pt φ T I R τ) = some (I (6 * i + 19) 3 - I (6 * i + 19) 3 / 5, pt φ T J' R τ) ∧ Cx φ T J' R (mZ τ) nS nL (n + 1) ∧ J' (6 * i + 19) 10 = 1 ∧ J' 0 = I 0 ∧ J' 10 = I 10 := by
  have hN := h.m.2.2.2.2.1
  have hj := h.hj
  have hx0 := h.m.2.2.2.2.2.2.2
  have T4 := h.t4 (show i < 17 by omega)
  have A := x_lotAt h (InN.of iL (by omega)) (tnK (by omega))
  have L := h.lr iL
  obtain ⟨-, ⟨-, l11, l12⟩, -, -, -, ⟨w1, w2⟩, ⟨b4, b5, b6, b7, b8⟩, -⟩ := h.lr iL
  have d5 : (I (6 * i + 19) 3 / 5).toInt = (I (6 * i + 19) 3).toInt / 5 := divP 5 rfl (by omega) w1
  have e3 : (I (6 * i + 19) 3 - I (6 * i + 19) 3 / 5).toInt = (I (6 * i + 19) 3).toInt - (I (6 * i + 19) 3).toInt / 5 := by rw [tSub (by omega) (by omega), d5]
  refine ⟨up2 (up2 I (6 * i + 19) 3 (I (6 * i + 19) 3 - I (6 * i + 19) 3 / 5)) (6 * i + 19) 10 1, ?_, h.lot (Nat.le_succ _) iL (fun v hv => by rw [up2_row (by omega), up2_row (by omega)]) ?_ ?_, ?_, ?_, ?_⟩
  · simp (config := {decide := true}) only [b_X4_kill_25, b_X4_kill_24, b_X4_kill_0, f_X4_kill, A, x_st1, gI_pt hj, gR_pt hj, ob_pt hj, pI_pt hj, pB_pt hj, pR_pt hj, aI_pt hj, aR_pt hj, wI_pt hj, aL_pt hj, cl1_s, cl1_n, cl1_i, nul_n, nul_s, nm, dv2, dv3, dv4, dv5, dv8, dv10, dv20, dv40, bo, mI_pt hj, mT_pt hj, mZ_pt, tn0, tn1, tn2, tn3, tn4, tn5, tn6, hx0, T4, s0, k0, up2_k, up2_at, ii0, ii1, ii2, ii3, ii4, if_true, if_false, ne_eq, not_false_eq_true, not_true_eq_false, true_and, and_true, false_and, and_false, and_self, true_or, or_true, false_or, or_false, or_self, Nat.reduceAdd, Nat.reduceLT, Nat.reduceLeDiff, Nat.succ_ne_zero, reduceIte, reduceCtorEq]
  · simp (disch := omega) only [up2_row]
    refine L.chg ?_ ?_ ?_ ?_ ?_ (Or.inl ?_) (Or.inr ?_) ?_ ?_ ?_ ?_ ?_ ?_ <;> simp (disch := omega) only [up2_k, up2_at]
    · rw [e3]; omega
    · omega
    · omega
    · exact b6
    · omega
    · omega
  · simp (disch := omega) only [up2_k]
  · rw [up2_at]
  · rw [up2_row (by omega), up2_row (by omega)]
  · rw [up2_row (by omega), up2_row (by omega)]
theorem x_rollF (h : Cx φ T I R (mZ τ) nS nL n) (hn : n < 600) (iL : i < nL) (s0 : I (6 * i + 19) 0 = 0 ∨ I (6 * i + 19) 0 = 1) (hw : ¬ 2 * I (6 * i + 19) 1 < I (6 * i + 19) 3) (hf : 1 ≤ f ∧ f ≤ 5) : ∃ J', f_X4_roll (φ 0) (Int32.ofNat i) f (pt φ T I R τ) = some (I (6 * i + 19) 5 + f, pt φ T J' R τ) ∧ Cx φ T J' R (mZ τ) nS nL (n + 1) ∧ J' (6 * i + 19) 0 = 1 ∧ J' 0 = I 0 ∧ J' 10 = I 10 := by
  have hN := h.m.2.2.2.2.1
  have hj := h.hj
  have hx0 := h.m.2.2.2.2.2.2.2
  have T4 := h.t4 (show i < 17 by omega)
  have A := x_lotAt h (InN.of iL (by omega)) (tnK (by omega))
  have L := h.lr iL
  have Q := x_req (pt φ T I R τ) hf.1 hf.2
  obtain ⟨-, ⟨l10, l11, l12⟩, -, -, -, w12, ⟨b4, b5, b6, b7, b8⟩, ⟨-, l9⟩, -, ⟨-, -, la⟩, -⟩ := h.lr iL
  have z1 : (1 : Int32).toInt = 1 := rfl
  have z5 : (5 : Int32).toInt = 5 := rfl
  have f1 := leT hf.1
  have f2 := leT hf.2
  have la0 : I (6 * i + 22) 0 = 0 := by
    by_cases c : I (6 * i + 22) 0 = 0
    · exact c
    · have := la c; rw [this] at s0; rcases s0 with s0 | s0 <;> exact absurd s0 (by decide)
  have ne3 : I (6 * i + 19) 0 ≠ 3 := by rcases s0 with s0 | s0 <;> rw [s0] <;> decide
  refine ⟨up2 (up2 I (6 * i + 19) 5 (I (6 * i + 19) 5 + f)) (6 * i + 19) 0 1, ?_, h.lot (Nat.le_succ _) iL (fun v hv => by rw [up2_row (by omega), up2_row (by omega)]) ?_ ?_, ?_, ?_, ?_⟩
  · rcases s0 with s0 | s0 <;> simp (config := {decide := true}) only [b_X4_roll_53, b_X4_roll_32, b_X4_roll_27, b_X4_roll_0, f_X4_roll, A, Q, x_st1, gI_pt hj, gR_pt hj, ob_pt hj, pI_pt hj, pB_pt hj, pR_pt hj, aI_pt hj, aR_pt hj, wI_pt hj, aL_pt hj, cl1_s, cl1_n, cl1_i, nul_n, nul_s, nm, dv2, dv3, dv4, dv5, dv8, dv10, dv20, dv40, bo, mI_pt hj, mT_pt hj, mZ_pt, tn0, tn1, tn2, tn3, tn4, tn5, tn6, hx0, T4, s0, hw, up2_k, up2_at, ii0, ii1, ii2, ii3, ii4, if_true, if_false, ne_eq, not_false_eq_true, not_true_eq_false, true_and, and_true, false_and, and_false, and_self, true_or, or_true, false_or, or_false, or_self, Nat.reduceAdd, Nat.reduceLT, Nat.reduceLeDiff, Nat.succ_ne_zero, reduceIte, reduceCtorEq]
  · simp (disch := omega) only [up2_row]
    refine L.chg ?_ ?_ ?_ ?_ ?_ (Or.inr ⟨ne3, la0, Or.inl ⟨?_, l9 s0⟩⟩) ?_ ?_ ?_ ?_ ?_ ?_ ?_ <;> simp (disch := omega) only [up2_k, up2_at]
    · exact l10
    · exact w12
    · omega
    · rw [tAdd (by omega) (by omega)]; omega
    · exact b6
    · omega
    · omega
  · simp (disch := omega) only [up2_k]
  · rw [up2_at]
  · rw [up2_row (by omega), up2_row (by omega)]
  · rw [up2_row (by omega), up2_row (by omega)]
theorem x_restF (h : Cx φ T I R (mZ τ) nS nL n) (iL : i < nL) (s0 : I (6 * i + 19) 0 = 1) (k0 : I (6 * i + 19) 10 = 0) (hq : 1 ≤ p ∧ p ≤ 20) (hc : 1 ≤ c ∧ c ≤ 4) : ∃ v J', f_X4_rest (φ 0) (Int32.ofNat i) p c (pt φ T I R τ) = some (v, pt φ T J' R τ) ∧ v ≤ 60 ∧ Cx φ T J' R (mZ τ) nS nL (n + 1) ∧ J' 0 = I 0 ∧ J' 10 = I 10 := by
  have hN := h.m.2.2.2.2.1
  have hj := h.hj
  have hx0 := h.m.2.2.2.2.2.2.2
  have T4 := h.t4 (show i < 17 by omega)
  have A := x_lotAt h (InN.of iL (by omega)) (tnK (by omega))
  have L := h.lr iL
  have Q1 := x_req (pt φ T I R τ) hq.1 hq.2
  have Q2 := x_req (pt φ T I R τ) hc.1 hc.2
  obtain ⟨-, ⟨l10, l11, l12⟩, -, -, -, w12, ⟨b4, b5, b6, b7, b8⟩, -⟩ := h.lr iL
  have z1 : (1 : Int32).toInt = 1 := rfl
  have z20 : (20 : Int32).toInt = 20 := rfl
  have z4 : (4 : Int32).toInt = 4 := rfl
  have z60 : (60 : Int32).toInt = 60 := rfl
  have p1 := leT hq.1; have p2 := leT hq.2; have c1 := leT hc.1; have c2 := leT hc.2
  have m0 : 0 ≤ p.toInt * c.toInt := Int.mul_nonneg (by omega) (by omega)
  have m1 : p.toInt * c.toInt ≤ 20 * c.toInt := Int.mul_le_mul_of_nonneg_right (by omega) (by omega)
  have e1 : (p * c).toInt = p.toInt * c.toInt := tMul (by omega) (by omega)
  have e2 : (I (6 * i + 19) 6 + p * c).toInt = (I (6 * i + 19) 6).toInt + p.toInt * c.toInt := by rw [tAdd (by omega) (by omega), e1]
  have vb : (if I (6 * i + 19) 6 + p * c < 60 then I (6 * i + 19) 6 + p * c else 60) ≤ (60 : Int32) ∧ 0 ≤ (if I (6 * i + 19) 6 + p * c < 60 then I (6 * i + 19) 6 + p * c else 60).toInt := by
    split
    · rename_i q
      exact ⟨Int32.le_iff_toInt_le.mpr (by have := ltT q; omega), by omega⟩
    · exact ⟨Int32.le_refl _, by decide⟩
  generalize hv : (if I (6 * i + 19) 6 + p * c < 60 then I (6 * i + 19) 6 + p * c else 60) = v at vb
  refine ⟨v, up2 I (6 * i + 19) 6 v, ?_, vb.1, h.lot (Nat.le_succ _) iL (fun v hv => by rw [up2_row (by omega)]) ?_ ?_, ?_, ?_⟩
  · simp (config := {decide := true}) only [b_X4_rest_42, b_X4_rest_41, b_X4_rest_0, f_X4_rest, A, Q1, Q2, x_st1, gI_pt hj, gR_pt hj, ob_pt hj, pI_pt hj, pB_pt hj, pR_pt hj, aI_pt hj, aR_pt hj, wI_pt hj, aL_pt hj, cl1_s, cl1_n, cl1_i, nul_n, nul_s, nm, dv2, dv3, dv4, dv5, dv8, dv10, dv20, dv40, bo, mI_pt hj, mT_pt hj, mZ_pt, tn0, tn1, tn2, tn3, tn4, tn5, tn6, hx0, T4, s0, k0, hv, up2_k, up2_at, ii0, ii1, ii2, ii3, ii4, if_true, if_false, ne_eq, not_false_eq_true, not_true_eq_false, true_and, and_true, false_and, and_false, and_self, true_or, or_true, false_or, or_false, or_self, Nat.reduceAdd, Nat.reduceLT, Nat.reduceLeDiff, Nat.succ_ne_zero, reduceIte, reduceCtorEq]
  · simp (disch := omega) only [up2_row]
    refine L.chg ?_ ?_ ?_ ?_ ?_ (Or.inl ?_) ?_ ?_ ?_ ?_ ?_ ?_ ?_ <;> simp (disch := omega) only [up2_k, up2_at]
    · exact l10
    · exact w12
    · omega
    · omega
    · exact ⟨vb.2, by have := leT vb.1; omega⟩
    · omega
    · omega
  · simp (disch := omega) only [up2_k]
  · rw [up2_row (by omega)]
  · rw [up2_row (by omega)]
/-! withering -/
theorem ws_b (hd : 0 ≤ d.toInt ∧ d.toInt ≤ 5760) (hc : 1 ≤ c.toInt ∧ c.toInt ≤ 3) (hx : d.toInt < (x 3).toInt ∧ (x 3).toInt ≤ 20000) (h4 : 0 ≤ (x 4).toInt ∧ (x 4).toInt ≤ 1000000) : ∀ q, q ≤ 1000 → (d.toInt ≤ (itn (ws c d) q x 3).toInt ∧ (itn (ws c d) q x 3).toInt ≤ (x 3).toInt) ∧ (0 < q → (itn (ws c d) q x 3).toInt < (x 3).toInt) ∧ (itn (ws c d) q x 4).toInt = (x 4).toInt + q := by
  have z9 : (9 : Int32).toInt = 9 := rfl
  have z1 : (1 : Int32).toInt = 1 := rfl
  intro q
  induction q with
  | zero => intro _; exact ⟨⟨by show d.toInt ≤ (x 3).toInt; omega, Int.le_refl _⟩, fun q => by omega, by show (x 4).toInt = _; omega⟩
  | succ q ih =>
    intro hq
    obtain ⟨⟨i1, i2⟩, i3, i4⟩ := ih (by omega)
    rw [itn_s]
    generalize itn (ws c d) q x = y at i1 i2 i3 i4
    have m0 : 0 ≤ (y 3).toInt * c.toInt := Int.mul_nonneg (by omega) (by omega)
    have m1 : (y 3).toInt * c.toInt ≤ (y 3).toInt * 3 := Int.mul_le_mul_of_nonneg_left (by omega) (by omega)
    have m2 : (y 3).toInt * 1 ≤ (y 3).toInt * c.toInt := Int.mul_le_mul_of_nonneg_left (by omega) (by omega)
    have e1 : (y 3 * c).toInt = (y 3).toInt * c.toInt := tMul (by omega) (by omega)
    have e2 : (y 3 * c + 9).toInt = (y 3).toInt * c.toInt + 9 := by rw [tAdd (by omega) (by omega), e1, z9]
    have e3 : ((y 3 * c + 9) / 10).toInt = ((y 3).toInt * c.toInt + 9) / 10 := by rw [divP (z := 10) 10 rfl (by omega) (by omega), e2]
    have e4 : (y 3 - (y 3 * c + 9) / 10).toInt = (y 3).toInt - ((y 3).toInt * c.toInt + 9) / 10 := by rw [tSub (by omega) (by omega), e3]
    have w3 : ws c d y 3 = if d < y 3 - (y 3 * c + 9) / 10 then y 3 - (y 3 * c + 9) / 10 else d := by simp [ws]
    have w4 : ws c d y 4 = y 4 + 1 := by simp [ws]
    have g4 : (y 4 + 1).toInt = (y 4).toInt + 1 := by rw [tAdd (by omega) (by omega), z1]
    rw [w3, w4, g4]
    refine ⟨?_, fun _ => ?_, by omega⟩
    · split
      · rename_i t; have t := ltT t; rw [e4] at t ⊢; omega
      · omega
    · split
      · rename_i t; have t := ltT t
        by_cases z : (y 3).toInt ≤ 0
        · omega
        · rw [e4]; omega
      · omega
theorem x_withF (h : Cx φ T I R (mZ τ) nS nL n) (hn : n < 600) (iL : i < nL) (s0 : I (6 * i + 19) 0 = 0) (k0 : I (6 * i + 19) 10 = 0) (hw : (I (6 * i + 19) 1).toInt < (I (6 * i + 19) 3).toInt) {m : Nat} (hm : 1 ≤ m ∧ m ≤ 20) (hc : 1 ≤ c ∧ c ≤ 3) : ∃ v J', f_X4_wither (φ 0) (Int32.ofNat i) (Int32.ofNat m) c (pt φ T I R τ) = some (v, pt φ T J' R τ) ∧ v < I (6 * i + 19) 3 ∧ J' (6 * i + 19) 3 = v ∧ I (6 * i + 19) 1 ≤ v ∧ Cx φ T J' R (mZ τ) nS nL (n + 1) ∧ J' 0 = I 0 ∧ J' 10 = I 10 := by
  have hN := h.m.2.2.2.2.1
  have hj := h.hj
  have hx0 := h.m.2.2.2.2.2.2.2
  have T4 := h.t4 (show i < 17 by omega)
  have A := x_lotAt h (InN.of iL (by omega)) (tnK (by omega))
  have L := h.lr iL
  have dr := h.dry iL
  have r1 : (1 : Int32) ≤ Int32.ofNat m := (kN_le (a := 1) (by omega) (by omega)).mpr hm.1
  have r2 : Int32.ofNat m ≤ (20 : Int32) := (kN_le (b := 20) (by omega) (by omega)).mpr hm.2
  have Q1 := x_req (pt φ T I R τ) r1 r2
  have Q2 := x_req (pt φ T I R τ) hc.1 hc.2
  have W := x_withX (I := I) (R := R) (τ := τ) (h := c) hj T4 (show m ≤ 30 by omega)
  obtain ⟨-, ⟨l10, l11, l12⟩, -, -, -, w12, ⟨b4, b5, b6, b7, b8⟩, -⟩ := h.lr iL
  have z1 : (1 : Int32).toInt = 1 := rfl
  have z3 : (3 : Int32).toInt = 3 := rfl
  have c1 := leT hc.1; have c2 := leT hc.2
  obtain ⟨⟨y1, y2⟩, y3, y4⟩ := ws_b (c := c) (x := I (6 * i + 19)) dr ⟨by omega, by omega⟩ ⟨hw, w12.2⟩ ⟨b4.1, by omega⟩ m (by omega)
  have yk : ∀ k, k ≠ 3 → k ≠ 4 → itn (ws c (I (6 * i + 19) 1)) m (I (6 * i + 19)) k = I (6 * i + 19) k := fun k k3 k4 => wsK k3 k4 m _
  generalize itn (ws c (I (6 * i + 19) 1)) m (I (6 * i + 19)) = y at W y1 y2 y3 y4 yk
  refine ⟨y 3, rowS I (6 * i + 19) y, ?_, Int32.lt_iff_toInt_lt.mpr (y3 (by omega)), by rw [rowS_at], Int32.le_iff_toInt_le.mpr y1, h.lot (Nat.le_succ _) iL (fun v hv => by rw [rowS_ne (by omega)]) ?_ ?_, ?_, ?_⟩
  · simp (config := {decide := true}) only [b_X4_wither_47, b_X4_wither_41, b_X4_wither_40, b_X4_wither_0, f_X4_wither, A, Q1, Q2, x_st1, gI_pt hj, gR_pt hj, ob_pt hj, pI_pt hj, pB_pt hj, pR_pt hj, aI_pt hj, aR_pt hj, wI_pt hj, aL_pt hj, cl1_s, cl1_n, cl1_i, nul_n, nul_s, nm, dv2, dv3, dv4, dv5, dv8, dv10, dv20, dv40, bo, mI_pt hj, mT_pt hj, mZ_pt, tn0, tn1, tn2, tn3, tn4, tn5, tn6, hx0, T4, s0, k0, W, ii0, ii1, ii2, ii3, ii4, if_true, if_false, ne_eq, not_false_eq_true, not_true_eq_false, true_and, and_true, false_and, and_false, and_self, true_or, or_true, false_or, or_false, or_self, Nat.reduceAdd, Nat.reduceLT, Nat.reduceLeDiff, Nat.succ_ne_zero, reduceIte, reduceCtorEq]
  · rw [rowS_at, rowS_ne (by omega), rowS_ne (by omega), rowS_ne (by omega), rowS_ne (by omega)]
    refine L.chg (yk 1 (by decide) (by decide)) (yk 2 (by decide) (by decide)) (yk 9 (by decide) (by decide)) (yk 11 (by decide) (by decide)) (yk 12 (by decide) (by decide)) (Or.inl (yk 0 (by decide) (by decide))) ?_ ?_ ?_ ?_ ?_ ?_ ?_
    · rw [yk 10 (by decide) (by decide)]; exact l10
    · omega
    · omega
    · rw [yk 5 (by decide) (by decide)]; omega
    · rw [yk 6 (by decide) (by decide)]; exact b6
    · rw [yk 7 (by decide) (by decide)]; omega
    · rw [yk 8 (by decide) (by decide)]; omega
  · rw [rowS_at]; exact yk 1 (by decide) (by decide)
  · rw [rowS_ne (by omega)]
  · rw [rowS_ne (by omega)]
/-! firing -/
theorem hs_b (hd : 0 ≤ d.toInt ∧ d.toInt ≤ 5760) (hh : 1 ≤ h0.toInt ∧ h0.toInt ≤ 5) (hx : 0 ≤ (x 3).toInt ∧ (x 3).toInt ≤ 20000) (h7 : 0 ≤ (x 7).toInt ∧ (x 7).toInt ≤ 1000000) (h8 : 0 ≤ (x 8).toInt ∧ (x 8).toInt ≤ 1000000) : ∀ q, q ≤ 30 → (0 ≤ (itn (hs h0 d) q x 3).toInt ∧ (itn (hs h0 d) q x 3).toInt ≤ (x 3).toInt) ∧ (0 ≤ (itn (hs h0 d) q x 7).toInt ∧ (itn (hs h0 d) q x 7).toInt ≤ (x 7).toInt + q) ∧ (0 ≤ (itn (hs h0 d) q x 8).toInt ∧ (itn (hs h0 d) q x 8).toInt ≤ (x 8).toInt + 5 * q) := by
  have z1 : (1 : Int32).toInt = 1 := rfl
  have z0 : (0 : Int32).toInt = 0 := rfl
  intro q
  induction q with
  | zero => intro _; exact ⟨⟨hx.1, Int.le_refl _⟩, ⟨h7.1, by show (x 7).toInt ≤ _; omega⟩, ⟨h8.1, by show (x 8).toInt ≤ _; omega⟩⟩
  | succ q ih =>
    intro hq
    obtain ⟨⟨i1, i2⟩, ⟨i3, i4⟩, ⟨i5, i6⟩⟩ := ih (by omega)
    rw [itn_s]
    generalize itn (hs h0 d) q x = y at i1 i2 i3 i4 i5 i6
    have e1 : (d / 20).toInt = d.toInt / 20 := divP 20 rfl (by omega) hd.1
    have e2 : (y 3 - h0).toInt = (y 3).toInt - h0.toInt := tSub (by omega) (by omega)
    have e3 : (y 3 - h0 - d / 20).toInt = (y 3).toInt - h0.toInt - d.toInt / 20 := by rw [tSub (by omega) (by omega), e2, e1]
    have g7 : (y 7 + 1).toInt = (y 7).toInt + 1 := by rw [tAdd (by omega) (by omega), z1]
    have g8 : (y 8 + h0).toInt = (y 8).toInt + h0.toInt := tAdd (by omega) (by omega)
    have w3 : hs h0 d y 3 = if 0 < y 3 - h0 - d / 20 then y 3 - h0 - d / 20 else 0 := by simp [hs]
    have w7 : hs h0 d y 7 = if d < 20 * y 3 ∧ ¬ h0 < 4 ∧ ¬ y 3 ≤ d then y 7 + 1 else y 7 := by simp [hs]
    have w8 : hs h0 d y 8 = if d < 20 * y 3 then y 8 else y 8 + h0 := by simp [hs]
    rw [w3, w7, w8]
    refine ⟨?_, ?_, ?_⟩
    · split
      · rename_i t; have t := ltT t; rw [e3, z0] at t; rw [e3]; omega
      · omega
    · split
      · omega
      · omega
    · split
      · omega
      · omega
theorem x_fireF (h : Cx φ T I R (mZ τ) nS nL n) (hn : n < 600) (iL : i < nL) (s0 : I (6 * i + 19) 0 = 1) {m : Nat} (hm : 1 ≤ m ∧ m ≤ 30) (hh : 1 ≤ h0 ∧ h0 ≤ 5) : ∃ J', f_X4_fire (φ 0) (Int32.ofNat i) h0 (Int32.ofNat m) (pt φ T I R τ) = some (itn (hs h0 (I (6 * i + 19) 1)) m (I (6 * i + 19)) 3, pt φ T J' R τ) ∧ Cx φ T J' R (mZ τ) nS nL (n + 1) ∧ 0 ≤ itn (hs h0 (I (6 * i + 19) 1)) m (I (6 * i + 19)) 3 ∧ (itn (hs h0 (I (6 * i + 19) 1)) m (I (6 * i + 19)) 3).toInt ≤ 20000 ∧ (¬ I (6 * i + 19) 1 < 20 * itn (hs h0 (I (6 * i + 19) 1)) m (I (6 * i + 19)) 3 → J' (6 * i + 19) 0 = 2) ∧ J' 0 = I 0 ∧ J' 10 = I 10 := by
  have hN := h.m.2.2.2.2.1
  have hj := h.hj
  have hx0 := h.m.2.2.2.2.2.2.2
  have T4 := h.t4 (show i < 17 by omega)
  have A := x_lotAt h (InN.of iL (by omega)) (tnK (by omega))
  have L := h.lr iL
  have dr := h.dry iL
  have r1 : (1 : Int32) ≤ Int32.ofNat m := (kN_le (a := 1) (by omega) (by omega)).mpr hm.1
  have r2 : Int32.ofNat m ≤ (30 : Int32) := (kN_le (b := 30) (by omega) (by omega)).mpr hm.2
  have Q1 := x_req (pt φ T I R τ) r1 r2
  have Q2 := x_req (pt φ T I R τ) hh.1 hh.2
  have W := x_fireX (I := I) (R := R) (τ := τ) (h := h0) hj T4 (show m ≤ 30 by omega)
  obtain ⟨-, ⟨l10, l11, l12⟩, -, -, -, w12, ⟨b4, b5, b6, b7, b8⟩, ⟨-, l9⟩, -, ⟨-, -, la⟩, -⟩ := h.lr iL
  have z1 : (1 : Int32).toInt = 1 := rfl
  have z0 : (0 : Int32).toInt = 0 := rfl
  have z5 : (5 : Int32).toInt = 5 := rfl
  have c1 := leT hh.1; have c2 := leT hh.2
  have la0 : I (6 * i + 22) 0 = 0 := by
    by_cases c : I (6 * i + 22) 0 = 0
    · exact c
    · have := la c; rw [this] at s0; exact absurd s0 (by decide)
  obtain ⟨⟨y1, y2⟩, ⟨y3, y4⟩, ⟨y5, y6⟩⟩ := hs_b (x := I (6 * i + 19)) (h0 := h0) dr ⟨by omega, by omega⟩ w12 ⟨b7.1, by omega⟩ ⟨b8.1, by omega⟩ m hm.2
  have yk : ∀ k, k ≠ 3 → k ≠ 7 → k ≠ 8 → itn (hs h0 (I (6 * i + 19) 1)) m (I (6 * i + 19)) k = I (6 * i + 19) k := fun k k3 k4 k5 => hsK k3 k4 k5 m _
  generalize itn (hs h0 (I (6 * i + 19) 1)) m (I (6 * i + 19)) = y at W y1 y2 y3 y4 y5 y6 yk
  have nn : (0 : Int32) ≤ y 3 := Int32.le_iff_toInt_le.mpr (by rw [z0]; exact y1)
  by_cases cd : I (6 * i + 19) 1 < 20 * y 3
  · rw [if_pos cd] at W
    refine ⟨rowS I (6 * i + 19) y, ?_, h.lot (Nat.le_succ _) iL (fun v hv => by rw [rowS_ne (by omega)]) ?_ ?_, nn, by omega, fun q => absurd cd q, ?_, ?_⟩
    · simp (config := {decide := true}) only [b_X4_fire_72, b_X4_fire_40, b_X4_fire_34, b_X4_fire_0, f_X4_fire, A, Q1, Q2, x_st1, gI_pt hj, gR_pt hj, ob_pt hj, pI_pt hj, pB_pt hj, pR_pt hj, aI_pt hj, aR_pt hj, wI_pt hj, aL_pt hj, cl1_s, cl1_n, cl1_i, nul_n, nul_s, nm, dv2, dv3, dv4, dv5, dv8, dv10, dv20, dv40, bo, mI_pt hj, mT_pt hj, mZ_pt, tn0, tn1, tn2, tn3, tn4, tn5, tn6, hx0, T4, s0, W, ii0, ii1, ii2, ii3, ii4, if_true, if_false, ne_eq, not_false_eq_true, not_true_eq_false, true_and, and_true, false_and, and_false, and_self, true_or, or_true, false_or, or_false, or_self, Nat.reduceAdd, Nat.reduceLT, Nat.reduceLeDiff, Nat.succ_ne_zero, reduceIte, reduceCtorEq]
    · rw [rowS_at, rowS_ne (by omega), rowS_ne (by omega), rowS_ne (by omega), rowS_ne (by omega)]
      refine L.chg (yk 1 (by decide) (by decide) (by decide)) (yk 2 (by decide) (by decide) (by decide)) (yk 9 (by decide) (by decide) (by decide)) (yk 11 (by decide) (by decide) (by decide)) (yk 12 (by decide) (by decide) (by decide)) (Or.inl (yk 0 (by decide) (by decide) (by decide))) ?_ ?_ ?_ ?_ ?_ ?_ ?_
      · rw [yk 10 (by decide) (by decide) (by decide)]; exact l10
      · omega
      · rw [yk 4 (by decide) (by decide) (by decide)]; omega
      · rw [yk 5 (by decide) (by decide) (by decide)]; omega
      · rw [yk 6 (by decide) (by decide) (by decide)]; exact b6
      · omega
      · omega
    · rw [rowS_at]; exact yk 1 (by decide) (by decide) (by decide)
    · rw [rowS_ne (by omega)]
    · rw [rowS_ne (by omega)]
  · rw [if_neg cd] at W
    refine ⟨up2 (rowS I (6 * i + 19) y) (6 * i + 19) 0 2, ?_, h.lot (Nat.le_succ _) iL (fun v hv => by rw [up2_row (by omega), rowS_ne (by omega)]) ?_ ?_, nn, by omega, fun _ => up2_at, ?_, ?_⟩
    · simp (config := {decide := true}) only [b_X4_fire_72, b_X4_fire_40, b_X4_fire_34, b_X4_fire_0, f_X4_fire, A, Q1, Q2, x_st1, gI_pt hj, gR_pt hj, ob_pt hj, pI_pt hj, pB_pt hj, pR_pt hj, aI_pt hj, aR_pt hj, wI_pt hj, aL_pt hj, cl1_s, cl1_n, cl1_i, nul_n, nul_s, nm, dv2, dv3, dv4, dv5, dv8, dv10, dv20, dv40, bo, mI_pt hj, mT_pt hj, mZ_pt, tn0, tn1, tn2, tn3, tn4, tn5, tn6, hx0, T4, s0, W, ii0, ii1, ii2, ii3, ii4, if_true, if_false, ne_eq, not_false_eq_true, not_true_eq_false, true_and, and_true, false_and, and_false, and_self, true_or, or_true, false_or, or_false, or_self, Nat.reduceAdd, Nat.reduceLT, Nat.reduceLeDiff, Nat.succ_ne_zero, reduceIte, reduceCtorEq]
    · have u0 : up2 (rowS I (6 * i + 19) y) (6 * i + 19) 0 2 (6 * i + 19) 0 = 2 := up2_at
      have uk : ∀ k, k ≠ 0 → up2 (rowS I (6 * i + 19) y) (6 * i + 19) 0 2 (6 * i + 19) k = y k := fun k hk => by rw [up2_k hk, rowS_at]
      rw [up2_row (show 6 * i + 20 ≠ 6 * i + 19 by omega), up2_row (show 6 * i + 21 ≠ 6 * i + 19 by omega), up2_row (show 6 * i + 22 ≠ 6 * i + 19 by omega), up2_row (show 6 * i + 23 ≠ 6 * i + 19 by omega), rowS_ne (by omega), rowS_ne (by omega), rowS_ne (by omega), rowS_ne (by omega)]
      refine L.chg ?_ ?_ ?_ ?_ ?_ (Or.inr ⟨by rw [s0]; decide, la0, Or.inr u0⟩) ?_ ?_ ?_ ?_ ?_ ?_ ?_
      · rw [uk 1 (by decide)]; exact yk 1 (by decide) (by decide) (by decide)
      · rw [uk 2 (by decide)]; exact yk 2 (by decide) (by decide) (by decide)
      · rw [uk 9 (by decide)]; exact yk 9 (by decide) (by decide) (by decide)
      · rw [uk 11 (by decide)]; exact yk 11 (by decide) (by decide) (by decide)
      · rw [uk 12 (by decide)]; exact yk 12 (by decide) (by decide) (by decide)
      · rw [uk 10 (by decide), yk 10 (by decide) (by decide) (by decide)]; exact l10
      · rw [uk 3 (by decide)]; omega
      · rw [uk 4 (by decide), yk 4 (by decide) (by decide) (by decide)]; omega
      · rw [uk 5 (by decide), yk 5 (by decide) (by decide) (by decide)]; omega
      · rw [uk 6 (by decide), yk 6 (by decide) (by decide) (by decide)]; exact b6
      · rw [uk 7 (by decide)]; omega
      · rw [uk 8 (by decide)]; omega
    · rw [up2_k (by decide), rowS_at]; exact yk 1 (by decide) (by decide) (by decide)
    · rw [up2_row (by omega), rowS_ne (by omega)]
    · rw [up2_row (by omega), rowS_ne (by omega)]
end K1
