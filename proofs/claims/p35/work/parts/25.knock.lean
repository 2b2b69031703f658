/-! KNOCK -/
section KN
variable {φ : Nat → Nat} {T : Nat → Nat × Nat} {I J : Nat → Nat → Int32} {R : Nat → Nat → Option Nat} {τ : Mem} {nS nL n z : Nat}
variable {i k j q w : Nat} {p c f more : Int32} {x y : Nat → Int32} {d h0 : Int32}
/-- the price is no more than the bid -/
theorem pr_b (h : Cx φ T I R z nS nL n) (iL : i < nL) (hj4 : j < 4) (ho : ¬ I (6 * i + 22) 0 ≤ 0) (hb : okB I i j = true) : 0 ≤ (prV I i j).toInt ∧ (prV I i j).toInt ≤ (I (6 * i + 23) j).toInt ∧ (I (6 * i + 23) j).toInt ≤ 99 := by
  obtain ⟨-, -, -, -, -, -, -, -, -, q10, q11⟩ := h.lr iL
  obtain ⟨o1, o2, o3⟩ := okB_t hb
  have z0 : (0 : Int32).toInt = 0 := rfl
  have z1 : (1 : Int32).toInt = 1 := rfl
  have zn : (-1 : Int32).toInt = -1 := rfl
  have p1 := ltT (Int32.not_le.mp o1)
  have p2 := leT (Int32.not_lt.mp o2)
  have pj := q11 j hj4
  unfold prV
  split
  · omega
  · rename_i c
    rcases rv_ok (I := I) (i := i) (j := j) 4 with e | ⟨q, q4, e, eb⟩
    · exact absurd e c
    · have pq := q11 q q4
      have o := okB_t eb
      have p3 := ltT (Int32.not_le.mp o.1)
      have e1 : (rvV I i j 4 + 1).toInt = (I (6 * i + 23) q).toInt + 1 := by rw [e, tAdd (by omega) (by omega), z1]
      split
      · rename_i c2
        have := ltT c2
        omega
      · omega
theorem cost_b (h : Cx φ T I R z nS nL n) (iL : i < nL) (hj4 : j < 4) (ho : ¬ I (6 * i + 22) 0 ≤ 0) (hb : okB I i j = true) : 0 ≤ (prV I i j * I (6 * i + 19) 1 / 10).toInt ∧ (prV I i j * I (6 * i + 19) 1 / 10).toInt ≤ (I 10 j).toInt ∧ (prV I i j * I (6 * i + 19) 1 / 10).toInt ≤ 60000 := by
  obtain ⟨p1, p2, p3⟩ := pr_b h iL hj4 ho hb
  obtain ⟨d1, d2⟩ := h.dry iL
  obtain ⟨o1, o2, o3⟩ := okB_t hb
  have o3' := leT (Int32.not_lt.mp o3)
  have m0 : 0 ≤ (prV I i j).toInt * (I (6 * i + 19) 1).toInt := Int.mul_nonneg p1 d1
  have m1 : (prV I i j).toInt * (I (6 * i + 19) 1).toInt ≤ (I (6 * i + 23) j).toInt * (I (6 * i + 19) 1).toInt := Int.mul_le_mul_of_nonneg_right p2 d1
  have m2 : (I (6 * i + 23) j).toInt * (I (6 * i + 19) 1).toInt ≤ 99 * (I (6 * i + 19) 1).toInt := Int.mul_le_mul_of_nonneg_right p3 d1
  have e1 : (prV I i j * I (6 * i + 19) 1).toInt = (prV I i j).toInt * (I (6 * i + 19) 1).toInt := tMul (by omega) (by omega)
  have e2 : (I (6 * i + 23) j * I (6 * i + 19) 1).toInt = (I (6 * i + 23) j).toInt * (I (6 * i + 19) 1).toInt := tMul (by omega) (by omega)
  have e3 := divP (v := prV I i j * I (6 * i + 19) 1) (z := 10) 10 rfl (by omega) (by omega)
  have e4 := divP (v := I (6 * i + 23) j * I (6 * i + 19) 1) (z := 10) 10 rfl (by omega) (by omega)
  rw [e4, e2] at o3'
  rw [e3, e1]
  refine ⟨by omega, by omega, by omega⟩
theorem sumZ_upd {f g : Nat → Int} {n i : Nat} {d : Int} (hi : i < n) (h : ∀ j, j < n → j ≠ i → g j = f j) (hd : g i = f i - d) : sumZ g n = sumZ f n - d := by
  induction n with
  | zero => omega
  | succ n ih =>
    simp only [sumZ]
    by_cases c : i = n
    · subst c
      rw [hd, sumZ_congr (g := f) (fun j hj => h j (by omega) (by omega))]; omega
    · rw [ih (by omega) (fun j hj hne => h j (by omega) hne), h n (by omega) (fun q => c q.symm)]; omega
theorem x_knockF (h : Cx φ T I R (mZ τ) nS nL n) {P : Int} (hM : Mon I P n) (hn : n < 600) (iL : i < nL) (ho : ¬ I (6 * i + 22) 0 ≤ 0) : ∃ b J', f_X4_knock (φ 0) (Int32.ofNat i) (pt φ T I R τ) = some (b, pt φ T J' R τ) ∧ Cx φ T J' R (mZ τ) nS nL (n + 1) ∧ Mon J' P (n + 1) ∧ J' 0 8 = I 0 8 + WV I i ∧ J' (6 * i + 22) 0 = 0 ∧ (∀ k, k < 4 → J' (6 * i + 23) k = 0) ∧ ((b = -1 ∧ J' (6 * i + 19) 0 = 2 ∧ WV I i = 0 ∧ J' 0 10 = I 0 10) ∨ (0 ≤ b ∧ J' (6 * i + 19) 0 = 3 ∧ J' 0 10 = I 0 10 + I (6 * i + 19) 1)) := by
  have hN := h.m.2.2.2.2.1
  have hS4 := h.m.2.2.2.2.2.1
  have hj := h.hj
  have hx0 := h.m.2.2.2.2.2.2.2
  have T4 := h.t4 (show i < 17 by omega)
  have A := x_lotAt h (InN.of iL (by omega)) (tnK (by omega))
  have W := x_winner (τ := τ) h (show i < 17 by omega)
  obtain ⟨R15, T3⟩ : R (6 * i + 19) 15 = some (φ (6 * i + 22)) ∧ T (6 * i + 22) = (1, 0) := by
    obtain ⟨hj, hl, hx, ⟨hm22, hm23⟩, hr⟩ := h; obtain ⟨hx0, hx1, hx2, hx3, hx4, hx5, hx6, hx7, hx8, hx9, hx10, hx11, hx12, hx13, hx14, hx15, hx16, hx17, hx18, hx19, hx20, hx21, hx22, hx23, hx24, hx25, hx26, hx27⟩ := hx; obtain ⟨⟨g1, g2⟩, r1, r2, r3, r4, r5, r6, r7⟩ := hr
    exact ⟨hx18 i (by omega), hx21 i (by omega)⟩
  have O := x_isOpen (I := I) (R := R) (τ := τ) hj T3
  rw [if_neg ho] at O
  have z0 : (0 : Int32).toInt = 0 := rfl
  have z1 : (1 : Int32).toInt = 1 := rfl
  have a0 : I (6 * i + 22) 0 ≠ 0 := fun q => ho (by rw [q]; exact Int32.le_refl _)
  obtain ⟨q1, q2, q3, q4, q5, q6, q7, q8, q9, q10, q11⟩ := h.lr iL
  have s2 := q10.2.2 a0
  have s3 : I (6 * i + 19) 0 ≠ 3 := by rw [s2]; decide
  rcases wn_ok (I := I) (i := i) 4 with e | ⟨j, j4, e, eb⟩
  · have V : WV I i = 0 := by rw [WV, if_pos e]
    rw [e] at W
    obtain ⟨JC, C1, C2, C3, C4, C5⟩ := x_close (J := I) (τ := τ) h (show i < 17 by omega)
    refine ⟨-1, JC, ?_, h.lot (Nat.le_succ _) iL (fun v hv => C2 v (by omega) (by omega)) ?_ (by rw [C2 _ (by omega) (by omega)]), hM.same (Nat.le_succ _) (by rw [C2 0 (by omega) (by omega)]) (C2 10 (by omega) (by omega)), by rw [C2 0 (by omega) (by omega), V, Int32.add_zero], C3, C5, Or.inl ⟨rfl, by rw [C2 _ (by omega) (by omega)]; exact s2, V, by rw [C2 0 (by omega) (by omega)]⟩⟩
    · simp (config := {decide := true}) only [b_X4_knock_88, b_X4_knock_0, f_X4_knock, A, O, W, x_st1, C1, gI_pt hj, gR_pt hj, ob_pt hj, pI_pt hj, pB_pt hj, pR_pt hj, aI_pt hj, aR_pt hj, wI_pt hj, aL_pt hj, cl1_s, cl1_n, cl1_i, nul_n, nul_s, nm, dv2, dv3, dv4, dv5, dv8, dv10, dv20, dv40, bo, mI_pt hj, mT_pt hj, mZ_pt, tn0, tn1, tn2, tn3, tn4, tn5, tn6, hx0, T4, R15, T3, ii0, ii1, ii2, ii3, ii4, if_true, if_false, ne_eq, not_false_eq_true, not_true_eq_false, true_and, and_true, false_and, and_false, and_self, true_or, or_true, false_or, or_false, or_self, Nat.reduceAdd, Nat.reduceLT, Nat.reduceLeDiff, Nat.succ_ne_zero, reduceIte, reduceCtorEq]
    · rw [C2 (6 * i + 19) (by omega) (by omega), C2 (6 * i + 20) (by omega) (by omega), C2 (6 * i + 21) (by omega) (by omega)]
      refine LotR.mono (Nat.le_succ n) ⟨q1, q2, q3, q4, q5, q6, q7, q8, q9, ?_, fun k hk => ?_⟩
      · rw [C3]; exact ⟨by decide, by decide, fun q => absurd rfl q⟩
      · rw [C5 k hk]; exact ⟨by decide, by decide, fun _ => rfl⟩
  · have jn := oN_neg (j := j) (by omega)
    have j5 := kN_nn (a := j) (by omega)
    have j6 := tnK (k := j) (by omega)
    have PR := x_price (τ := τ) h (show i < 17 by omega) j4
    have V : WV I i = prV I i j * I (6 * i + 19) 1 / 10 := by rw [WV, if_neg (by rw [e]; exact jn), e, tnK (by omega)]
    rw [e] at W
    have CO := x_cost (I := I) (R := R) (τ := τ) hj T4 (prV I i j)
    obtain ⟨k0, k1, k2⟩ := cost_b h iL j4 ho eb
    rw [← V] at k0 k1 k2 CO
    generalize WV I i = cv at k0 k1 k2 CO V
    obtain ⟨hm1, hm2, hm3⟩ := hM
    have pj := hm1 j j4
    have n10 : (0 : Nat) ≠ 10 := by decide
    have nr : 6 * i + 19 ≠ 10 := by omega
    have nr0 : 6 * i + 19 ≠ 0 := by omega
    -- the ints as they are ahead of vanish
    generalize hJ : up2 (up2 (up2 (up2 I 10 j (I 10 j - cv)) 0 8 (I 0 8 + cv)) 0 9 (I 0 9 + 1)) 0 10 (I 0 10 + I (6 * i + 19) 1) = JA
    have a1 : ∀ v, v ≠ 0 → v ≠ 10 → JA v = I v := fun v h1 h2 => by rw [← hJ, up2_row h1, up2_row h1, up2_row h1, up2_row h2]
    have a2 : ∀ k, k ≠ 8 → k ≠ 9 → k ≠ 10 → JA 0 k = I 0 k := fun k h1 h2 h3 => by rw [← hJ, up2_k h3, up2_k h2, up2_k h1, up2_row n10]
    have a8 : JA 0 8 = I 0 8 + cv := by rw [← hJ, up2_k (by decide), up2_k (by decide), up2_at]
    have a10 : JA 0 10 = I 0 10 + I (6 * i + 19) 1 := by rw [← hJ, up2_at]
    have p10 : JA 10 j = I 10 j - cv := by rw [← hJ, up2_row (by decide), up2_row (by decide), up2_row (by decide), up2_at]
    have pk : ∀ k, k ≠ j → JA 10 k = I 10 k := fun k hk => by rw [← hJ, up2_row (by decide), up2_row (by decide), up2_row (by decide), up2_k hk]
    obtain ⟨JV, V1, V2, V3, V4, V5, V6⟩ := x_vanish (J := JA) (τ := τ) h (show i < 17 by omega)
    obtain ⟨JC, C1, C2, C3, C4, C5⟩ := x_close (J := JV) (τ := τ) h (show i < 17 by omega)
    have kk : ∀ v, v ≠ 0 → v ≠ 10 → (v < 6 * i + 19 ∨ 6 * i + 24 ≤ v ∨ v = 6 * i + 21) → JC v = I v := fun v h1 h2 h3 => by rw [C2 v (by omega) (by omega), V2 v (by omega) (by omega), a1 v h1 h2]
    have c0 : ∀ k, JC 0 k = JA 0 k := fun k => by rw [C2 0 (by omega) (by omega), V2 0 (by omega) (by omega)]
    have c10 : ∀ k, JC 10 k = JA 10 k := fun k => by rw [C2 10 (by omega) (by omega), V2 10 (by omega) (by omega)]
    have l0 : JC (6 * i + 19) 0 = 3 := by rw [C2 _ (by omega) (by omega)]; exact V3
    have l1 : JC (6 * i + 19) 1 = 0 := by rw [C2 _ (by omega) (by omega)]; exact V4
    have lk : ∀ k, k ≠ 0 → k ≠ 1 → JC (6 * i + 19) k = I (6 * i + 19) k := fun k h1 h2 => by rw [C2 _ (by omega) (by omega), V5 k h1 h2, a1 _ nr0 nr]
    have lu : ∀ k, k < 4 → JC (6 * i + 20) k = 0 := fun k hk => by rw [C2 _ (by omega) (by omega)]; exact V6 k hk
    have LN : LotR nS (JC (6 * i + 19)) (JC (6 * i + 20)) (JC (6 * i + 21)) (JC (6 * i + 22)) (JC (6 * i + 23)) (n + 1) := by
      rw [kk (6 * i + 21) (by omega) (by omega) (by omega)]
      refine LotR.mono (Nat.le_succ n) ?_
      unfold LotR
      rw [l0, l1, lk 2 (by decide) (by decide), lk 3 (by decide) (by decide), lk 4 (by decide) (by decide), lk 5 (by decide) (by decide), lk 6 (by decide) (by decide), lk 7 (by decide) (by decide), lk 8 (by decide) (by decide), lk 9 (by decide) (by decide), lk 10 (by decide) (by decide), lk 11 (by decide) (by decide), lk 12 (by decide) (by decide), C3, lu 0 (by omega), lu 1 (by omega), lu 2 (by omega), lu 3 (by omega)]
      refine ⟨Or.inr (Or.inr (Or.inr rfl)), q2, ⟨fun k hk => by rw [lu k hk]; decide, rfl, fun k _ hk => lu k hk⟩, ⟨fun _ => rfl, fun q => absurd rfl q⟩, ⟨q5.1, fun q => absurd rfl q⟩, q6, q7, ⟨q8.1, fun q => absurd q (by decide)⟩, q9, ⟨by decide, by decide, fun q => absurd rfl q⟩, fun k hk => ?_⟩
      rw [C5 k hk]; exact ⟨by decide, by decide, fun _ => rfl⟩
    have dr := h.dry iL
    have SR := h.2.2.2.2.2.2.2.2.2.2.2
    obtain ⟨s11, s10, sM⟩ := SR
    have ds : dryS JC nL = dryS I nL - (I (6 * i + 19) 1).toInt := by
      unfold dryS
      refine sumZ_upd iL (fun j hj hne => ?_) ?_
      · show (JC (6 * j + 19) 1).toInt = _
        rw [kk (6 * j + 19) (by omega) (by omega) (by omega)]
      · show (JC (6 * i + 19) 1).toInt = _
        rw [l1, z0]; omega
    have nn : 0 ≤ dryS I nL := sumZ_nn (fun j hj => (h.dry hj).1)
    have le1 : (I (6 * i + 19) 1).toInt ≤ dryS I nL := sumZ_le (f := fun i => (I (6 * i + 19) 1).toInt) (fun j hj => (h.dry hj).1) iL
    have e10 : (I 0 10 + I (6 * i + 19) 1).toInt = (I 0 10).toInt + (I (6 * i + 19) 1).toInt := tAdd (by omega) (by omega)
    have u0 := hm1 0 (by omega); have u1 := hm1 1 (by omega); have u2 := hm1 2 (by omega); have u3 := hm1 3 (by omega)
    have e8 : (I 0 8 + cv).toInt = (I 0 8).toInt + cv.toInt := tAdd (by omega) (by omega)
    have ej : (I 10 j - cv).toInt = (I 10 j).toInt - cv.toInt := tSub (by omega) (by omega)
    refine ⟨Int32.ofNat j, JC, ?_, ⟨h.1, h.2.1, h.2.2.1, ⟨hS4, hN⟩, ⟨by rw [c0, a2 1 (by decide) (by decide) (by decide)]; exact h.2.2.2.2.1.1, by rw [c0, a2 4 (by decide) (by decide) (by decide)]; exact h.2.2.2.2.1.2⟩, fun k hk => ?_, fun k y1 y2 => ?_, fun k hk => ?_, fun k y1 y2 => ?_, fun k hk => ?_, ?_, ?_⟩, ⟨fun k hk => ?_, ?_, by omega⟩, by rw [c0, a8], C3, C5, Or.inr ⟨Int32.not_lt.mp j5, l0, by rw [c0, a10]⟩⟩
    · have RUN : f_X4_knock (φ 0) (Int32.ofNat i) (pt φ T I R τ) = b_X4_knock_88 (some (φ (6 * i + 19))) (Int32.ofNat j) (pt φ T JV R τ) := by
        obtain ⟨r5, t9⟩ : R 0 7 = some (φ 10) ∧ T 10 = (100, 4) := by
          obtain ⟨hj, hl, hx, ⟨hm22, hm23⟩, hr⟩ := h; obtain ⟨hx0, hx1, hx2, hx3, hx4, hx5, hx6, hx7, hx8, hx9, hx10, hx11, hx12, hx13, hx14, hx15, hx16, hx17, hx18, hx19, hx20, hx21, hx22, hx23, hx24, hx25, hx26, hx27⟩ := hx; obtain ⟨⟨g1, g2⟩, r1, r2, r3, r4, r5, r6, r7⟩ := hr
          exact ⟨hx5, hx9⟩
        subst hJ
        simp (config := {decide := true}) only [f_X4_knock, b_X4_knock_0, A, O, W, PR, CO, x_st1, jn, j5, j6, j4, V1, gI_pt hj, gR_pt hj, ob_pt hj, pI_pt hj, pB_pt hj, pR_pt hj, aI_pt hj, aR_pt hj, wI_pt hj, aL_pt hj, cl1_s, cl1_n, cl1_i, nul_n, nul_s, nm, dv2, dv3, dv4, dv5, dv8, dv10, dv20, dv40, bo, mI_pt hj, mT_pt hj, mZ_pt, tn0, tn1, tn2, tn3, tn4, tn5, tn6, hx0, r5, t9, T4, R15, T3, up2_row (show (0 : Nat) ≠ 10 by decide), up2_row nr0, up2_row nr, up2_k, ii0, ii1, ii2, ii3, ii4, if_true, if_false, ne_eq, not_false_eq_true, not_true_eq_false, true_and, and_true, false_and, and_false, and_self, true_or, or_true, false_or, or_false, or_self, Nat.reduceAdd, Nat.reduceLT, Nat.reduceLeDiff, Nat.succ_ne_zero, reduceIte, reduceCtorEq]
      rw [RUN, b_X4_knock_88, gR_pt hj (by rw [T4]), R15, ob_pt hj (by rw [T3]), C1, cl1_s]
    · by_cases c : k = i
      · subst c; exact LN
      · rw [kk (6 * k + 19) (by omega) (by omega) (by omega), kk (6 * k + 20) (by omega) (by omega) (by omega), kk (6 * k + 21) (by omega) (by omega) (by omega), kk (6 * k + 22) (by omega) (by omega) (by omega), kk (6 * k + 23) (by omega) (by omega) (by omega)]
        exact (h.lr hk).mono (Nat.le_succ _)
    · rw [kk (6 * k + 19) (by omega) (by omega) (by omega), kk (6 * k + 20) (by omega) (by omega) (by omega), kk (6 * k + 21) (by omega) (by omega) (by omega), kk (6 * k + 22) (by omega) (by omega) (by omega), kk (6 * k + 23) (by omega) (by omega) (by omega)]
      exact h.2.2.2.2.2.2.1 k y1 y2
    · rw [kk (2 * k + 11) (by omega) (by omega) (by omega), kk (2 * k + 12) (by omega) (by omega) (by omega)]
      exact (h.sr hk).mono (Nat.le_succ _)
    · rw [kk (2 * k + 11) (by omega) (by omega) (by omega), kk (2 * k + 12) (by omega) (by omega) (by omega)]
      exact h.2.2.2.2.2.2.2.2.1 k y1 y2
    · rw [kk (k + 3) (by omega) (by omega) (by omega)]; exact (h.tr hk).mono (Nat.le_succ _)
    · rw [kk 115 (by omega) (by omega) (by omega)]; exact h.2.2.2.2.2.2.2.2.2.2.1
    · unfold SumR
      rw [ds, c0, c0, a2 11 (by decide) (by decide) (by decide), a10, e10]
      exact ⟨by omega, by omega, sM⟩
    · rw [c10]
      by_cases c : k = j
      · subst c; rw [p10, ej]; omega
      · rw [pk k c]; have := hm1 k hk; omega
    · rw [c0, c10, c10, c10, c10, a8, e8]
      rcases (show j = 0 ∨ j = 1 ∨ j = 2 ∨ j = 3 by omega) with rfl | rfl | rfl | rfl
      · rw [p10, pk 1 (by decide), pk 2 (by decide), pk 3 (by decide), ej]; omega
      · rw [p10, pk 0 (by decide), pk 2 (by decide), pk 3 (by decide), ej]; omega
      · rw [p10, pk 0 (by decide), pk 1 (by decide), pk 3 (by decide), ej]; omega
      · rw [p10, pk 0 (by decide), pk 1 (by decide), pk 2 (by decide), ej]; omega
end KN
