/-! PLUCK -/
section PR
variable {φ : Nat → Nat} {T : Nat → Nat × Nat} {I J : Nat → Nat → Int32} {R : Nat → Nat → Option Nat} {τ : Mem} {nS nL n z : Nat}
variable {a k i j s c g q st : Nat} {p r hands hd ol yg most tt : Int32} {τ0 τ1 : Mem}
theorem x_pl109 (h : Cx φ T I R z nS nL n) (hn : nL < 16) (sL : s < nS) (h1 : ¬ p < 0) (h2 : p.toNatClampNeg = s) : ∃ JX, b_X4_pluck_109 (φ 0) p hands (some (φ (2 * s + 11))) hd ol yg 1 (pt φ T I R τ) = some ((Int32.ofNat nL), pt φ T JX R τ) ∧ (∀ v, v ≠ 0 → v ≠ 2 * s + 11 → v ≠ 2 * s + 12 → v ≠ 6 * nL + 19 → v ≠ 6 * nL + 20 → JX v = I v) ∧
    JX 0 4 = Int32.ofNat (nL + 1) ∧ JX 0 8 = I 0 8 - 2 * hands ∧ JX 0 11 = I 0 11 + (5 * hd + 4 * ol + 3 * yg) ∧ (∀ k, k ≠ 4 → k ≠ 8 → k ≠ 11 → JX 0 k = I 0 k) ∧
    JX (2 * s + 11) 6 = I (2 * s + 11) 6 - hd ∧ (∀ k, k ≠ 6 → JX (2 * s + 11) k = I (2 * s + 11) k) ∧ JX (2 * s + 12) 3 = I (2 * s + 12) 3 - ol ∧ JX (2 * s + 12) 2 = I (2 * s + 12) 2 - yg ∧ (∀ k, k ≠ 3 → k ≠ 2 → JX (2 * s + 12) k = I (2 * s + 12) k) ∧
    JX (6 * nL + 19) 0 = 0 ∧ JX (6 * nL + 19) 1 = 5 * hd + 4 * ol + 3 * yg ∧ JX (6 * nL + 19) 2 = 3 * yg ∧ JX (6 * nL + 19) 3 = 3 * (5 * hd + 4 * ol + 3 * yg) ∧ JX (6 * nL + 19) 11 = (if I (2 * s + 11) 5 ≤ 0 then 0 else 1) ∧ (∀ k, k ≠ 0 → k ≠ 1 → k ≠ 2 → k ≠ 3 → k ≠ 11 → JX (6 * nL + 19) k = I (6 * nL + 19) k) ∧
    JX (6 * nL + 20) s = 5 * hd + 4 * ol + 3 * yg ∧ (∀ k, k ≠ s → JX (6 * nL + 20) k = I (6 * nL + 20) k) := by
  have hSS := h.m.2.2.2.2.2.1
  obtain ⟨hj, hl, hx, ⟨hm22, hm23⟩, hr⟩ := h; obtain ⟨hx0, hx1, hx2, hx3, hx4, hx5, hx6, hx7, hx8, hx9, hx10, hx11, hx12, hx13, hx14, hx15, hx16, hx17, hx18, hx19, hx20, hx21, hx22, hx23, hx24, hx25, hx26, hx27⟩ := hx; obtain ⟨⟨g1, g2⟩, r1, r2, r3, r4, r5, r6, r7⟩ := hr
  have s4 : s < 4 := by omega
  have n17 : nL < 17 := by omega
  have e1 : (2 * s + 11) ≠ 0 := by omega
  have e2 : (2 * s + 12) ≠ 0 := by omega
  have e3 : (2 * s + 12) ≠ 2 * s + 11 := by omega
  have e4 : (6 * nL + 19) ≠ 0 := by omega
  have e5 : (6 * nL + 19) ≠ 2 * s + 11 := by omega
  have e6 : (6 * nL + 19) ≠ 2 * s + 12 := by omega
  have e7 : (6 * nL + 19) ≠ 6 * nL + 20 := by omega
  have e8 : (2 * s + 11) ≠ 6 * nL + 19 := by omega
  have e9 : (2 * s + 11) ≠ 6 * nL + 20 := by omega
  have e10 : (2 * s + 11) ≠ 2 * s + 12 := by omega
  have e11 : (0 : Nat) ≠ 6 * nL + 19 := by omega
  have e12 : (0 : Nat) ≠ 6 * nL + 20 := by omega
  have e13 : (0 : Nat) ≠ 2 * s + 11 := by omega
  have e14 : (0 : Nat) ≠ 2 * s + 12 := by omega
  have c1 : ¬ (16 : Int32) ≤ Int32.ofNat nL := by rw [show (16 : Int32) = Int32.ofNat 16 from rfl, kN_le (by omega) (by omega)]; omega
  have c2 := kN_nn (a := nL) (by omega)
  have c3 := tnK (k := nL) (by omega)
  have sb : Int32.ofNat (nL + 1) - 1 = Int32.ofNat nL := by rw [← kN_s]; exact Int32.add_sub_cancel _ _
  have RUN : ∃ JX, b_X4_pluck_109 (φ 0) p hands (some (φ (2 * s + 11))) hd ol yg 1 (pt φ T I R τ) = some ((Int32.ofNat nL), pt φ T JX R τ) ∧ JX = up2 (up2 (up2 (up2 (up2 (up2 (up2 (up2 (up2 (up2 (up2 (up2 I 0 4 (Int32.ofNat (nL + 1))) (2 * s + 11) 6 (I (2 * s + 11) 6 - hd)) (2 * s + 12) 3 (I (2 * s + 12) 3 - ol)) (2 * s + 12) 2 (I (2 * s + 12) 2 - yg)) (6 * nL + 19) 0 0) (6 * nL + 19) 2 (3 * yg)) (6 * nL + 19) 1 (5 * hd + 4 * ol + 3 * yg)) (6 * nL + 20) s (5 * hd + 4 * ol + 3 * yg)) (6 * nL + 19) 3 (3 * (5 * hd + 4 * ol + 3 * yg))) (6 * nL + 19) 11 (if I (2 * s + 11) 5 ≤ 0 then 0 else 1)) 0 8 (I 0 8 - 2 * hands)) 0 11 (I 0 11 + (5 * hd + 4 * ol + 3 * yg)) := by
    refine ⟨_, ?_, rfl⟩
    by_cases c : I (2 * s + 11) 5 ≤ 0
    · rw [if_pos c]
      simp (config := {decide := true}) only [b_X4_pluck_109, b_X4_pluck_228, x_st1, b_X4_newLot_14, b_X4_newLot_0, f_X4_newLot, gI_pt hj, gR_pt hj, ob_pt hj, pI_pt hj, pB_pt hj, pR_pt hj, aI_pt hj, aR_pt hj, wI_pt hj, aL_pt hj, cl1_s, cl1_n, cl1_i, nul_n, nul_s, nm, dv2, dv3, dv4, dv5, dv8, dv10, dv20, dv40, bo, mI_pt hj, mT_pt hj, mZ_pt, tn0, tn1, tn2, tn3, tn4, tn5, tn6, hx0, hx2, hx7, hx14 nL hn, hx15 nL n17, hx16 nL n17, hx19 nL n17, hx11 s s4, hx12 s s4, hx13 s s4, g2, h1, h2, s4, hn, c1, c2, c3, kN_s, sb, up2_at, up2_row e1, up2_row e2, up2_row e3, up2_row e4, up2_row e5, up2_row e6, up2_row e7, up2_row e8, up2_row e9, up2_row e10, up2_row e11, up2_row e12, up2_row e13, up2_row e14, up2_k, c, ii0, ii1, ii2, ii3, ii4, if_true, if_false, ne_eq, not_false_eq_true, not_true_eq_false, true_and, and_true, false_and, and_false, and_self, true_or, or_true, false_or, or_false, or_self, Nat.reduceAdd, Nat.reduceLT, Nat.reduceLeDiff, Nat.succ_ne_zero, reduceIte, reduceCtorEq]
    · rw [if_neg c]
      simp (config := {decide := true}) only [b_X4_pluck_109, b_X4_pluck_228, x_st1, b_X4_newLot_14, b_X4_newLot_0, f_X4_newLot, gI_pt hj, gR_pt hj, ob_pt hj, pI_pt hj, pB_pt hj, pR_pt hj, aI_pt hj, aR_pt hj, wI_pt hj, aL_pt hj, cl1_s, cl1_n, cl1_i, nul_n, nul_s, nm, dv2, dv3, dv4, dv5, dv8, dv10, dv20, dv40, bo, mI_pt hj, mT_pt hj, mZ_pt, tn0, tn1, tn2, tn3, tn4, tn5, tn6, hx0, hx2, hx7, hx14 nL hn, hx15 nL n17, hx16 nL n17, hx19 nL n17, hx11 s s4, hx12 s s4, hx13 s s4, g2, h1, h2, s4, hn, c1, c2, c3, kN_s, sb, up2_at, up2_row e1, up2_row e2, up2_row e3, up2_row e4, up2_row e5, up2_row e6, up2_row e7, up2_row e8, up2_row e9, up2_row e10, up2_row e11, up2_row e12, up2_row e13, up2_row e14, up2_k, c, ii0, ii1, ii2, ii3, ii4, if_true, if_false, ne_eq, not_false_eq_true, not_true_eq_false, true_and, and_true, false_and, and_false, and_self, true_or, or_true, false_or, or_false, or_self, Nat.reduceAdd, Nat.reduceLT, Nat.reduceLeDiff, Nat.succ_ne_zero, reduceIte, reduceCtorEq]
  obtain ⟨JX, r1, r2⟩ := RUN
  refine ⟨JX, r1, fun v y1 y2 y3 y4 y5 => ?_, ?_, ?_, ?_, fun k y1 y2 y3 => ?_, ?_, fun k y1 => ?_, ?_, ?_, fun k y1 y2 => ?_, ?_, ?_, ?_, ?_, ?_, fun k y1 y2 y3 y4 y5 => ?_, ?_, fun k y1 => ?_⟩ <;> rw [r2] <;> simp (disch := omega) only [up2_row, up2_k, up2_at]
def plD (hd ol yg : Int32) : Int32 := 5 * hd + 4 * ol + 3 * yg
def Amt (st : Nat) (hard s3 s2 most hd ol yg : Int32) : Prop :=
  (st = 1 ∧ hd = 0 ∧ ol = 0 ∧ yg = mn s2 most) ∨ (st = 2 ∧ hd = 0 ∧ ol = mn s3 most ∧ yg = mn s2 (most - ol)) ∨ (st = 3 ∧ hd = mn hard most ∧ ol = mn s3 (most - hd) ∧ yg = mn s2 (most - hd - ol))
def may (st : Nat) (hard s3 s2 : Int32) : Int32 := if st = 1 then 0 + s2 else if st = 2 then 0 + s2 + s3 else 0 + s2 + s3 + hard
theorem amt_b {hard s3 s2 : Int32} (h : Amt st hard s3 s2 most hd ol yg) (m1 : 8 ≤ most.toInt) (m2 : most.toInt ≤ 72) (a1 : 0 ≤ hard.toInt) (a2 : hard.toInt ≤ 1000000) (b1 : 0 ≤ s3.toInt) (b2 : s3.toInt ≤ 18) (c1 : 0 ≤ s2.toInt) (c2 : s2.toInt ≤ 18) :
    (0 ≤ hd.toInt ∧ hd.toInt ≤ hard.toInt ∧ 0 ≤ ol.toInt ∧ ol.toInt ≤ s3.toInt ∧ 0 ≤ yg.toInt ∧ yg.toInt ≤ s2.toInt ∧ hd.toInt + ol.toInt + yg.toInt ≤ 72) ∧ (hd + ol + yg).toInt = hd.toInt + ol.toInt + yg.toInt ∧ (hd + ol + yg ≤ 0 ↔ may st hard s3 s2 = 0) ∧ (plD hd ol yg).toInt = 5 * hd.toInt + 4 * ol.toInt + 3 * yg.toInt ∧ (3 * yg).toInt = 3 * yg.toInt := by
  have z0 : (0 : Int32).toInt = 0 := rfl
  have z3 : (3 : Int32).toInt = 3 := rfl
  have z4 : (4 : Int32).toInt = 4 := rfl
  have z5 : (5 : Int32).toInt = 5 := rfl
  have main : (0 ≤ hd.toInt ∧ hd.toInt ≤ hard.toInt ∧ 0 ≤ ol.toInt ∧ ol.toInt ≤ s3.toInt ∧ 0 ≤ yg.toInt ∧ yg.toInt ≤ s2.toInt ∧ hd.toInt + ol.toInt + yg.toInt ≤ 72) ∧ (hd.toInt + ol.toInt + yg.toInt ≤ 0 ↔ may st hard s3 s2 = 0) := by
    rcases h with ⟨rfl, rfl, rfl, rfl⟩ | ⟨rfl, rfl, rfl, rfl⟩ | ⟨rfl, rfl, rfl, rfl⟩
    · obtain ⟨x1, x2, x3⟩ := mn_b (a := s2) (b := most)
      have e : (0 + s2).toInt = s2.toInt := by rw [Int32.zero_add]
      have f : may 1 hard s3 s2 = 0 ↔ s2.toInt = 0 := by
        rw [may, if_pos rfl, ← Int32.toInt_inj, e, z0]
      rw [f, z0]; omega
    · obtain ⟨x1, x2, x3⟩ := mn_b (a := s3) (b := most)
      have d1 : (most - mn s3 most).toInt = most.toInt - (mn s3 most).toInt := tSub (by omega) (by omega)
      obtain ⟨y1, y2, y3⟩ := mn_b (a := s2) (b := most - mn s3 most)
      have e : (0 + s2 + s3).toInt = s2.toInt + s3.toInt := by rw [Int32.zero_add, tAdd (by omega) (by omega)]
      have f : may 2 hard s3 s2 = 0 ↔ s2.toInt + s3.toInt = 0 := by
        rw [may, if_neg (by decide), if_pos rfl, ← Int32.toInt_inj, e, z0]
      rw [f, z0]; omega
    · obtain ⟨x1, x2, x3⟩ := mn_b (a := hard) (b := most)
      have d1 : (most - mn hard most).toInt = most.toInt - (mn hard most).toInt := tSub (by omega) (by omega)
      obtain ⟨y1, y2, y3⟩ := mn_b (a := s3) (b := most - mn hard most)
      have d2 : (most - mn hard most - mn s3 (most - mn hard most)).toInt = most.toInt - (mn hard most).toInt - (mn s3 (most - mn hard most)).toInt := by rw [tSub (by omega) (by omega), d1]
      obtain ⟨w1, w2, w3⟩ := mn_b (a := s2) (b := most - mn hard most - mn s3 (most - mn hard most))
      have e : (0 + s2 + s3 + hard).toInt = s2.toInt + s3.toInt + hard.toInt := by
        have e1 : (s2 + s3).toInt = s2.toInt + s3.toInt := tAdd (by omega) (by omega)
        rw [Int32.zero_add, tAdd (by omega) (by omega), e1]
      have f : may 3 hard s3 s2 = 0 ↔ s2.toInt + s3.toInt + hard.toInt = 0 := by
        rw [may, if_neg (by decide), if_neg (by decide), ← Int32.toInt_inj, e, z0]
      rw [f]; omega
  obtain ⟨⟨n1, n2, n3, n4, n5, n6, n7⟩, n8⟩ := main
  have s1 : (hd + ol).toInt = hd.toInt + ol.toInt := tAdd (by omega) (by omega)
  have s2' : (hd + ol + yg).toInt = hd.toInt + ol.toInt + yg.toInt := by rw [tAdd (by omega) (by omega), s1]
  have p5 : (5 * hd).toInt = 5 * hd.toInt := by rw [tMul (by rw [z5]; omega) (by rw [z5]; omega), z5]
  have p4 : (4 * ol).toInt = 4 * ol.toInt := by rw [tMul (by rw [z4]; omega) (by rw [z4]; omega), z4]
  have p3 : (3 * yg).toInt = 3 * yg.toInt := by rw [tMul (by rw [z3]; omega) (by rw [z3]; omega), z3]
  have q1 : (5 * hd + 4 * ol).toInt = 5 * hd.toInt + 4 * ol.toInt := by rw [tAdd (by omega) (by omega), p5, p4]
  refine ⟨⟨n1, n2, n3, n4, n5, n6, n7⟩, s2', ?_, ?_, p3⟩
  · rw [← n8, Int32.le_iff_toInt_le, s2', z0]
  · rw [plD, tAdd (by omega) (by omega), q1, p3]
theorem x_secAtZ (h : Cx φ T I R z nS nL n) (hp : InN p nS) (hi : p.toNatClampNeg = i) (τ : Mem) : f_X4_sectionAt (φ 0) p (pt φ T I R τ) = some ((some (φ (2 * i + 11))), pt φ T I R τ) := by
  obtain ⟨hj, hl, hx, ⟨hm22, hm23⟩, hr⟩ := h; obtain ⟨hx0, hx1, hx2, hx3, hx4, hx5, hx6, hx7, hx8, hx9, hx10, hx11, hx12, hx13, hx14, hx15, hx16, hx17, hx18, hx19, hx20, hx21, hx22, hx23, hx24, hx25, hx26, hx27⟩ := hx; obtain ⟨⟨g1, g2⟩, r1, r2, r3, r4, r5, r6, r7⟩ := hr
  obtain ⟨w1, w2⟩ := hp
  obtain ⟨w3, w4, w5, w6, w7⟩ := idx (show nS ≤ 16 by omega) w1 w2
  rw [hi] at w7
  have h4 : i < 4 := by omega
  simp (config := {decide := true}) only [b_X4_sectionAt_0, f_X4_sectionAt, b_X4_requireIndex_9, b_X4_requireIndex_0, f_X4_requireIndex, gI_pt hj, gR_pt hj, ob_pt hj, pI_pt hj, pB_pt hj, pR_pt hj, aI_pt hj, aR_pt hj, wI_pt hj, aL_pt hj, cl1_s, cl1_n, cl1_i, nul_n, nul_s, nm, dv2, dv3, dv4, dv5, dv8, dv10, dv20, dv40, bo, mI_pt hj, mT_pt hj, mZ_pt, tn0, tn1, tn2, tn3, tn4, tn5, tn6, hx0, hx1, hx6, hx10 i h4, g1, w1, w2, hi, h4, ii0, ii1, ii2, ii3, ii4, if_true, if_false, ne_eq, not_false_eq_true, not_true_eq_false, true_and, and_true, false_and, and_false, and_self, true_or, or_true, false_or, or_false, or_self, Nat.reduceAdd, Nat.reduceLT, Nat.reduceLeDiff, Nat.succ_ne_zero, reduceIte, reduceCtorEq]
theorem x_p71 (h : Cx φ T I R z nS nL n) (s4 : s < 4) (τ : Mem) : b_X4_pluck_71 (φ 0) p hands (some (φ (2 * s + 11))) most hd ol (pt φ T I R τ) = b_X4_pluck_109 (φ 0) p hands (some (φ (2 * s + 11))) hd ol (mn (I (2 * s + 12) 2) (most - hd - ol)) (if hd + ol + mn (I (2 * s + 12) 2) (most - hd - ol) ≤ 0 then 0 else 1) (pt φ T I R τ) := by
  obtain ⟨hj, hl, hx, ⟨hm22, hm23⟩, hr⟩ := h; obtain ⟨hx0, hx1, hx2, hx3, hx4, hx5, hx6, hx7, hx8, hx9, hx10, hx11, hx12, hx13, hx14, hx15, hx16, hx17, hx18, hx19, hx20, hx21, hx22, hx23, hx24, hx25, hx26, hx27⟩ := hx; obtain ⟨⟨g1, g2⟩, r1, r2, r3, r4, r5, r6, r7⟩ := hr
  have t1 : (T (2 * s + 11)).1 = 2 + 1 := by rw [hx11 s s4]
  have t2 : (T (2 * s + 12)).1 = 100 := by rw [hx13 s s4]
  rw [b_X4_pluck_71, nm, nm, gR_pt hj t1, hx12 s s4, aI_pt hj t2 (by decide) (by rw [hx13 s s4]; decide), nm, nm, nm]
  show (if hd + ol + mn (I (2 * s + 12) 2) (most - hd - ol) ≤ 0 then _ else _) = _
  by_cases c : hd + ol + mn (I (2 * s + 12) 2) (most - hd - ol) ≤ 0
  · rw [if_pos c, if_pos c]; rfl
  · rw [if_neg c, if_neg c]; rfl
theorem x_p45a (h : Cx φ T I R z nS nL n) (s4 : s < 4) (τ : Mem) {x : Int32} (c : (2 : Int32) ≤ x) : b_X4_pluck_45 (φ 0) p x hands (some (φ (2 * s + 11))) most hd (pt φ T I R τ) = b_X4_pluck_71 (φ 0) p hands (some (φ (2 * s + 11))) most hd (mn (I (2 * s + 12) 3) (most - hd)) (pt φ T I R τ) := by
  obtain ⟨hj, hl, hx, ⟨hm22, hm23⟩, hr⟩ := h; obtain ⟨hx0, hx1, hx2, hx3, hx4, hx5, hx6, hx7, hx8, hx9, hx10, hx11, hx12, hx13, hx14, hx15, hx16, hx17, hx18, hx19, hx20, hx21, hx22, hx23, hx24, hx25, hx26, hx27⟩ := hx; obtain ⟨⟨g1, g2⟩, r1, r2, r3, r4, r5, r6, r7⟩ := hr
  have t1 : (T (2 * s + 11)).1 = 2 + 1 := by rw [hx11 s s4]
  have t2 : (T (2 * s + 12)).1 = 100 := by rw [hx13 s s4]
  rw [b_X4_pluck_45, if_pos c, nm, gR_pt hj t1, hx12 s s4, aI_pt hj t2 (by decide) (by rw [hx13 s s4]; decide), nm]
  rfl
theorem x_p45b (σ : Mem) {x : Int32} {r : Option Nat} (c : ¬ (2 : Int32) ≤ x) : b_X4_pluck_45 (φ 0) p x hands r most hd σ = b_X4_pluck_71 (φ 0) p hands r most hd 0 σ := by
  rw [b_X4_pluck_45, if_neg c]
theorem x_plu (h : Cx φ T I R z nS nL n) (hp : InN p nS) (hi : p.toNatClampNeg = s) (hst : st = 1 ∨ st = 2 ∨ st = 3) (ha : 1 ≤ hands ∧ hands ≤ 9) : ∃ hd ol yg, Amt st (I (2 * s + 11) 6) (I (2 * s + 12) 3) (I (2 * s + 12) 2) (8 * hands) hd ol yg ∧ ∀ τ, f_X4_pluck (φ 0) p (Int32.ofNat st) hands (pt φ T I R τ) = b_X4_pluck_109 (φ 0) p hands (some (φ (2 * s + 11))) hd ol yg (if hd + ol + yg ≤ 0 then 0 else 1) (pt φ T I R τ) := by
  have sL : s < nS := hi ▸ (idx (show nS ≤ 16 by have := h.m.2.2.2.2.2.1; omega) hp.1 hp.2).2.2.2.2
  have hSS := h.m.2.2.2.2.2.1
  have s4 : s < 4 := by omega
  have hj := h.hj
  have hx0 := h.m.2.2.2.2.2.2.2
  have t0 : (T 0).1 = 4 + 1 := by rw [hx0]
  have t1 : (T (2 * s + 11)).1 = 2 + 1 := by rw [h.t5 s4]
  have z : ∀ x : Int32, x - 0 = x := fun x => Int32.sub_zero x
  have r1 : 1 ≤ Int32.ofNat st := by rcases hst with rfl | rfl | rfl <;> decide
  have r2 : Int32.ofNat st ≤ 3 := by rcases hst with rfl | rfl | rfl <;> decide
  have P71 := fun (hd ol most : Int32) (τ : Mem) => x_p71 (p := p) (hands := hands) (most := most) (hd := hd) (ol := ol) h s4 τ
  have P45 := fun (hd most x : Int32) (τ : Mem) (c : (2 : Int32) ≤ x) => x_p45a (p := p) (hands := hands) (most := most) (hd := hd) h s4 τ c
  have A1 := fun (τ : Mem) => x_secAtZ h hp hi τ
  have START : ∀ τ, f_X4_pluck (φ 0) p (Int32.ofNat st) hands (pt φ T I R τ) = if (3 : Int32) ≤ Int32.ofNat st then b_X4_pluck_45 (φ 0) p (Int32.ofNat st) hands (some (φ (2 * s + 11))) (8 * hands) (mn (I (2 * s + 11) 6) (8 * hands)) (pt φ T I R τ) else b_X4_pluck_45 (φ 0) p (Int32.ofNat st) hands (some (φ (2 * s + 11))) (8 * hands) 0 (pt φ T I R τ) := by
    intro τ
    rw [f_X4_pluck, b_X4_pluck_0, ob_pt hj t0, A1, cl1_s, x_req _ r1 r2, cl1_s, x_req _ ha.1 ha.2, cl1_s, nm]
    by_cases c : (3 : Int32) ≤ Int32.ofNat st
    · rw [if_pos c, if_pos c, gI_pt hj t1, nm]; rfl
    · rw [if_neg c, if_neg c]
  generalize 8 * hands = most at START ⊢
  rcases hst with rfl | rfl | rfl
  · refine ⟨0, 0, mn (I (2 * s + 12) 2) most, Or.inl ⟨rfl, rfl, rfl, rfl⟩, fun τ => ?_⟩
    rw [START, if_neg (by decide), x_p45b _ (by decide), P71, z, z]
  · refine ⟨0, mn (I (2 * s + 12) 3) most, mn (I (2 * s + 12) 2) (most - mn (I (2 * s + 12) 3) most), Or.inr (Or.inl ⟨rfl, rfl, rfl, rfl⟩), fun τ => ?_⟩
    rw [START, if_neg (by decide), P45 _ _ _ _ (by decide), P71, z]
  · refine ⟨mn (I (2 * s + 11) 6) most, mn (I (2 * s + 12) 3) (most - mn (I (2 * s + 11) 6) most), mn (I (2 * s + 12) 2) (most - mn (I (2 * s + 11) 6) most - mn (I (2 * s + 12) 3) (most - mn (I (2 * s + 11) 6) most)), Or.inr (Or.inr ⟨rfl, rfl, rfl, rfl⟩), fun τ => ?_⟩
    rw [START, if_pos (by decide), P45 _ _ _ _ (by decide), P71]
theorem sumZ_succ {f : Nat → Int} {n : Nat} : sumZ f (n + 1) = sumZ f n + f n := rfl
theorem mh_b {hands : Int32} (h1 : 1 ≤ hands) (h2 : hands ≤ 9) : 8 ≤ (8 * hands).toInt ∧ (8 * hands).toInt ≤ 72 := by
  have z8 : (8 : Int32).toInt = 8 := rfl
  have z1 : (1 : Int32).toInt = 1 := rfl
  have z9 : (9 : Int32).toInt = 9 := rfl
  have a1 := leT h1
  have a2 := leT h2
  rw [tMul (by rw [z8]; omega) (by rw [z8]; omega), z8]; omega
theorem amt_m {hard s3 s2 : Int32} (h : Amt st hard s3 s2 most hd ol yg) (m1 : 8 ≤ most.toInt) (m2 : most.toInt ≤ 72) (a1 : 0 ≤ hard.toInt) (a2 : hard.toInt ≤ 1000000) (b1 : 0 ≤ s3.toInt) (b2 : s3.toInt ≤ 18) (c1 : 0 ≤ s2.toInt) (c2 : s2.toInt ≤ 18) : hd.toInt + ol.toInt + yg.toInt ≤ most.toInt := by
  have z0 : (0 : Int32).toInt = 0 := rfl
  rcases h with ⟨rfl, rfl, rfl, rfl⟩ | ⟨rfl, rfl, rfl, rfl⟩ | ⟨rfl, rfl, rfl, rfl⟩
  · obtain ⟨x1, x2, x3⟩ := mn_b (a := s2) (b := most)
    omega
  · obtain ⟨x1, x2, x3⟩ := mn_b (a := s3) (b := most)
    have d1 : (most - mn s3 most).toInt = most.toInt - (mn s3 most).toInt := tSub (by omega) (by omega)
    obtain ⟨y1, y2, y3⟩ := mn_b (a := s2) (b := most - mn s3 most)
    omega
  · obtain ⟨x1, x2, x3⟩ := mn_b (a := hard) (b := most)
    have d1 : (most - mn hard most).toInt = most.toInt - (mn hard most).toInt := tSub (by omega) (by omega)
    obtain ⟨y1, y2, y3⟩ := mn_b (a := s3) (b := most - mn hard most)
    have d2 : (most - mn hard most - mn s3 (most - mn hard most)).toInt = most.toInt - (mn hard most).toInt - (mn s3 (most - mn hard most)).toInt := by rw [tSub (by omega) (by omega), d1]
    obtain ⟨z1, z2, z3⟩ := mn_b (a := s2) (b := most - mn hard most - mn s3 (most - mn hard most))
    omega
/-- a lot that was never used, its own numbers -/
theorem LotB.zz {x xu xn xa xp : Nat → Int32} (h : LotB x xu xn xa xp) : x 0 = 0 ∧ x 1 = 0 ∧ x 2 = 0 ∧ x 3 = 0 ∧ x 4 = 0 ∧ x 5 = 0 ∧ x 6 = 0 ∧ x 7 = 0 ∧ x 8 = 0 ∧ x 9 = -1 ∧ x 10 = 0 ∧ x 11 = 0 ∧ x 12 = 0 :=
  ⟨h.1 0 (by omega), h.1 1 (by omega), h.1 2 (by omega), h.1 3 (by omega), h.1 4 (by omega), h.1 5 (by omega), h.1 6 (by omega), h.1 7 (by omega), h.1 8 (by omega), h.1 9 (by omega), h.1 10 (by omega), h.1 11 (by omega), h.1 12 (by omega)⟩
theorem x_pluckF (h : Cx φ T I R (mZ τ) nS nL n) (hn : n < 600) (sL : s < nS) (hst : st = 1 ∨ st = 2 ∨ st = 3) (ha : 1 ≤ hands ∧ hands ≤ 9) (hL : nL < 16) (hy : I (2 * s + 12) 2 ≠ 0) :
    ∃ J', f_X4_pluck (φ 0) (Int32.ofNat s) (Int32.ofNat st) hands (pt φ T I R τ) = some (Int32.ofNat nL, pt φ T J' R τ) ∧ Cx φ T J' R (mZ τ) nS (nL + 1) (n + 1) ∧ J' (6 * nL + 20) s = J' (6 * nL + 19) 1 ∧ (J' (6 * nL + 19) 1).toInt ≤ 40 * hands.toInt ∧ J' 0 8 = I 0 8 - 2 * hands ∧ J' 10 = I 10 := by
  have hS4 := h.m.2.2.2.2.2.1
  have hp : InN (Int32.ofNat s) nS := InN.of sL (by omega)
  have hi : (Int32.ofNat s).toNatClampNeg = s := tnK (by omega)
  obtain ⟨hd, ol, yg, hA, XR⟩ := x_plu h hp hi hst ha
  obtain ⟨m1, m2⟩ := mh_b ha.1 ha.2
  obtain ⟨b0, b1, b2, b3, b4, sh, hb1, hb2⟩ := h.sr sL
  obtain ⟨⟨d1, d2, d3, d4, d5, d6, d7⟩, dt, dz, dd, d3y⟩ := amt_b hA m1 m2 hb1 (by omega) (sh 3 (by omega)).1 (sh 3 (by omega)).2 (sh 2 (by omega)).1 (sh 2 (by omega)).2
  have dm := amt_m hA m1 m2 hb1 (by omega) (sh 3 (by omega)).1 (sh 3 (by omega)).2 (sh 2 (by omega)).1 (sh 2 (by omega)).2
  have e8 : (8 * hands).toInt = 8 * hands.toInt := by
    have z8 : (8 : Int32).toInt = 8 := rfl
    have z1 : (1 : Int32).toInt = 1 := rfl
    have z9 : (9 : Int32).toInt = 9 := rfl
    have a1 := leT ha.1
    have a2 := leT ha.2
    rw [tMul (by rw [z8]; omega) (by rw [z8]; omega), z8]
  have z0 : (0 : Int32).toInt = 0 := rfl
  have s2p : 0 < (I (2 * s + 12) 2).toInt := by
    have := (sh 2 (by omega)).1
    rcases Int.lt_or_le 0 (I (2 * s + 12) 2).toInt with q | q
    · exact q
    · exact absurd (Int32.toInt_inj.mp (by rw [z0]; omega)) hy
  have pos : ¬ hd + ol + yg ≤ 0 := by
    intro q
    have q0 := leT q
    rw [dt, z0] at q0
    have y0 : yg.toInt = 0 := by omega
    have o0 : ol.toInt = 0 := by omega
    have h0 : hd.toInt = 0 := by omega
    rcases hA with ⟨-, -, -, e⟩ | ⟨-, -, e1, e⟩ | ⟨-, e2, e1, e⟩
    · have := mn_b (a := I (2 * s + 12) 2) (b := 8 * hands); rw [e] at y0; omega
    · have u1 := mn_b (a := I (2 * s + 12) 3) (b := 8 * hands)
      have u3 : (8 * hands - ol).toInt = (8 * hands).toInt - ol.toInt := tSub (by omega) (by omega)
      have u2 := mn_b (a := I (2 * s + 12) 2) (b := 8 * hands - ol)
      rw [e] at y0; omega
    · have u3 : (8 * hands - hd).toInt = (8 * hands).toInt - hd.toInt := tSub (by omega) (by omega)
      have u4 : (8 * hands - hd - ol).toInt = (8 * hands).toInt - hd.toInt - ol.toInt := by rw [tSub (by omega) (by omega), u3]
      have u2 := mn_b (a := I (2 * s + 12) 2) (b := 8 * hands - hd - ol)
      rw [e] at y0; omega
  have ppos : 0 < hd.toInt + ol.toInt + yg.toInt := by
    have : ¬ (hd + ol + yg).toInt ≤ 0 := fun q => pos (Int32.le_iff_toInt_le.mpr (by rw [z0]; exact q))
    omega
  obtain ⟨JX, X, K, j4, j8, j11, j0, s6, sk, t3, t2, tk, l0, l1, l2, l3, l11, lk, us, uk⟩ := x_pl109 (τ := τ) (hands := hands) (hd := hd) (ol := ol) (yg := yg) h hL sL (kN_nn (a := s) (by omega)) hi
  have dd' : (5 * hd + 4 * ol + 3 * yg).toInt = 5 * hd.toInt + 4 * ol.toInt + 3 * yg.toInt := dd
  have B := h.2.2.2.2.2.2.1 nL (Nat.le_refl _) hL
  obtain ⟨v0, v1, v2, v3, v4, v5, v6, v7, v8, v9, v10, v11, v12⟩ := LotB.zz B
  obtain ⟨-, B2, B3, B4, B5⟩ := B
  have hN := h.m.2.2.2.2.1
  refine ⟨JX, ?_, ⟨h.1, h.2.1, h.2.2.1, ⟨hS4, by omega⟩, ⟨?_, j4⟩, fun i hi => ?_, fun i y1 y2 => ?_, fun i hi => ?_, fun i y1 y2 => ?_, fun i hi => ?_, ?_, ?_⟩, ?_, ?_, j8, K 10 (by omega) (by omega) (by omega) (by omega) (by omega)⟩
  · rw [XR τ, if_neg pos]; exact X
  · rw [j0 1 (by decide) (by decide) (by decide)]; exact h.2.2.2.2.1.1
  · by_cases c : i = nL
    · subst c
      have uu : ∀ k, k < 4 → JX (6 * i + 20) k = if k = s then 5 * hd + 4 * ol + 3 * yg else 0 := fun k hk => by
        by_cases ck : k = s
        · rw [ck, if_pos rfl]; exact us
        · rw [if_neg ck, uk k ck]; exact B2 k hk
      have un : ∀ k, k < 4 → (JX (6 * i + 20) k).toInt = if k = s then 5 * hd.toInt + 4 * ol.toInt + 3 * yg.toInt else 0 := fun k hk => by
        rw [uu k hk]; split
        · exact dd'
        · rfl
      have z3 : (3 : Int32).toInt = 3 := rfl
      have w3 : (3 * (5 * hd + 4 * ol + 3 * yg)).toInt = 3 * (5 * hd.toInt + 4 * ol.toInt + 3 * yg.toInt) := by rw [tMul (by rw [z3, dd']; omega) (by rw [z3, dd']; omega), z3, dd']
      unfold LotR
      rw [l0, l1, l2, l3, l11, lk 4 (by decide) (by decide) (by decide) (by decide) (by decide), lk 5 (by decide) (by decide) (by decide) (by decide) (by decide), lk 6 (by decide) (by decide) (by decide) (by decide) (by decide), lk 7 (by decide) (by decide) (by decide) (by decide) (by decide), lk 8 (by decide) (by decide) (by decide) (by decide) (by decide), lk 9 (by decide) (by decide) (by decide) (by decide) (by decide), lk 10 (by decide) (by decide) (by decide) (by decide) (by decide), lk 12 (by decide) (by decide) (by decide) (by decide) (by decide), v4, v5, v6, v7, v8, v9, v10, v12, K (6 * i + 22) (by omega) (by omega) (by omega) (by omega) (by omega), K (6 * i + 23) (by omega) (by omega) (by omega) (by omega) (by omega), B4, dd', d3y, w3, z0]
      refine ⟨Or.inl rfl, ⟨Or.inl rfl, ?_, Or.inl rfl⟩, ⟨fun k hk => ?_, ?_, fun k y1 y2 => ?_⟩, ⟨fun q => absurd q (by decide), fun _ => by omega⟩, ⟨by omega, fun _ => by omega⟩, ⟨by omega, by omega⟩, ⟨⟨by omega, by omega⟩, ⟨by omega, by omega⟩, ⟨by omega, by omega⟩, ⟨by omega, by omega⟩, ⟨by omega, by omega⟩⟩, ⟨Or.inl rfl, fun _ => rfl⟩, fun q => absurd rfl q, ⟨by omega, by omega, fun q => absurd rfl q⟩, fun k hk => ?_⟩
      · split
        · exact Or.inl rfl
        · exact Or.inr rfl
      · rw [un k hk]; split <;> omega
      · rw [un 0 (by omega), un 1 (by omega), un 2 (by omega), un 3 (by omega)]
        rcases (show s = 0 ∨ s = 1 ∨ s = 2 ∨ s = 3 by omega) with rfl | rfl | rfl | rfl <;> simp
      · rw [uu k y2, if_neg (by omega)]
      · rw [B5 k hk]; exact ⟨by decide, by decide, fun _ => rfl⟩
    · have iL : i < nL := by omega
      rw [K (6 * i + 19) (by omega) (by omega) (by omega) (by omega) (by omega), K (6 * i + 20) (by omega) (by omega) (by omega) (by omega) (by omega), K (6 * i + 21) (by omega) (by omega) (by omega) (by omega) (by omega), K (6 * i + 22) (by omega) (by omega) (by omega) (by omega) (by omega), K (6 * i + 23) (by omega) (by omega) (by omega) (by omega) (by omega)]
      exact (h.lr iL).mono (by omega)
  · rw [K (6 * i + 19) (by omega) (by omega) (by omega) (by omega) (by omega), K (6 * i + 20) (by omega) (by omega) (by omega) (by omega) (by omega), K (6 * i + 21) (by omega) (by omega) (by omega) (by omega) (by omega), K (6 * i + 22) (by omega) (by omega) (by omega) (by omega) (by omega), K (6 * i + 23) (by omega) (by omega) (by omega) (by omega) (by omega)]
    exact h.2.2.2.2.2.2.1 i (by omega) y2
  · by_cases c : i = s
    · subst c
      unfold SecR
      have f6 : (I (2 * i + 11) 6 - hd).toInt = (I (2 * i + 11) 6).toInt - hd.toInt := tSub (by omega) (by omega)
      have f3 : (I (2 * i + 12) 3 - ol).toInt = (I (2 * i + 12) 3).toInt - ol.toInt := by
        have := (sh 3 (by omega)).2; exact tSub (by omega) (by omega)
      have f2 : (I (2 * i + 12) 2 - yg).toInt = (I (2 * i + 12) 2).toInt - yg.toInt := by
        have := (sh 2 (by omega)).2; exact tSub (by omega) (by omega)
      rw [s6, sk 0 (by decide), sk 1 (by decide), sk 2 (by decide), sk 3 (by decide), sk 4 (by decide), f6]
      refine ⟨b0, b1, b2, b3, ⟨b4.1, by have := b4.2; omega⟩, fun k hk => ?_, by omega, by omega⟩
      rcases (show k = 0 ∨ k = 1 ∨ k = 2 ∨ k = 3 by omega) with rfl | rfl | rfl | rfl
      · rw [tk 0 (by decide) (by decide)]; exact sh 0 (by omega)
      · rw [tk 1 (by decide) (by decide)]; exact sh 1 (by omega)
      · rw [t2, f2]; have := sh 2 (by omega); omega
      · rw [t3, f3]; have := sh 3 (by omega); omega
    · rw [K (2 * i + 11) (by omega) (by omega) (by omega) (by omega) (by omega), K (2 * i + 12) (by omega) (by omega) (by omega) (by omega) (by omega)]
      exact (h.sr hi).mono (by omega)
  · rw [K (2 * i + 11) (by omega) (by omega) (by omega) (by omega) (by omega), K (2 * i + 12) (by omega) (by omega) (by omega) (by omega) (by omega)]
    exact h.2.2.2.2.2.2.2.2.1 i y1 y2
  · rw [K (i + 3) (by omega) (by omega) (by omega) (by omega) (by omega)]; exact (h.tr hi).mono (by omega)
  · rw [K 115 (by omega) (by omega) (by omega) (by omega) (by omega)]; exact h.2.2.2.2.2.2.2.2.2.2.1
  · obtain ⟨q1, q2, q3⟩ := h.2.2.2.2.2.2.2.2.2.2.2
    have ds : dryS JX (nL + 1) = dryS I nL + (5 * hd.toInt + 4 * ol.toInt + 3 * yg.toInt) := by
      unfold dryS
      rw [sumZ_succ]
      show _ + (JX (6 * nL + 19) 1).toInt = _
      rw [l1, dd', sumZ_congr (g := fun i => (I (6 * i + 19) 1).toInt) (fun i hi => by rw [K (6 * i + 19) (by omega) (by omega) (by omega) (by omega) (by omega)])]
    have nn : 0 ≤ dryS I nL := sumZ_nn (fun j hj => (h.dry hj).1)
    have e11 : (JX 0 11).toInt = (I 0 11).toInt + (5 * hd.toInt + 4 * ol.toInt + 3 * yg.toInt) := by rw [j11, tAdd (by omega) (by omega), dd']
    unfold SumR
    rw [ds, e11, j0 10 (by decide) (by decide) (by decide)]
    refine ⟨by omega, q2, by omega⟩
  · rw [us, l1]
  · rw [l1, dd']; omega
end PR
