/-! A DAY of a section -/
def mx0 (x : Int32) : Int32 := if 0 < x then x else 0
def flF (f : Nat → Int32) (k : Nat) : Int32 := if k = 2 then f 2 - 5 else if k = 6 then f 6 + f 10 else if k = 10 then f 9 else if k = 9 then f 8 else if k = 8 then f 7 else if k = 7 then (if f 4 < 3 then 2 * f 0 else f 0) else f k
def d1F (f : Nat → Int32) (k : Nat) : Int32 := if k = 5 then (if f 5 ≤ 0 then f 5 else f 5 - 1) else f k
def d2F (w e : Int32) (f : Nat → Int32) (k : Nat) : Int32 := if k = 4 then (if e + f 1 < 5 then mx0 (f 4 - 1) else f 4 + 1) else if k = 2 then f 2 + (mx0 (w - f 1) + mn e 3) else f k
def d3F (f : Nat → Int32) (k : Nat) : Int32 := if k = 3 then f 3 - 1 else f k
def flN (f : Nat → Int32) : Int32 × (Nat → Int32) := if f 2 < 5 then (0, f) else if f 2 < 10 then (1, flF f) else (2, flF (flF f))
def dayF (w e : Int32) (f : Nat → Int32) : Int32 × (Nat → Int32) := if d1F f 3 ≤ 0 then flN (d2F w e (d1F f)) else (0, d3F (d1F f))
def SXr (J : Nat → Nat → Int32) (a b : Nat) (f : Nat → Int32) : Prop := (∀ k, k ≤ 6 → J a k = f k) ∧ (∀ k, k < 4 → J b k = f (k + 7))
def SMr (J : Nat → Nat → Int32) (q : Nat) (f : Nat → Int32) : Prop := (∀ k, k ≤ 5 → J q k = f k) ∧ (∀ k, k < 4 → J (q + 1) k = f (k + 7)) ∧ J (q + 1) 4 = f 6
section DY
variable {φ : Nat → Nat} {T : Nat → Nat × Nat} {I J : Nat → Nat → Int32} {R : Nat → Nat → Option Nat} {τ : Mem} {a b q k : Nat} {w e : Int32} {f : Nat → Int32}
theorem mx0E {x : Int32} : (if 0 < x then x else 0) = mx0 x := rfl
theorem le6 {k : Nat} (h : k ≤ 6) : k = 0 ∨ k = 1 ∨ k = 2 ∨ k = 3 ∨ k = 4 ∨ k = 5 ∨ k = 6 := by omega
theorem lt4 {k : Nat} (h : k < 4) : k = 0 ∨ k = 1 ∨ k = 2 ∨ k = 3 := by omega
theorem x_flush (hj : Inj φ T) (ta : T a = (5, 0)) (ra : R a 7 = some (φ b)) (tb : T b = (100, 4)) (hab : a ≠ b) (h : SXr J a b f) : ∃ J', f_X2_flushOnce (φ a) (pt φ T J R τ) = some ((), pt φ T J' R τ) ∧ SXr J' a b (flF f) ∧ ∀ v, v ≠ a → v ≠ b → J' v = J v := by
  obtain ⟨h1, h2⟩ := h
  have a0 := h1 0 (by omega)
  have a2 := h1 2 (by omega)
  have a4 := h1 4 (by omega)
  have a6 := h1 6 (by omega)
  have b0 := h2 0 (by omega)
  have b1 := h2 1 (by omega)
  have b2 := h2 2 (by omega)
  have b3 := h2 3 (by omega)
  have hba : b ≠ a := Ne.symm hab
  simp only [Nat.reduceAdd] at b0 b1 b2 b3
  refine ⟨up2 (up2 (up2 (up2 (up2 (up2 J a 2 (f 2 - 5)) a 6 (f 6 + f 10)) b 3 (f 9)) b 2 (f 8)) b 1 (f 7)) b 0 (if f 4 < 3 then 2 * f 0 else f 0), ?_, ⟨fun k hk => ?_, fun k hk => ?_⟩, fun v y1 y2 => by simp only [up2_row y1, up2_row y2]⟩
  · by_cases c : f 4 < 3
    · rw [if_pos c]
      simp (config := {decide := true}) only [b_X2_flushOnce_87, b_X2_flushOnce_0, f_X2_flushOnce, gI_pt hj, gR_pt hj, ob_pt hj, ck_pt hj, pI_pt hj, pB_pt hj, pR_pt hj, aI_pt hj, aR_pt hj, wI_pt hj, wJ_pt hj, aL_pt hj, cl1_s, cl1_n, cl1_i, cx1_s, cx1_x, cx1_n, cx1_i, nul_n, nul_s, nm, dv2, dv3, dv4, dv5, dv8, dv10, dv20, dv40, thr, bo, mI_pt hj, mT_pt hj, sB_pt, mZ_pt, mJ_pt, mJ_sJ, mZ_sJ, tn0, tn1, tn2, tn3, tn4, tn5, tn6, ta, ra, tb, a0, a2, a4, a6, b0, b1, b2, b3, up2_row hab, up2_row hba, up2_k, up2_at, c, ii0, ii1, ii2, ii3, ii4, if_true, if_false, ne_eq, not_false_eq_true, not_true_eq_false, true_and, and_true, false_and, and_false, and_self, true_or, or_true, false_or, or_false, or_self, Nat.reduceAdd, Nat.reduceLT, Nat.reduceLeDiff, Nat.succ_ne_zero, reduceIte, reduceCtorEq]
    · rw [if_neg c]
      simp (config := {decide := true}) only [b_X2_flushOnce_87, b_X2_flushOnce_0, f_X2_flushOnce, gI_pt hj, gR_pt hj, ob_pt hj, ck_pt hj, pI_pt hj, pB_pt hj, pR_pt hj, aI_pt hj, aR_pt hj, wI_pt hj, wJ_pt hj, aL_pt hj, cl1_s, cl1_n, cl1_i, cx1_s, cx1_x, cx1_n, cx1_i, nul_n, nul_s, nm, dv2, dv3, dv4, dv5, dv8, dv10, dv20, dv40, thr, bo, mI_pt hj, mT_pt hj, sB_pt, mZ_pt, mJ_pt, mJ_sJ, mZ_sJ, tn0, tn1, tn2, tn3, tn4, tn5, tn6, ta, ra, tb, a0, a2, a4, a6, b0, b1, b2, b3, up2_row hab, up2_row hba, up2_k, up2_at, c, ii0, ii1, ii2, ii3, ii4, if_true, if_false, ne_eq, not_false_eq_true, not_true_eq_false, true_and, and_true, false_and, and_false, and_self, true_or, or_true, false_or, or_false, or_self, Nat.reduceAdd, Nat.reduceLT, Nat.reduceLeDiff, Nat.succ_ne_zero, reduceIte, reduceCtorEq]
  · rw [up2_row hab, up2_row hab, up2_row hab, up2_row hab]
    rcases le6 hk with rfl | rfl | rfl | rfl | rfl | rfl | rfl <;> simp (config := {decide := true}) only [up2, flF, and_false, and_true, if_true, if_false, h1, Nat.reduceLeDiff]
  · rcases lt4 hk with rfl | rfl | rfl | rfl <;> simp (config := {decide := true}) only [up2, flF, and_false, and_true, if_true, if_false]
theorem m_flush (hj : Inj φ T) (ta : T q = (9, 0)) (ra : R q 6 = some (φ (q + 1))) (tb : T (q + 1) = (100, 5)) (h : SMr J q f) : ∃ J', f_X6_flush (φ q) (pt φ T J R τ) = some ((), pt φ T J' R τ) ∧ SMr J' q (flF f) ∧ ∀ v, v ≠ q → v ≠ q + 1 → J' v = J v := by
  obtain ⟨h1, h2, h3⟩ := h
  have a0 := h1 0 (by omega)
  have a2 := h1 2 (by omega)
  have a4 := h1 4 (by omega)
  have b0 := h2 0 (by omega)
  have b1 := h2 1 (by omega)
  have b2 := h2 2 (by omega)
  have b3 := h2 3 (by omega)
  have hab : q ≠ q + 1 := by omega
  have hba : q + 1 ≠ q := by omega
  simp only [Nat.reduceAdd] at b0 b1 b2 b3
  refine ⟨up2 (up2 (up2 (up2 (up2 (up2 J q 2 (f 2 - 5)) (q + 1) 4 (f 6 + f 10)) (q + 1) 3 (f 9)) (q + 1) 2 (f 8)) (q + 1) 1 (f 7)) (q + 1) 0 (if f 4 < 3 then 2 * f 0 else f 0), ?_, ⟨fun k hk => ?_, fun k hk => ?_, ?_⟩, fun v y1 y2 => by simp only [up2_row y1, up2_row y2]⟩
  · by_cases c : f 4 < 3
    · rw [if_pos c]
      simp (config := {decide := true}) only [b_X6_flush_77, b_X6_flush_27, b_X6_flush_0, f_X6_flush, l_X6_flush_27, itr_40, itr_39, itr_38, itr_37, gI_pt hj, gR_pt hj, ob_pt hj, ck_pt hj, pI_pt hj, pB_pt hj, pR_pt hj, aI_pt hj, aR_pt hj, wI_pt hj, wJ_pt hj, aL_pt hj, cl1_s, cl1_n, cl1_i, cx1_s, cx1_x, cx1_n, cx1_i, nul_n, nul_s, nm, dv2, dv3, dv4, dv5, dv8, dv10, dv20, dv40, thr, bo, mI_pt hj, mT_pt hj, sB_pt, mZ_pt, mJ_pt, mJ_sJ, mZ_sJ, tn0, tn1, tn2, tn3, tn4, tn5, tn6, ta, ra, tb, a0, a2, a4, h3, b0, b1, b2, b3, up2_row hab, up2_row hba, up2_k, up2_at, c, show (3 : Int32) - 1 = 2 by decide, show (2 : Int32) - 1 = 1 by decide, show (1 : Int32) - 1 = 0 by decide, show (3 : Int32) + (-1) = 2 by decide, show (2 : Int32) + (-1) = 1 by decide, show (1 : Int32) + (-1) = 0 by decide, ii0, ii1, ii2, ii3, ii4, if_true, if_false, ne_eq, not_false_eq_true, not_true_eq_false, true_and, and_true, false_and, and_false, and_self, true_or, or_true, false_or, or_false, or_self, Nat.reduceAdd, Nat.reduceLT, Nat.reduceLeDiff, Nat.succ_ne_zero, reduceIte, reduceCtorEq]
    · rw [if_neg c]
      simp (config := {decide := true}) only [b_X6_flush_77, b_X6_flush_27, b_X6_flush_0, f_X6_flush, l_X6_flush_27, itr_40, itr_39, itr_38, itr_37, gI_pt hj, gR_pt hj, ob_pt hj, ck_pt hj, pI_pt hj, pB_pt hj, pR_pt hj, aI_pt hj, aR_pt hj, wI_pt hj, wJ_pt hj, aL_pt hj, cl1_s, cl1_n, cl1_i, cx1_s, cx1_x, cx1_n, cx1_i, nul_n, nul_s, nm, dv2, dv3, dv4, dv5, dv8, dv10, dv20, dv40, thr, bo, mI_pt hj, mT_pt hj, sB_pt, mZ_pt, mJ_pt, mJ_sJ, mZ_sJ, tn0, tn1, tn2, tn3, tn4, tn5, tn6, ta, ra, tb, a0, a2, a4, h3, b0, b1, b2, b3, up2_row hab, up2_row hba, up2_k, up2_at, c, show (3 : Int32) - 1 = 2 by decide, show (2 : Int32) - 1 = 1 by decide, show (1 : Int32) - 1 = 0 by decide, show (3 : Int32) + (-1) = 2 by decide, show (2 : Int32) + (-1) = 1 by decide, show (1 : Int32) + (-1) = 0 by decide, ii0, ii1, ii2, ii3, ii4, if_true, if_false, ne_eq, not_false_eq_true, not_true_eq_false, true_and, and_true, false_and, and_false, and_self, true_or, or_true, false_or, or_false, or_self, Nat.reduceAdd, Nat.reduceLT, Nat.reduceLeDiff, Nat.succ_ne_zero, reduceIte, reduceCtorEq]
  · rw [up2_row hab, up2_row hab, up2_row hab, up2_row hab, up2_row hab]
    rcases le6 (show k ≤ 6 by omega) with rfl | rfl | rfl | rfl | rfl | rfl | rfl <;> simp (config := {decide := true}) only [up2, flF, and_false, and_true, if_true, if_false, h1, Nat.reduceLeDiff]
    omega
  · rcases lt4 hk with rfl | rfl | rfl | rfl <;> simp (config := {decide := true}) only [up2, flF, and_false, and_true, if_true, if_false]
  · simp (config := {decide := true}) only [up2, flF, and_false, and_true, if_true, if_false]
theorem dv5v {s : Int32} (h0 : 0 ≤ s.toInt) : (s / 5).toInt = s.toInt / 5 := by
  have z5 : (5 : Int32).toInt = 5 := rfl
  have hs := Int32.toInt_lt s
  rw [Int32.toInt_div, z5, Int.tdiv_eq_ediv_of_nonneg h0]
  exact Int.bmod_eq_of_le (by omega) (by omega)
theorem x_fl (hj : Inj φ T) (ta : T a = (5, 0)) (ra : R a 7 = some (φ b)) (tb : T b = (100, 4)) (hab : a ≠ b) (h : SXr J a b f) (s0 : 0 ≤ (f 2).toInt) (s1 : (f 2).toInt ≤ 14) : ∃ J', l_X2_growDay_94 40 (φ a) (f 2 / 5) 0 (pt φ T J R τ) = some ((flN f).1, pt φ T J' R τ) ∧ SXr J' a b (flN f).2 ∧ ∀ v, v ≠ a → v ≠ b → J' v = J v := by
  have z5 : (5 : Int32).toInt = 5 := rfl
  have z10 : (10 : Int32).toInt = 10 := rfl
  have dv := dv5v s0
  have ta1 : (T a).1 = 4 + 1 := by rw [ta]
  by_cases c1 : f 2 < 5
  · have c1' := ltT c1
    have e : f 2 / 5 = 0 := Int32.toInt_inj.mp (by rw [dv, show (0 : Int32).toInt = 0 from rfl]; omega)
    refine ⟨J, ?_, ?_, fun _ _ _ => rfl⟩
    · rw [e, flN, if_pos c1]
      simp (config := {decide := true}) only [l_X2_growDay_94, itr_40, b_X2_growDay_94, ii0, ii1, ii2, ii3, ii4, if_true, if_false, ne_eq, not_false_eq_true, not_true_eq_false, true_and, and_true, false_and, and_false, and_self, true_or, or_true, false_or, or_false, or_self, Nat.reduceAdd, Nat.reduceLT, Nat.reduceLeDiff, Nat.succ_ne_zero, reduceIte, reduceCtorEq]
    · rw [flN, if_pos c1]; exact h
  · have c1' := leT (Int32.not_lt.mp c1)
    obtain ⟨J1, F1, F2, F3⟩ := x_flush (τ := τ) hj ta ra tb hab h
    by_cases c2 : f 2 < 10
    · have c2' := ltT c2
      have e : f 2 / 5 = 1 := Int32.toInt_inj.mp (by rw [dv, show (1 : Int32).toInt = 1 from rfl]; omega)
      refine ⟨J1, ?_, ?_, F3⟩
      · rw [e, flN, if_neg c1, if_pos c2]
        simp (config := {decide := true}) only [l_X2_growDay_94, itr_40, itr_39, b_X2_growDay_94, F1, gI_pt hj, gR_pt hj, ob_pt hj, ck_pt hj, pI_pt hj, pB_pt hj, pR_pt hj, aI_pt hj, aR_pt hj, wI_pt hj, wJ_pt hj, aL_pt hj, cl1_s, cl1_n, cl1_i, cx1_s, cx1_x, cx1_n, cx1_i, nul_n, nul_s, nm, dv2, dv3, dv4, dv5, dv8, dv10, dv20, dv40, thr, bo, mI_pt hj, mT_pt hj, sB_pt, mZ_pt, mJ_pt, mJ_sJ, mZ_sJ, tn0, tn1, tn2, tn3, tn4, tn5, tn6, ta, ii0, ii1, ii2, ii3, ii4, if_true, if_false, ne_eq, not_false_eq_true, not_true_eq_false, true_and, and_true, false_and, and_false, and_self, true_or, or_true, false_or, or_false, or_self, Nat.reduceAdd, Nat.reduceLT, Nat.reduceLeDiff, Nat.succ_ne_zero, reduceIte, reduceCtorEq]
      · rw [flN, if_neg c1, if_pos c2]; exact F2
    · have c2' := leT (Int32.not_lt.mp c2)
      have e : f 2 / 5 = 2 := Int32.toInt_inj.mp (by rw [dv, show (2 : Int32).toInt = 2 from rfl]; omega)
      obtain ⟨J2, G1, G2, G3⟩ := x_flush (τ := τ) hj ta ra tb hab F2
      refine ⟨J2, ?_, ?_, fun v y1 y2 => by rw [G3 v y1 y2, F3 v y1 y2]⟩
      · rw [e, flN, if_neg c1, if_neg c2]
        simp (config := {decide := true}) only [l_X2_growDay_94, itr_40, itr_39, itr_38, b_X2_growDay_94, F1, G1, gI_pt hj, gR_pt hj, ob_pt hj, ck_pt hj, pI_pt hj, pB_pt hj, pR_pt hj, aI_pt hj, aR_pt hj, wI_pt hj, wJ_pt hj, aL_pt hj, cl1_s, cl1_n, cl1_i, cx1_s, cx1_x, cx1_n, cx1_i, nul_n, nul_s, nm, dv2, dv3, dv4, dv5, dv8, dv10, dv20, dv40, thr, bo, mI_pt hj, mT_pt hj, sB_pt, mZ_pt, mJ_pt, mJ_sJ, mZ_sJ, tn0, tn1, tn2, tn3, tn4, tn5, tn6, ta, ii0, ii1, ii2, ii3, ii4, if_true, if_false, ne_eq, not_false_eq_true, not_true_eq_false, true_and, and_true, false_and, and_false, and_self, true_or, or_true, false_or, or_false, or_self, Nat.reduceAdd, Nat.reduceLT, Nat.reduceLeDiff, Nat.succ_ne_zero, reduceIte, reduceCtorEq]
      · rw [flN, if_neg c1, if_neg c2]; exact G2
theorem m_fl (hj : Inj φ T) (ta : T q = (9, 0)) (ra : R q 6 = some (φ (q + 1))) (tb : T (q + 1) = (100, 5)) (h : SMr J q f) (s0 : 0 ≤ (f 2).toInt) (s1 : (f 2).toInt ≤ 14) : ∃ J', l_X6_day_96 40 (φ q) 0 (pt φ T J R τ) = some ((flN f).1, pt φ T J' R τ) ∧ SMr J' q (flN f).2 ∧ ∀ v, v ≠ q → v ≠ q + 1 → J' v = J v := by
  have z5 : (5 : Int32).toInt = 5 := rfl
  have z10 : (10 : Int32).toInt = 10 := rfl
  have a2 := h.1 2 (by omega)
  by_cases c1 : f 2 < 5
  · refine ⟨J, ?_, ?_, fun _ _ _ => rfl⟩
    · rw [flN, if_pos c1]
      simp (config := {decide := true}) only [l_X6_day_96, itr_40, b_X6_day_96, gI_pt hj, gR_pt hj, ob_pt hj, ck_pt hj, pI_pt hj, pB_pt hj, pR_pt hj, aI_pt hj, aR_pt hj, wI_pt hj, wJ_pt hj, aL_pt hj, cl1_s, cl1_n, cl1_i, cx1_s, cx1_x, cx1_n, cx1_i, nul_n, nul_s, nm, dv2, dv3, dv4, dv5, dv8, dv10, dv20, dv40, thr, bo, mI_pt hj, mT_pt hj, sB_pt, mZ_pt, mJ_pt, mJ_sJ, mZ_sJ, tn0, tn1, tn2, tn3, tn4, tn5, tn6, ta, a2, c1, ii0, ii1, ii2, ii3, ii4, if_true, if_false, ne_eq, not_false_eq_true, not_true_eq_false, true_and, and_true, false_and, and_false, and_self, true_or, or_true, false_or, or_false, or_self, Nat.reduceAdd, Nat.reduceLT, Nat.reduceLeDiff, Nat.succ_ne_zero, reduceIte, reduceCtorEq]
    · rw [flN, if_pos c1]; exact h
  · have c1' := leT (Int32.not_lt.mp c1)
    obtain ⟨J1, F1, F2, F3⟩ := m_flush (τ := τ) hj ta ra tb h
    have e1 : J1 q 2 = f 2 - 5 := (F2.1 2 (by omega)).trans rfl
    have e1T : (f 2 - 5).toInt = (f 2).toInt - 5 := by rw [tSub (by omega) (by omega), z5]
    by_cases c2 : f 2 < 10
    · have c2' := ltT c2
      have c3 : f 2 - 5 < 5 := Int32.lt_iff_toInt_lt.mpr (by rw [e1T, z5]; omega)
      refine ⟨J1, ?_, ?_, F3⟩
      · rw [flN, if_neg c1, if_pos c2]
        simp (config := {decide := true}) only [l_X6_day_96, itr_40, itr_39, b_X6_day_96, F1, gI_pt hj, gR_pt hj, ob_pt hj, ck_pt hj, pI_pt hj, pB_pt hj, pR_pt hj, aI_pt hj, aR_pt hj, wI_pt hj, wJ_pt hj, aL_pt hj, cl1_s, cl1_n, cl1_i, cx1_s, cx1_x, cx1_n, cx1_i, nul_n, nul_s, nm, dv2, dv3, dv4, dv5, dv8, dv10, dv20, dv40, thr, bo, mI_pt hj, mT_pt hj, sB_pt, mZ_pt, mJ_pt, mJ_sJ, mZ_sJ, tn0, tn1, tn2, tn3, tn4, tn5, tn6, ta, a2, e1, c1, c3, ii0, ii1, ii2, ii3, ii4, if_true, if_false, ne_eq, not_false_eq_true, not_true_eq_false, true_and, and_true, false_and, and_false, and_self, true_or, or_true, false_or, or_false, or_self, Nat.reduceAdd, Nat.reduceLT, Nat.reduceLeDiff, Nat.succ_ne_zero, reduceIte, reduceCtorEq]
      · rw [flN, if_neg c1, if_pos c2]; exact F2
    · have c2' := leT (Int32.not_lt.mp c2)
      have c3 : ¬ f 2 - 5 < 5 := fun y => by have := ltT y; rw [e1T, z5] at this; omega
      obtain ⟨J2, G1, G2, G3⟩ := m_flush (τ := τ) hj ta ra tb F2
      have e2 : J2 q 2 = f 2 - 5 - 5 := (G2.1 2 (by omega)).trans rfl
      have c4 : f 2 - 5 - 5 < 5 := Int32.lt_iff_toInt_lt.mpr (by rw [tSub (by omega) (by omega), e1T, z5]; omega)
      refine ⟨J2, ?_, ?_, fun v y1 y2 => by rw [G3 v y1 y2, F3 v y1 y2]⟩
      · rw [flN, if_neg c1, if_neg c2]
        simp (config := {decide := true}) only [l_X6_day_96, itr_40, itr_39, itr_38, b_X6_day_96, F1, G1, gI_pt hj, gR_pt hj, ob_pt hj, ck_pt hj, pI_pt hj, pB_pt hj, pR_pt hj, aI_pt hj, aR_pt hj, wI_pt hj, wJ_pt hj, aL_pt hj, cl1_s, cl1_n, cl1_i, cx1_s, cx1_x, cx1_n, cx1_i, nul_n, nul_s, nm, dv2, dv3, dv4, dv5, dv8, dv10, dv20, dv40, thr, bo, mI_pt hj, mT_pt hj, sB_pt, mZ_pt, mJ_pt, mJ_sJ, mZ_sJ, tn0, tn1, tn2, tn3, tn4, tn5, tn6, ta, a2, e1, e2, c1, c3, c4, ii0, ii1, ii2, ii3, ii4, if_true, if_false, ne_eq, not_false_eq_true, not_true_eq_false, true_and, and_true, false_and, and_false, and_self, true_or, or_true, false_or, or_false, or_self, Nat.reduceAdd, Nat.reduceLT, Nat.reduceLeDiff, Nat.succ_ne_zero, reduceIte, reduceCtorEq]
      · rw [flN, if_neg c1, if_neg c2]; exact G2
/-- the bounds of a section's numbers -/
def Bd (f : Nat → Int32) (H : Nat) : Prop := (1 ≤ (f 0).toInt ∧ (f 0).toInt ≤ 9) ∧ (0 ≤ (f 1).toInt ∧ (f 1).toInt ≤ 2) ∧ (0 ≤ (f 2).toInt ∧ (f 2).toInt ≤ 4) ∧ (0 ≤ (f 3).toInt ∧ (f 3).toInt ≤ 4) ∧ (∀ k, k < 4 → 0 ≤ (f (k + 7)).toInt ∧ (f (k + 7)).toInt ≤ 18) ∧ (0 ≤ (f 6).toInt ∧ (f 6).toInt ≤ H)
theorem mx0_b {x : Int32} : 0 ≤ (mx0 x).toInt ∧ ((mx0 x).toInt = x.toInt ∨ (mx0 x).toInt = 0) := by
  have z : (0 : Int32).toInt = 0 := rfl
  rw [mx0]; split
  · rename_i h
    have := ltT h; rw [z] at this; exact ⟨by omega, Or.inl rfl⟩
  · exact ⟨by omega, Or.inr rfl⟩
theorem sap_b {H : Nat} (h : Bd f H) (hw : 0 ≤ w.toInt ∧ w.toInt ≤ 6) (he : 0 ≤ e.toInt ∧ e.toInt ≤ 6) : (d2F w e (d1F f) 2).toInt = (f 2).toInt + ((mx0 (w - f 1)).toInt + (mn e 3).toInt) ∧ 0 ≤ (d2F w e (d1F f) 2).toInt ∧ (d2F w e (d1F f) 2).toInt ≤ 14 := by
  obtain ⟨-, ⟨s1, s2⟩, ⟨p1, p2⟩, -⟩ := h
  have z3 : (3 : Int32).toInt = 3 := rfl
  have m1 := mx0_b (x := w - f 1)
  have ws : (w - f 1).toInt = w.toInt - (f 1).toInt := tSub (by omega) (by omega)
  have m2 := mn_b (a := e) (b := 3)
  have e1 : (mx0 (w - f 1) + mn e 3).toInt = (mx0 (w - f 1)).toInt + (mn e 3).toInt := tAdd (by omega) (by omega)
  have e2 : d2F w e (d1F f) 2 = f 2 + (mx0 (w - f 1) + mn e 3) := rfl
  have e3 : (f 2 + (mx0 (w - f 1) + mn e 3)).toInt = (f 2).toInt + ((mx0 (w - f 1)).toInt + (mn e 3).toInt) := by rw [tAdd (by omega) (by omega), e1]
  rw [e2, e3]
  refine ⟨rfl, by omega, by omega⟩
theorem fl_b {H : Nat} (h0 : 1 ≤ (f 0).toInt ∧ (f 0).toInt ≤ 9) (h7 : ∀ k, k < 4 → 0 ≤ (f (k + 7)).toInt ∧ (f (k + 7)).toInt ≤ 18) (h6 : 0 ≤ (f 6).toInt ∧ (f 6).toInt ≤ H) (hH : H ≤ 1000000) : (∀ k, k < 4 → 0 ≤ (flF f (k + 7)).toInt ∧ (flF f (k + 7)).toInt ≤ 18) ∧ 0 ≤ (flF f 6).toInt ∧ (flF f 6).toInt ≤ ((H + 18 : Nat) : Int) := by
  have z2 : (2 : Int32).toInt = 2 := rfl
  have f0 := h7 0 (by omega)
  have f1 := h7 1 (by omega)
  have f2 := h7 2 (by omega)
  have f3 := h7 3 (by omega)
  simp only [Nat.reduceAdd] at f0 f1 f2 f3
  have e6 : (flF f 6).toInt = (f 6).toInt + (f 10).toInt := tAdd (by omega) (by omega)
  refine ⟨fun k hk => ?_, by rw [e6]; omega, by rw [e6]; omega⟩
  rcases lt4 hk with rfl | rfl | rfl | rfl
  · show 0 ≤ (if f 4 < 3 then 2 * f 0 else f 0).toInt ∧ (if f 4 < 3 then 2 * f 0 else f 0).toInt ≤ 18
    split
    · have : (2 * f 0).toInt = 2 * (f 0).toInt := by rw [tMul (by rw [z2]; omega) (by rw [z2]; omega), z2]
      omega
    · omega
  · exact f0
  · exact f1
  · exact f2
theorem day_b {H : Nat} (h : Bd f H) (hH : H ≤ 900000) (hw : 0 ≤ w.toInt ∧ w.toInt ≤ 6) (he : 0 ≤ e.toInt ∧ e.toInt ≤ 6) : Bd (dayF w e f).2 (H + 36) := by
  have SB := sap_b h hw he
  obtain ⟨a0, a1, a2, a3, a7, a6⟩ := h
  have z5 : (5 : Int32).toInt = 5 := rfl
  have z10 : (10 : Int32).toInt = 10 := rfl
  have z0 : (0 : Int32).toInt = 0 := rfl
  have z1 : (1 : Int32).toInt = 1 := rfl
  rw [dayF]
  split
  · rename_i hr
    obtain ⟨f', hf'⟩ : ∃ f', f' = d2F w e (d1F f) := ⟨_, rfl⟩
    rw [← hf'] at SB ⊢
    obtain ⟨-, s0, s1⟩ := SB
    have g0 : f' 0 = f 0 := by rw [hf']; rfl
    have g1 : f' 1 = f 1 := by rw [hf']; rfl
    have g3 : f' 3 = f 3 := by rw [hf']; rfl
    have g6 : f' 6 = f 6 := by rw [hf']; rfl
    have g7 : ∀ k, k < 4 → f' (k + 7) = f (k + 7) := fun k hk => by rw [hf']; rcases lt4 hk with rfl | rfl | rfl | rfl <;> rfl
    have b0 : 1 ≤ (f' 0).toInt ∧ (f' 0).toInt ≤ 9 := by rw [g0]; exact a0
    have b7 : ∀ k, k < 4 → 0 ≤ (f' (k + 7)).toInt ∧ (f' (k + 7)).toInt ≤ 18 := fun k hk => by rw [g7 k hk]; exact a7 k hk
    have b6 : 0 ≤ (f' 6).toInt ∧ (f' 6).toInt ≤ H := by rw [g6]; exact a6
    obtain ⟨c1, c2, c3⟩ := fl_b b0 b7 b6 (by omega)
    rw [flN]
    split
    · rename_i y; have := ltT y
      show Bd f' (H + 36)
      exact ⟨b0, by rw [g1]; exact a1, ⟨s0, by omega⟩, by rw [g3]; exact a3, b7, ⟨b6.1, by have := b6.2; omega⟩⟩
    · rename_i y; have y' := leT (Int32.not_lt.mp y)
      have e1 : (f' 2 - 5).toInt = (f' 2).toInt - 5 := by rw [tSub (by omega) (by omega), z5]
      split
      · rename_i x; have := ltT x
        show Bd (flF f') (H + 36)
        exact ⟨b0, by rw [show flF f' 1 = f' 1 from rfl, g1]; exact a1, ⟨by rw [show flF f' 2 = f' 2 - 5 from rfl, e1]; omega, by rw [show flF f' 2 = f' 2 - 5 from rfl, e1]; omega⟩, by rw [show flF f' 3 = f' 3 from rfl, g3]; exact a3, c1, ⟨c2, by omega⟩⟩
      · rename_i x; have x' := leT (Int32.not_lt.mp x)
        have e2 : (f' 2 - 5 - 5).toInt = (f' 2).toInt - 10 := by rw [tSub (by omega) (by omega), e1, z5]; omega
        obtain ⟨k1, k2, k3⟩ := fl_b (f := flF f') (H := H + 18) b0 c1 ⟨c2, c3⟩ (by omega)
        show Bd (flF (flF f')) (H + 36)
        exact ⟨b0, by rw [show flF (flF f') 1 = f' 1 from rfl, g1]; exact a1, ⟨by rw [show flF (flF f') 2 = f' 2 - 5 - 5 from rfl, e2]; omega, by rw [show flF (flF f') 2 = f' 2 - 5 - 5 from rfl, e2]; omega⟩, by rw [show flF (flF f') 3 = f' 3 from rfl, g3]; exact a3, k1, ⟨k2, by omega⟩⟩
  · rename_i hr
    have hr' := ltT (Int32.not_le.mp hr)
    have e3 : d1F f 3 = f 3 := rfl
    rw [e3, z0] at hr'
    have e4 : (f 3 - 1).toInt = (f 3).toInt - 1 := by rw [tSub (by omega) (by omega), z1]
    refine ⟨a0, a1, a2, ⟨by show 0 ≤ (f 3 - 1).toInt; omega, by show (f 3 - 1).toInt ≤ 4; omega⟩, fun k hk => ?_, ⟨a6.1, by have := a6.2; show (f 6).toInt ≤ _; omega⟩⟩
    have := a7 k hk
    rcases lt4 hk with rfl | rfl | rfl | rfl <;> exact this
theorem SXr.set {g : Nat → Int32} {x : Int32} {j : Nat} (h : SXr J a b f) (hab : a ≠ b) (hj6 : j ≤ 6) (hg : ∀ k, g k = if k = j then x else f k) : SXr (up2 J a j x) a b g := by
  refine ⟨fun k hk => ?_, fun k hk => ?_⟩
  · rw [hg]
    by_cases c : k = j
    · rw [c, up2_at, if_pos rfl]
    · rw [up2_k c, if_neg c]; exact h.1 k hk
  · rw [up2_row (Ne.symm hab), hg, if_neg (by omega)]; exact h.2 k hk
theorem SMr.set {g : Nat → Int32} {x : Int32} {j : Nat} (h : SMr J q f) (hj6 : j ≤ 5) (hg : ∀ k, g k = if k = j then x else f k) : SMr (up2 J q j x) q g := by
  refine ⟨fun k hk => ?_, fun k hk => ?_, ?_⟩
  · rw [hg]
    by_cases c : k = j
    · rw [c, up2_at, if_pos rfl]
    · rw [up2_k c, if_neg c]; exact h.1 k hk
  · rw [up2_row (by omega), hg, if_neg (by omega)]; exact h.2.1 k hk
  · rw [up2_row (by omega), hg, if_neg (by omega)]; exact h.2.2
theorem x_d17 (hj : Inj φ T) (ta : T a = (5, 0)) (ra : R a 7 = some (φ b)) (tb : T b = (100, 4)) (hab : a ≠ b) (h : SXr J a b f) (s0 : 0 ≤ (d2F w e f 2).toInt) (s1 : (d2F w e f 2).toInt ≤ 14) : ∃ J', b_X2_growDay_17 (φ a) w e (pt φ T J R τ) = some ((if f 3 ≤ 0 then flN (d2F w e f) else (0, d3F f)).1, pt φ T J' R τ) ∧ SXr J' a b (if f 3 ≤ 0 then flN (d2F w e f) else (0, d3F f)).2 ∧ ∀ v, v ≠ a → v ≠ b → J' v = J v := by
  have a1 := h.1 1 (by omega)
  have a2 := h.1 2 (by omega)
  have a3 := h.1 3 (by omega)
  have a4 := h.1 4 (by omega)
  by_cases c : f 3 ≤ 0
  · simp only [if_pos c]
    have core : ∀ y, y = d2F w e f 4 → ∃ J', b_X2_growDay_66 (φ a) w e y (some (φ a)) (pt φ T J R τ) = some ((flN (d2F w e f)).1, pt φ T J' R τ) ∧ SXr J' a b (flN (d2F w e f)).2 ∧ ∀ v, v ≠ a → v ≠ b → J' v = J v := by
      intro y hy
      have S1 := h.set (x := y) (j := 4) (g := fun k => if k = 4 then y else f k) hab (by omega) (fun _ => rfl)
      have S2 := S1.set (x := f 2 + (mx0 (w - f 1) + mn e 3)) (j := 2) (g := d2F w e f) hab (by omega) (fun k => by
        by_cases k2 : k = 2
        · rw [k2, if_pos rfl]; rfl
        · by_cases k4 : k = 4
          · rw [k4, if_neg (by decide), if_pos rfl, hy]
          · rw [if_neg k2, if_neg k4, d2F, if_neg k4, if_neg k2])
      obtain ⟨J', L1, L2, L3⟩ := x_fl (τ := τ) hj ta ra tb hab S2 s0 s1
      refine ⟨J', ?_, L2, fun v y1 y2 => by rw [L3 v y1 y2, up2_row y1, up2_row y1]⟩
      have L1' : l_X2_growDay_94 40 (φ a) ((f 2 + (mx0 (w - f 1) + mn e 3)) / 5) 0 (pt φ T (up2 (up2 J a 4 y) a 2 (f 2 + (mx0 (w - f 1) + mn e 3))) R τ) = some ((flN (d2F w e f)).1, pt φ T J' R τ) := L1
      simp (config := {decide := true}) only [b_X2_growDay_66, b_X2_sapOfDay_0, f_X2_sapOfDay, gI_pt hj, gR_pt hj, ob_pt hj, ck_pt hj, pI_pt hj, pB_pt hj, pR_pt hj, aI_pt hj, aR_pt hj, wI_pt hj, wJ_pt hj, aL_pt hj, cl1_s, cl1_n, cl1_i, cx1_s, cx1_x, cx1_n, cx1_i, nul_n, nul_s, nm, dv2, dv3, dv4, dv5, dv8, dv10, dv20, dv40, thr, bo, mI_pt hj, mT_pt hj, sB_pt, mZ_pt, mJ_pt, mJ_sJ, mZ_sJ, tn0, tn1, tn2, tn3, tn4, tn5, tn6, ta, a1, a2, up2_k, up2_at, mx0E, mnE, L1', ii0, ii1, ii2, ii3, ii4, if_true, if_false, ne_eq, not_false_eq_true, not_true_eq_false, true_and, and_true, false_and, and_false, and_self, true_or, or_true, false_or, or_false, or_self, Nat.reduceAdd, Nat.reduceLT, Nat.reduceLeDiff, Nat.succ_ne_zero, reduceIte, reduceCtorEq]
    by_cases c2 : e + f 1 < 5
    · obtain ⟨J', L1, L2, L3⟩ := core (mx0 (f 4 - 1)) (by rw [d2F, if_pos rfl, if_pos c2])
      refine ⟨J', ?_, L2, L3⟩
      simp (config := {decide := true}) only [b_X2_growDay_17, gI_pt hj, gR_pt hj, ob_pt hj, ck_pt hj, pI_pt hj, pB_pt hj, pR_pt hj, aI_pt hj, aR_pt hj, wI_pt hj, wJ_pt hj, aL_pt hj, cl1_s, cl1_n, cl1_i, cx1_s, cx1_x, cx1_n, cx1_i, nul_n, nul_s, nm, dv2, dv3, dv4, dv5, dv8, dv10, dv20, dv40, thr, bo, mI_pt hj, mT_pt hj, sB_pt, mZ_pt, mJ_pt, mJ_sJ, mZ_sJ, tn0, tn1, tn2, tn3, tn4, tn5, tn6, ta, a1, a3, a4, c, c2, mx0E, L1, ii0, ii1, ii2, ii3, ii4, if_true, if_false, ne_eq, not_false_eq_true, not_true_eq_false, true_and, and_true, false_and, and_false, and_self, true_or, or_true, false_or, or_false, or_self, Nat.reduceAdd, Nat.reduceLT, Nat.reduceLeDiff, Nat.succ_ne_zero, reduceIte, reduceCtorEq]
    · obtain ⟨J', L1, L2, L3⟩ := core (f 4 + 1) (by rw [d2F, if_pos rfl, if_neg c2])
      refine ⟨J', ?_, L2, L3⟩
      simp (config := {decide := true}) only [b_X2_growDay_17, gI_pt hj, gR_pt hj, ob_pt hj, ck_pt hj, pI_pt hj, pB_pt hj, pR_pt hj, aI_pt hj, aR_pt hj, wI_pt hj, wJ_pt hj, aL_pt hj, cl1_s, cl1_n, cl1_i, cx1_s, cx1_x, cx1_n, cx1_i, nul_n, nul_s, nm, dv2, dv3, dv4, dv5, dv8, dv10, dv20, dv40, thr, bo, mI_pt hj, mT_pt hj, sB_pt, mZ_pt, mJ_pt, mJ_sJ, mZ_sJ, tn0, tn1, tn2, tn3, tn4, tn5, tn6, ta, a1, a3, a4, c, c2, L1, ii0, ii1, ii2, ii3, ii4, if_true, if_false, ne_eq, not_false_eq_true, not_true_eq_false, true_and, and_true, false_and, and_false, and_self, true_or, or_true, false_or, or_false, or_self, Nat.reduceAdd, Nat.reduceLT, Nat.reduceLeDiff, Nat.succ_ne_zero, reduceIte, reduceCtorEq]
  · simp only [if_neg c]
    refine ⟨up2 J a 3 (f 3 - 1), ?_, h.set hab (by omega) (fun k => rfl), fun v y1 y2 => up2_row y1⟩
    simp (config := {decide := true}) only [b_X2_growDay_17, gI_pt hj, gR_pt hj, ob_pt hj, ck_pt hj, pI_pt hj, pB_pt hj, pR_pt hj, aI_pt hj, aR_pt hj, wI_pt hj, wJ_pt hj, aL_pt hj, cl1_s, cl1_n, cl1_i, cx1_s, cx1_x, cx1_n, cx1_i, nul_n, nul_s, nm, dv2, dv3, dv4, dv5, dv8, dv10, dv20, dv40, thr, bo, mI_pt hj, mT_pt hj, sB_pt, mZ_pt, mJ_pt, mJ_sJ, mZ_sJ, tn0, tn1, tn2, tn3, tn4, tn5, tn6, ta, a3, c, ii0, ii1, ii2, ii3, ii4, if_true, if_false, ne_eq, not_false_eq_true, not_true_eq_false, true_and, and_true, false_and, and_false, and_self, true_or, or_true, false_or, or_false, or_self, Nat.reduceAdd, Nat.reduceLT, Nat.reduceLeDiff, Nat.succ_ne_zero, reduceIte, reduceCtorEq]
theorem m_d17 (hj : Inj φ T) (ta : T q = (9, 0)) (ra : R q 6 = some (φ (q + 1))) (tb : T (q + 1) = (100, 5)) (h : SMr J q f) (s0 : 0 ≤ (d2F w e f 2).toInt) (s1 : (d2F w e f 2).toInt ≤ 14) : ∃ J', b_X6_day_17 (φ q) w e (pt φ T J R τ) = some ((if f 3 ≤ 0 then flN (d2F w e f) else (0, d3F f)).1, pt φ T J' R τ) ∧ SMr J' q (if f 3 ≤ 0 then flN (d2F w e f) else (0, d3F f)).2 ∧ ∀ v, v ≠ q → v ≠ q + 1 → J' v = J v := by
  have a1 := h.1 1 (by omega)
  have a2 := h.1 2 (by omega)
  have a3 := h.1 3 (by omega)
  have a4 := h.1 4 (by omega)
  by_cases c : f 3 ≤ 0
  · simp only [if_pos c]
    have core : ∀ y, y = d2F w e f 4 → ∃ J', b_X6_day_66 (φ q) w e y (some (φ q)) (pt φ T J R τ) = some ((flN (d2F w e f)).1, pt φ T J' R τ) ∧ SMr J' q (flN (d2F w e f)).2 ∧ ∀ v, v ≠ q → v ≠ q + 1 → J' v = J v := by
      intro y hy
      have S1 := h.set (x := y) (j := 4) (g := fun k => if k = 4 then y else f k) (by omega) (fun _ => rfl)
      have S2 := S1.set (x := f 2 + (mx0 (w - f 1) + mn e 3)) (j := 2) (g := d2F w e f) (by omega) (fun k => by
        by_cases k2 : k = 2
        · rw [k2, if_pos rfl]; rfl
        · by_cases k4 : k = 4
          · rw [k4, if_neg (by decide), if_pos rfl, hy]
          · rw [if_neg k2, if_neg k4, d2F, if_neg k4, if_neg k2])
      obtain ⟨J', L1, L2, L3⟩ := m_fl (τ := τ) hj ta ra tb S2 s0 s1
      refine ⟨J', ?_, L2, fun v y1 y2 => by rw [L3 v y1 y2, up2_row y1, up2_row y1]⟩
      simp (config := {decide := true}) only [b_X6_day_66, gI_pt hj, gR_pt hj, ob_pt hj, ck_pt hj, pI_pt hj, pB_pt hj, pR_pt hj, aI_pt hj, aR_pt hj, wI_pt hj, wJ_pt hj, aL_pt hj, cl1_s, cl1_n, cl1_i, cx1_s, cx1_x, cx1_n, cx1_i, nul_n, nul_s, nm, dv2, dv3, dv4, dv5, dv8, dv10, dv20, dv40, thr, bo, mI_pt hj, mT_pt hj, sB_pt, mZ_pt, mJ_pt, mJ_sJ, mZ_sJ, tn0, tn1, tn2, tn3, tn4, tn5, tn6, ta, a1, a2, up2_k, up2_at, mx0E, mnE, L1, ii0, ii1, ii2, ii3, ii4, if_true, if_false, ne_eq, not_false_eq_true, not_true_eq_false, true_and, and_true, false_and, and_false, and_self, true_or, or_true, false_or, or_false, or_self, Nat.reduceAdd, Nat.reduceLT, Nat.reduceLeDiff, Nat.succ_ne_zero, reduceIte, reduceCtorEq]
    by_cases c2 : e + f 1 < 5
    · obtain ⟨J', L1, L2, L3⟩ := core (mx0 (f 4 - 1)) (by rw [d2F, if_pos rfl, if_pos c2])
      refine ⟨J', ?_, L2, L3⟩
      simp (config := {decide := true}) only [b_X6_day_17, gI_pt hj, gR_pt hj, ob_pt hj, ck_pt hj, pI_pt hj, pB_pt hj, pR_pt hj, aI_pt hj, aR_pt hj, wI_pt hj, wJ_pt hj, aL_pt hj, cl1_s, cl1_n, cl1_i, cx1_s, cx1_x, cx1_n, cx1_i, nul_n, nul_s, nm, dv2, dv3, dv4, dv5, dv8, dv10, dv20, dv40, thr, bo, mI_pt hj, mT_pt hj, sB_pt, mZ_pt, mJ_pt, mJ_sJ, mZ_sJ, tn0, tn1, tn2, tn3, tn4, tn5, tn6, ta, a1, a3, a4, c, c2, mx0E, L1, ii0, ii1, ii2, ii3, ii4, if_true, if_false, ne_eq, not_false_eq_true, not_true_eq_false, true_and, and_true, false_and, and_false, and_self, true_or, or_true, false_or, or_false, or_self, Nat.reduceAdd, Nat.reduceLT, Nat.reduceLeDiff, Nat.succ_ne_zero, reduceIte, reduceCtorEq]
    · obtain ⟨J', L1, L2, L3⟩ := core (f 4 + 1) (by rw [d2F, if_pos rfl, if_neg c2])
      refine ⟨J', ?_, L2, L3⟩
      simp (config := {decide := true}) only [b_X6_day_17, gI_pt hj, gR_pt hj, ob_pt hj, ck_pt hj, pI_pt hj, pB_pt hj, pR_pt hj, aI_pt hj, aR_pt hj, wI_pt hj, wJ_pt hj, aL_pt hj, cl1_s, cl1_n, cl1_i, cx1_s, cx1_x, cx1_n, cx1_i, nul_n, nul_s, nm, dv2, dv3, dv4, dv5, dv8, dv10, dv20, dv40, thr, bo, mI_pt hj, mT_pt hj, sB_pt, mZ_pt, mJ_pt, mJ_sJ, mZ_sJ, tn0, tn1, tn2, tn3, tn4, tn5, tn6, ta, a1, a3, a4, c, c2, L1, ii0, ii1, ii2, ii3, ii4, if_true, if_false, ne_eq, not_false_eq_true, not_true_eq_false, true_and, and_true, false_and, and_false, and_self, true_or, or_true, false_or, or_false, or_self, Nat.reduceAdd, Nat.reduceLT, Nat.reduceLeDiff, Nat.succ_ne_zero, reduceIte, reduceCtorEq]
  · simp only [if_neg c]
    refine ⟨up2 J q 3 (f 3 - 1), ?_, h.set (by omega) (fun k => rfl), fun v y1 y2 => up2_row y1⟩
    simp (config := {decide := true}) only [b_X6_day_17, gI_pt hj, gR_pt hj, ob_pt hj, ck_pt hj, pI_pt hj, pB_pt hj, pR_pt hj, aI_pt hj, aR_pt hj, wI_pt hj, wJ_pt hj, aL_pt hj, cl1_s, cl1_n, cl1_i, cx1_s, cx1_x, cx1_n, cx1_i, nul_n, nul_s, nm, dv2, dv3, dv4, dv5, dv8, dv10, dv20, dv40, thr, bo, mI_pt hj, mT_pt hj, sB_pt, mZ_pt, mJ_pt, mJ_sJ, mZ_sJ, tn0, tn1, tn2, tn3, tn4, tn5, tn6, ta, a3, c, ii0, ii1, ii2, ii3, ii4, if_true, if_false, ne_eq, not_false_eq_true, not_true_eq_false, true_and, and_true, false_and, and_false, and_self, true_or, or_true, false_or, or_false, or_self, Nat.reduceAdd, Nat.reduceLT, Nat.reduceLeDiff, Nat.succ_ne_zero, reduceIte, reduceCtorEq]
theorem d1F_p (c : f 5 ≤ 0) : d1F f = f := by
  funext k
  by_cases k5 : k = 5
  · rw [k5, d1F, if_pos rfl, if_pos c]
  · rw [d1F, if_neg k5]
theorem x_day {H : Nat} (hj : Inj φ T) (ta : T a = (5, 0)) (ra : R a 7 = some (φ b)) (tb : T b = (100, 4)) (hab : a ≠ b) (h : SXr J a b f) (hB : Bd f H) (hw : 0 ≤ w.toInt ∧ w.toInt ≤ 6) (he : 0 ≤ e.toInt ∧ e.toInt ≤ 6) : ∃ J', f_X2_growDay (φ a) w e (pt φ T J R τ) = some ((dayF w e f).1, pt φ T J' R τ) ∧ SXr J' a b (dayF w e f).2 ∧ ∀ v, v ≠ a → v ≠ b → J' v = J v := by
  obtain ⟨-, s0, s1⟩ := sap_b hB hw he
  have a5 := h.1 5 (by omega)
  by_cases c : f 5 ≤ 0
  · rw [d1F_p c] at s0 s1
    obtain ⟨J', L1, L2, L3⟩ := x_d17 (τ := τ) hj ta ra tb hab h s0 s1
    refine ⟨J', ?_, by rw [dayF, d1F_p c]; exact L2, L3⟩
    rw [dayF, d1F_p c, ← L1]
    simp (config := {decide := true}) only [f_X2_growDay, b_X2_growDay_0, gI_pt hj, gR_pt hj, ob_pt hj, ck_pt hj, pI_pt hj, pB_pt hj, pR_pt hj, aI_pt hj, aR_pt hj, wI_pt hj, wJ_pt hj, aL_pt hj, cl1_s, cl1_n, cl1_i, cx1_s, cx1_x, cx1_n, cx1_i, nul_n, nul_s, nm, dv2, dv3, dv4, dv5, dv8, dv10, dv20, dv40, thr, bo, mI_pt hj, mT_pt hj, sB_pt, mZ_pt, mJ_pt, mJ_sJ, mZ_sJ, tn0, tn1, tn2, tn3, tn4, tn5, tn6, ta, a5, c, ii0, ii1, ii2, ii3, ii4, if_true, if_false, ne_eq, not_false_eq_true, not_true_eq_false, true_and, and_true, false_and, and_false, and_self, true_or, or_true, false_or, or_false, or_self, Nat.reduceAdd, Nat.reduceLT, Nat.reduceLeDiff, Nat.succ_ne_zero, reduceIte, reduceCtorEq]
  · have S1 := h.set (x := f 5 - 1) (j := 5) (g := d1F f) hab (by omega) (fun k => by rw [d1F, if_neg c])
    obtain ⟨J', L1, L2, L3⟩ := x_d17 (τ := τ) hj ta ra tb hab S1 s0 s1
    refine ⟨J', ?_, by rw [dayF]; exact L2, fun v y1 y2 => by rw [L3 v y1 y2, up2_row y1]⟩
    rw [dayF, ← L1]
    simp (config := {decide := true}) only [f_X2_growDay, b_X2_growDay_0, gI_pt hj, gR_pt hj, ob_pt hj, ck_pt hj, pI_pt hj, pB_pt hj, pR_pt hj, aI_pt hj, aR_pt hj, wI_pt hj, wJ_pt hj, aL_pt hj, cl1_s, cl1_n, cl1_i, cx1_s, cx1_x, cx1_n, cx1_i, nul_n, nul_s, nm, dv2, dv3, dv4, dv5, dv8, dv10, dv20, dv40, thr, bo, mI_pt hj, mT_pt hj, sB_pt, mZ_pt, mJ_pt, mJ_sJ, mZ_sJ, tn0, tn1, tn2, tn3, tn4, tn5, tn6, ta, a5, c, ii0, ii1, ii2, ii3, ii4, if_true, if_false, ne_eq, not_false_eq_true, not_true_eq_false, true_and, and_true, false_and, and_false, and_self, true_or, or_true, false_or, or_false, or_self, Nat.reduceAdd, Nat.reduceLT, Nat.reduceLeDiff, Nat.succ_ne_zero, reduceIte, reduceCtorEq]
theorem m_day {H : Nat} (hj : Inj φ T) (ta : T q = (9, 0)) (ra : R q 6 = some (φ (q + 1))) (tb : T (q + 1) = (100, 5)) (h : SMr J q f) (hB : Bd f H) (hw : 0 ≤ w.toInt ∧ w.toInt ≤ 6) (he : 0 ≤ e.toInt ∧ e.toInt ≤ 6) : ∃ J', f_X6_day (φ q) w e (pt φ T J R τ) = some ((dayF w e f).1, pt φ T J' R τ) ∧ SMr J' q (dayF w e f).2 ∧ ∀ v, v ≠ q → v ≠ q + 1 → J' v = J v := by
  obtain ⟨-, s0, s1⟩ := sap_b hB hw he
  have a5 := h.1 5 (by omega)
  by_cases c : f 5 ≤ 0
  · rw [d1F_p c] at s0 s1
    obtain ⟨J', L1, L2, L3⟩ := m_d17 (τ := τ) hj ta ra tb h s0 s1
    refine ⟨J', ?_, by rw [dayF, d1F_p c]; exact L2, L3⟩
    rw [dayF, d1F_p c, ← L1]
    simp (config := {decide := true}) only [f_X6_day, b_X6_day_0, gI_pt hj, gR_pt hj, ob_pt hj, ck_pt hj, pI_pt hj, pB_pt hj, pR_pt hj, aI_pt hj, aR_pt hj, wI_pt hj, wJ_pt hj, aL_pt hj, cl1_s, cl1_n, cl1_i, cx1_s, cx1_x, cx1_n, cx1_i, nul_n, nul_s, nm, dv2, dv3, dv4, dv5, dv8, dv10, dv20, dv40, thr, bo, mI_pt hj, mT_pt hj, sB_pt, mZ_pt, mJ_pt, mJ_sJ, mZ_sJ, tn0, tn1, tn2, tn3, tn4, tn5, tn6, ta, a5, c, ii0, ii1, ii2, ii3, ii4, if_true, if_false, ne_eq, not_false_eq_true, not_true_eq_false, true_and, and_true, false_and, and_false, and_self, true_or, or_true, false_or, or_false, or_self, Nat.reduceAdd, Nat.reduceLT, Nat.reduceLeDiff, Nat.succ_ne_zero, reduceIte, reduceCtorEq]
  · have S1 := h.set (x := f 5 - 1) (j := 5) (g := d1F f) (by omega) (fun k => by rw [d1F, if_neg c])
    obtain ⟨J', L1, L2, L3⟩ := m_d17 (τ := τ) hj ta ra tb S1 s0 s1
    refine ⟨J', ?_, by rw [dayF]; exact L2, fun v y1 y2 => by rw [L3 v y1 y2, up2_row y1]⟩
    rw [dayF, ← L1]
    simp (config := {decide := true}) only [f_X6_day, b_X6_day_0, gI_pt hj, gR_pt hj, ob_pt hj, ck_pt hj, pI_pt hj, pB_pt hj, pR_pt hj, aI_pt hj, aR_pt hj, wI_pt hj, wJ_pt hj, aL_pt hj, cl1_s, cl1_n, cl1_i, cx1_s, cx1_x, cx1_n, cx1_i, nul_n, nul_s, nm, dv2, dv3, dv4, dv5, dv8, dv10, dv20, dv40, thr, bo, mI_pt hj, mT_pt hj, sB_pt, mZ_pt, mJ_pt, mJ_sJ, mZ_sJ, tn0, tn1, tn2, tn3, tn4, tn5, tn6, ta, a5, c, ii0, ii1, ii2, ii3, ii4, if_true, if_false, ne_eq, not_false_eq_true, not_true_eq_false, true_and, and_true, false_and, and_false, and_self, true_or, or_true, false_or, or_false, or_self, Nat.reduceAdd, Nat.reduceLT, Nat.reduceLeDiff, Nat.succ_ne_zero, reduceIte, reduceCtorEq]
end DY

/-! PASS -/
section PS
variable {φ : Nat → Nat} {T : Nat → Nat × Nat} {I : Nat → Nat → Int32} {R : Nat → Nat → Option Nat} {τ : Mem} {e0 nS nL cS cL n z : Nat} {mx : Nat → Int32} {cB : Nat → Nat} {bl : Nat → List (Nat × Int32)}
variable {mi a b q k i j : Nat} {J : Nat → Nat → Int32} {p r w e : Int32} {f : Nat → Int32} {τ0 τ1 : Mem}
/-- the sections' numbers -/
def scF (I : Nat → Nat → Int32) (i k : Nat) : Int32 := if k ≤ 6 then I (2 * i + 11) k else I (2 * i + 12) (k - 7)
def stF (w e : Int32) (F : Nat → Nat → Int32) : Nat → Nat → Nat → Int32
  | 0 => F
  | d + 1 => fun i => (dayF w e (stF w e F d i)).2
def ctF (w e : Int32) (F : Nat → Nat → Int32) (d i : Nat) : Int32 := (dayF w e (stF w e F d i)).1
def acS (g : Nat → Int32) (a : Int32) : Nat → Int32
  | 0 => a
  | i + 1 => acS g a i + g i
def acD (w e : Int32) (F : Nat → Nat → Int32) (nS : Nat) : Nat → Int32
  | 0 => 0
  | d + 1 => acS (ctF w e F d) (acD w e F nS d) nS
theorem Cx.sx (h : Cx φ T I R z e0 nS nL cS cL mx cB bl n) (hi : i < nS) : SXr I (2 * i + 11) (2 * i + 12) (scF I i) := by
  refine ⟨fun k hk => by rw [scF, if_pos hk], fun k hk => by rw [scF, if_neg (by omega)]; rfl⟩
theorem Cx.smr (h : Cx φ T I R z e0 nS nL cS cL mx cB bl n) (hi : i < nS) : SMr I (2 * i + 135) (scF I i) := by
  obtain ⟨⟨F0, F1, F2, F3, F4, F5, F6⟩, ⟨G0, G1, G2, G3⟩, -⟩ := h.sr hi
  refine ⟨fun k hk => ?_, fun k hk => ?_, ?_⟩
  · rcases (show k = 0 ∨ k = 1 ∨ k = 2 ∨ k = 3 ∨ k = 4 ∨ k = 5 by omega) with rfl | rfl | rfl | rfl | rfl | rfl <;> rw [scF, if_pos (by omega)] <;> first | exact F0.symm | exact F1.symm | exact F2.symm | exact F3.symm | exact F4.symm | exact F5.symm
  · rw [scF, if_neg (by omega)]
    rcases lt4 hk with rfl | rfl | rfl | rfl <;> first | exact G0.symm | exact G1.symm | exact G2.symm | exact G3.symm
  · rw [scF, if_pos (by omega)]; exact F6.symm
theorem Cx.sb (h : Cx φ T I R z e0 nS nL cS cL mx cB bl n) (hi : i < nS) : Bd (scF I i) (1080 * n) := by
  obtain ⟨-, -, ⟨b1, b2, b3, b4, b5, b6, b7, b8⟩, sh, hb⟩ := h.sr hi
  refine ⟨⟨b1, b2⟩, ⟨b3, b4⟩, ⟨b5, b6⟩, ⟨b7, b8⟩, fun k hk => ?_, ?_⟩
  · rw [scF, if_neg (by omega)]; exact sh k hk
  · rw [scF, if_pos (by omega)]; exact ⟨hb.1, by have := hb.2; omega⟩
theorem st_b {F : Nat → Nat → Int32} {H : Nat} (h : ∀ i, i < nS → Bd (F i) H) (hw : 0 ≤ w.toInt ∧ w.toInt ≤ 6) (he : 0 ≤ e.toInt ∧ e.toInt ≤ 6) : ∀ d, H + 36 * d ≤ 900000 → ∀ i, i < nS → Bd (stF w e F d i) (H + 36 * d) := by
  intro d
  induction d with
  | zero => intro _ i hi; exact h i hi
  | succ d ih =>
    intro hH i hi
    have := day_b (ih (by omega) i hi) (by omega) hw he
    rw [show H + 36 * (d + 1) = H + 36 * d + 36 by omega]; exact this
/-- the garden's sections, one day -/
theorem x_passS (h : Cx φ T I R z e0 nS nL cS cL mx cB bl n) {F : Nat → Nat → Int32} {H : Nat} (hB : ∀ i, i < nS → Bd (F i) H) (hw : 0 ≤ w.toInt ∧ w.toInt ≤ 6) (he : 0 ≤ e.toInt ∧ e.toInt ≤ 6) (h01 : J 0 1 = Int32.ofNat nS) (hS : ∀ i, i < nS → SXr J (2 * i + 11) (2 * i + 12) (F i)) (k27 : Nat → Int32 → Int32 → Int32 → Int32 → Int32 → Mem → Option (((Int32) ⊕ Nat) × Mem)) (days acc day : Int32) :
    ∃ J', l_X4_pass_46 k27 40 (φ 0) w e days acc day 0 (pt φ T J R τ) = k27 (φ 0) w e days (acS (fun i => (dayF w e (F i)).1) acc nS) (day + 1) (pt φ T J' R τ) ∧ (∀ v, (v < 11 ∨ 2 * nS + 11 ≤ v) → J' v = J v) ∧ (∀ i, i < nS → SXr J' (2 * i + 11) (2 * i + 12) (dayF w e (F i)).2) := by
  have hj := h.hj
  have hx0 := h.m.2.2.2.2.2.2.2
  have hS4 := h.m.2.2.2.2.2.1
  have L := itr_loop (fun m (s' : Int32 × Int32 × Mem) => l_X4_pass_46 k27 m (φ 0) w e days s'.1 day s'.2.1 s'.2.2) (fun k s' => s'.1 = acS (fun i => (dayF w e (F i)).1) acc k ∧ s'.2.1 = Int32.ofNat k ∧ ∃ J', s'.2.2 = pt φ T J' R τ ∧ (∀ v, (v < 11 ∨ 2 * nS + 11 ≤ v) → J' v = J v) ∧ (∀ i, i < k → SXr J' (2 * i + 11) (2 * i + 12) (dayF w e (F i)).2) ∧ (∀ i, k ≤ i → i < nS → SXr J' (2 * i + 11) (2 * i + 12) (F i))) nS (by
    rintro m k ⟨ac, x, σ⟩ hk ⟨h1, h2, J1, h3, h4, h5, h6⟩
    simp only at h1 h2 h3
    subst h1 h2 h3
    have c1 : ¬ Int32.ofNat nS ≤ Int32.ofNat k := by rw [kN_le (by omega) (by omega)]; omega
    have c2 := kN_nn (a := k) (by omega)
    have c3 := tnK (k := k) (by omega)
    have c4 : k < 4 := by omega
    have j01 : J1 0 1 = Int32.ofNat nS := by rw [h4 0 (by omega)]; exact h01
    obtain ⟨hj, hl, hx, hm, hr⟩ := h; obtain ⟨hx0, hx1, hx2, hx3, hx4, hx5, hx6, hx7, hx8, hx9, hx10, hx11, hx12, hx13, hx14, hx15, hx16, hx17, hx18, hx19, hx20, hx21, hx22, hx23, hx24, hx25, hx26, hx27⟩ := hx; obtain ⟨hm0, hm1, hm2, hm3, hm4, hm5, hm6, hm7, hm8, hm9, hm10, hm11, hm12, hm13, hm14, hm15, hm16, hm17, hm18, hm19, hm20, hm21, hm22, hm23, hm24, hm25, hm26, hm27, hm28, hm29, hm30, hm31, hm32, hm33, hm34, hm35, hm36, hm37, hm38, hm39, hm40, hm41, hm42, hm43, hm44⟩ := hm; obtain ⟨⟨⟨g1, g2⟩, ⟨g3, g4, g5, g6, g7⟩, g8, g9, g10⟩, r1, r2, r3, r4, r5, r6⟩ := hr
    obtain ⟨J2, D1, D2, D3⟩ := x_day (τ := τ) hj (hx11 k c4) (hx12 k c4) (hx13 k c4) (by omega) (h6 k (Nat.le_refl _) hk) (hB k hk) hw he
    refine ⟨(acS (fun i => (dayF w e (F i)).1) acc (k + 1), Int32.ofNat (k + 1), pt φ T J2 R τ), ⟨rfl, rfl, J2, rfl, fun v hv => by rw [D3 v (by omega) (by omega), h4 v hv], fun i hi => ?_, fun i hi hi2 => ?_⟩, ?_⟩
    · by_cases c : i = k
      · subst c; exact D2
      · obtain ⟨y1, y2⟩ := h5 i (by omega)
        exact ⟨fun k hk => by rw [D3 _ (by omega) (by omega)]; exact y1 k hk, fun k hk => by rw [D3 _ (by omega) (by omega)]; exact y2 k hk⟩
    · obtain ⟨y1, y2⟩ := h6 i (by omega) hi2
      exact ⟨fun k hk => by rw [D3 _ (by omega) (by omega)]; exact y1 k hk, fun k hk => by rw [D3 _ (by omega) (by omega)]; exact y2 k hk⟩
    · simp (config := {decide := true}) only [l_X4_pass_46, itr_succ, b_X4_pass_46, D1, gI_pt hj, gR_pt hj, ob_pt hj, ck_pt hj, pI_pt hj, pB_pt hj, pR_pt hj, aI_pt hj, aR_pt hj, wI_pt hj, wJ_pt hj, aL_pt hj, cl1_s, cl1_n, cl1_i, cx1_s, cx1_x, cx1_n, cx1_i, nul_n, nul_s, nm, dv2, dv3, dv4, dv5, dv8, dv10, dv20, dv40, thr, bo, mI_pt hj, mT_pt hj, sB_pt, mZ_pt, mJ_pt, mJ_sJ, mZ_sJ, tn0, tn1, tn2, tn3, tn4, tn5, tn6, hx0, hx1, hx6, hx10 k c4, hx11 k c4, j01, c1, c2, c3, c4, kN_s, acS, ii0, ii1, ii2, ii3, ii4, if_true, if_false, ne_eq, not_false_eq_true, not_true_eq_false, true_and, and_true, false_and, and_false, and_self, true_or, or_true, false_or, or_false, or_self, Nat.reduceAdd, Nat.reduceLT, Nat.reduceLeDiff, Nat.succ_ne_zero, reduceIte, reduceCtorEq])
  obtain ⟨⟨ac, x, σ⟩, ⟨h1, h2, J1, h3, h4, h5, h6⟩, hL⟩ := L nS 0 40 (acc, 0, pt φ T J R τ) (by omega) (by omega) ⟨rfl, rfl, J, rfl, fun _ _ => rfl, fun i hi => by omega, fun i _ hi => hS i hi⟩
  simp only at h1 h2 h3
  subst h1 h2 h3
  refine ⟨J1, ?_, h4, fun i hi => h5 i hi⟩
  obtain ⟨m, hm⟩ : ∃ m, 40 - nS = m + 1 := ⟨39 - nS, by omega⟩
  simp only [hm] at hL
  rw [hL]
  have c1 : Int32.ofNat nS ≤ Int32.ofNat nS := Int32.le_refl _
  have j01 : J1 0 1 = Int32.ofNat nS := by rw [h4 0 (by omega)]; exact h01
  have t0 : (T 0).1 = 6 + 1 := by rw [hx0]
  rw [l_X4_pass_46, itr_succ, b_X4_pass_46, gI_pt hj t0, j01, if_pos c1]; rfl
theorem x_pass (h : Cx φ T I R z e0 nS nL cS cL mx cB bl n) (hn : n < 600) (hw : 0 ≤ w.toInt ∧ w.toInt ≤ 6) (he : 0 ≤ e.toInt ∧ e.toInt ≤ 6) {D : Nat} (hD : D ≤ 30) : ∃ J', l_X4_pass_27 40 (φ 0) w e (Int32.ofNat D) 0 0 (pt φ T I R τ) = some (.inl (acD w e (scF I) nS D), pt φ T J' R τ) ∧ (∀ v, v ≠ 0 → (v < 11 ∨ 2 * nS + 11 ≤ v) → J' v = I v) ∧ J' 0 2 = I 0 2 + Int32.ofNat D ∧ (∀ k, k ≠ 2 → J' 0 k = I 0 k) ∧ (∀ i, i < nS → SXr J' (2 * i + 11) (2 * i + 12) (stF w e (scF I) D i)) := by
  have hj := h.hj
  have hx0 := h.m.2.2.2.2.2.2.2
  have hS4 := h.m.2.2.2.2.2.1
  have t0 : (T 0).1 = 6 + 1 := by rw [hx0]
  have SB := st_b (F := scF I) (H := 1080 * n) (fun i hi => h.sb hi) hw he
  have g1 : I 0 1 = Int32.ofNat nS := h.2.2.2.2.1.1.1
  have L := itr_loop (fun m (s' : Int32 × Int32 × Mem) => l_X4_pass_27 m (φ 0) w e (Int32.ofNat D) s'.1 s'.2.1 s'.2.2) (fun d s' => s'.1 = acD w e (scF I) nS d ∧ s'.2.1 = Int32.ofNat d ∧ ∃ J', s'.2.2 = pt φ T J' R τ ∧ (∀ v, v ≠ 0 → (v < 11 ∨ 2 * nS + 11 ≤ v) → J' v = I v) ∧ J' 0 2 = I 0 2 + Int32.ofNat d ∧ (∀ k, k ≠ 2 → J' 0 k = I 0 k) ∧ (∀ i, i < nS → SXr J' (2 * i + 11) (2 * i + 12) (stF w e (scF I) d i))) D (by
    rintro m d ⟨ac, x, σ⟩ hd ⟨h1, h2, J1, h3, h4, h5, h6, h7⟩
    simp only at h1 h2 h3
    subst h1 h2 h3
    have c1 : ¬ Int32.ofNat D ≤ Int32.ofNat d := by rw [kN_le (by omega) (by omega)]; omega
    obtain ⟨J2, P1, P2, P3⟩ := x_passS (J := up2 J1 0 2 (J1 0 2 + 1)) (τ := τ) h (SB d (by omega)) hw he (by rw [up2_k (by decide), h6 1 (by decide)]; exact g1) (fun i hi => by
      obtain ⟨y1, y2⟩ := h7 i hi
      exact ⟨fun k hk => by rw [up2_row (by omega)]; exact y1 k hk, fun k hk => by rw [up2_row (by omega)]; exact y2 k hk⟩) (l_X4_pass_27 m) (Int32.ofNat D) (acD w e (scF I) nS d) (Int32.ofNat d)
    refine ⟨(acD w e (scF I) nS (d + 1), Int32.ofNat (d + 1), pt φ T J2 R τ), ⟨rfl, rfl, J2, rfl, fun v hv hv2 => by rw [P2 v hv2, up2_row hv, h4 v hv hv2], by rw [P2 0 (by omega), up2_at, h5, Int32.add_assoc, kN_s], fun k hk => by rw [P2 0 (by omega), up2_k hk, h6 k hk], fun i hi => P3 i hi⟩, ?_⟩
    rw [kN_s] at P1
    show l_X4_pass_27 (m + 1) _ _ _ _ _ _ _ = l_X4_pass_27 m _ _ _ _ _ _ _
    rw [l_X4_pass_27, itr_succ, b_X4_pass_27, if_neg c1, gI_pt hj t0, nm, pI_pt hj t0]
    exact P1)
  obtain ⟨⟨ac, x, σ⟩, ⟨h1, h2, J1, h3, h4, h5, h6, h7⟩, hL⟩ := L D 0 40 (0, 0, pt φ T I R τ) (by omega) (by omega) ⟨rfl, rfl, I, rfl, fun _ _ _ => rfl, (Int32.add_zero _).symm, fun _ _ => rfl, fun i hi => h.sx hi⟩
  simp only at h1 h2 h3
  subst h1 h2 h3
  refine ⟨J1, ?_, h4, h5, h6, h7⟩
  obtain ⟨m, hm⟩ : ∃ m, 40 - D = m + 1 := ⟨39 - D, by omega⟩
  simp only [hm] at hL
  rw [hL]
  have c1 : Int32.ofNat D ≤ Int32.ofNat D := Int32.le_refl _
  rw [l_X4_pass_27, itr_succ, b_X4_pass_27, if_pos c1]
/-! the reference -/
theorem m_itS (h : Cx φ T I R (mZ τ) e0 nS nL cS cL mx cB bl n) (hJ : J 125 = I 125) (ha : mZ τ ≤ a) (hi : Itr τ1 a (φ 125) (I 125 0) k) (hk : k < nS) : f_Jx35411_hasNext_aae02 a (pt φ T J R τ1) = some (1, pt φ T J R τ1) ∧ f_Jx35411_next_0502b e0 mi a (pt φ T J R τ1) = some (some (φ (2 * k + 135)), pt φ T J R (itS τ1 a k)) := by
  have hE := @Cx.ne0 _ _ _ _ _ _ _ _ _ _ _ _ _ _ h
  have ho := h.offZ ha
  obtain ⟨hj, hl, hx, hm, hr⟩ := h; obtain ⟨hx0, hx1, hx2, hx3, hx4, hx5, hx6, hx7, hx8, hx9, hx10, hx11, hx12, hx13, hx14, hx15, hx16, hx17, hx18, hx19, hx20, hx21, hx22, hx23, hx24, hx25, hx26, hx27⟩ := hx; obtain ⟨hm0, hm1, hm2, hm3, hm4, hm5, hm6, hm7, hm8, hm9, hm10, hm11, hm12, hm13, hm14, hm15, hm16, hm17, hm18, hm19, hm20, hm21, hm22, hm23, hm24, hm25, hm26, hm27, hm28, hm29, hm30, hm31, hm32, hm33, hm34, hm35, hm36, hm37, hm38, hm39, hm40, hm41, hm42, hm43, hm44⟩ := hm; obtain ⟨⟨⟨g1, g2⟩, ⟨g3, g4, g5, g6, g7⟩, g8, g9, g10⟩, r1, r2, r3, r4, r5, r6⟩ := hr
  have a1 : nS ≠ 0 := by omega
  have T4 := hm16 (by omega)
  have R1 : R 125 1 = some (φ 133) := by rw [hm14, if_neg a1]
  refine ⟨m_has1 hj ho hi hm5 (by rw [hJ]; exact hm12) hk (by omega), ?_⟩
  rw [m_next hj ho hi hm5 (by rw [hJ]) (by rw [hJ]; exact hm12) hk (by omega) R1 T4 hm18 (by omega) (hE (by rw [T4]; simp) (by decide)), hm24 k hk]
theorem m_itS0 (h : Cx φ T I R (mZ τ) e0 nS nL cS cL mx cB bl n) (hJ : J 125 = I 125) (ha : mZ τ ≤ a) (hi : Itr τ1 a (φ 125) (I 125 0) nS) : f_Jx35411_hasNext_aae02 a (pt φ T J R τ1) = some (0, pt φ T J R τ1) := by
  have ho := h.offZ ha
  obtain ⟨hj, hl, hx, hm, hr⟩ := h; obtain ⟨hx0, hx1, hx2, hx3, hx4, hx5, hx6, hx7, hx8, hx9, hx10, hx11, hx12, hx13, hx14, hx15, hx16, hx17, hx18, hx19, hx20, hx21, hx22, hx23, hx24, hx25, hx26, hx27⟩ := hx; obtain ⟨hm0, hm1, hm2, hm3, hm4, hm5, hm6, hm7, hm8, hm9, hm10, hm11, hm12, hm13, hm14, hm15, hm16, hm17, hm18, hm19, hm20, hm21, hm22, hm23, hm24, hm25, hm26, hm27, hm28, hm29, hm30, hm31, hm32, hm33, hm34, hm35, hm36, hm37, hm38, hm39, hm40, hm41, hm42, hm43, hm44⟩ := hm; obtain ⟨⟨⟨g1, g2⟩, ⟨g3, g4, g5, g6, g7⟩, g8, g9, g10⟩, r1, r2, r3, r4, r5, r6⟩ := hr
  exact m_has0 hj ho hi hm5 (by rw [hJ]; exact hm12)
theorem m_passS (h : Cx φ T I R (mZ τ) e0 nS nL cS cL mx cB bl n) {F : Nat → Nat → Int32} {H : Nat} (hB : ∀ i, i < nS → Bd (F i) H) (hw : 0 ≤ w.toInt ∧ w.toInt ≤ 6) (he : 0 ≤ e.toInt ∧ e.toInt ≤ 6) (h01 : J 125 = I 125) (hS : ∀ i, i < nS → SMr J (2 * i + 135) (F i)) (ha : mZ τ ≤ a) (hI : Itr τ0 a (φ 125) (I 125 0) 0) (k39 : Nat → Int32 → Int32 → Int32 → Int32 → Int32 → Mem → Option ((Int32) × Mem)) (days acc day : Int32) :
    ∃ J' τ', l_X8_pass_54 e0 mi k39 5 (φ 124) w e days acc day (some a) (pt φ T J R τ0) = k39 (φ 124) w e days (acS (fun i => (dayF w e (F i)).1) acc nS) (day + 1) (pt φ T J' R τ') ∧ (∀ v, (v < 135 ∨ 2 * nS + 135 ≤ v) → J' v = J v) ∧ (∀ i, i < nS → SMr J' (2 * i + 135) (dayF w e (F i)).2) ∧ Kp a τ0 τ' := by
  have hj := h.hj
  have ho := h.offZ ha
  have hS4 := h.m.2.2.2.2.2.1
  have L := itr_loop (fun m (s' : Int32 × Mem) => l_X8_pass_54 e0 mi k39 m (φ 124) w e days s'.1 day (some a) s'.2) (fun k s' => s'.1 = acS (fun i => (dayF w e (F i)).1) acc k ∧ ∃ J' τ1, s'.2 = pt φ T J' R τ1 ∧ Itr τ1 a (φ 125) (I 125 0) k ∧ Kp a τ0 τ1 ∧ (∀ v, (v < 135 ∨ 2 * nS + 135 ≤ v) → J' v = J v) ∧ (∀ i, i < k → SMr J' (2 * i + 135) (dayF w e (F i)).2) ∧ (∀ i, k ≤ i → i < nS → SMr J' (2 * i + 135) (F i))) nS (by
    rintro m k ⟨ac, σ⟩ hk ⟨h1, J1, τ1, h3, hI1, hK, h4, h5, h6⟩
    simp only at h1 h3
    subst h1 h3
    obtain ⟨e1, e2⟩ := m_itS (mi := mi) (J := J1) h (by rw [h4 125 (by omega)]; exact h01) ha hI1 hk
    have i1 := hI1.1
    have i2 : mT (itS τ1 a k) a = (1, 0) := hI1.1
    have T9 := h.t9 hk
    obtain ⟨hj, hl, hx, hm, hr⟩ := h; obtain ⟨hx0, hx1, hx2, hx3, hx4, hx5, hx6, hx7, hx8, hx9, hx10, hx11, hx12, hx13, hx14, hx15, hx16, hx17, hx18, hx19, hx20, hx21, hx22, hx23, hx24, hx25, hx26, hx27⟩ := hx; obtain ⟨hm0, hm1, hm2, hm3, hm4, hm5, hm6, hm7, hm8, hm9, hm10, hm11, hm12, hm13, hm14, hm15, hm16, hm17, hm18, hm19, hm20, hm21, hm22, hm23, hm24, hm25, hm26, hm27, hm28, hm29, hm30, hm31, hm32, hm33, hm34, hm35, hm36, hm37, hm38, hm39, hm40, hm41, hm42, hm43, hm44⟩ := hm; obtain ⟨⟨⟨g1, g2⟩, ⟨g3, g4, g5, g6, g7⟩, g8, g9, g10⟩, r1, r2, r3, r4, r5, r6⟩ := hr
    obtain ⟨J2, D1, D2, D3⟩ := m_day (τ := itS τ1 a k) hj (hm25 k hk) (hm26 k hk) (hm27 k hk) (h6 k (Nat.le_refl _) hk) (hB k hk) hw he
    refine ⟨(acS (fun i => (dayF w e (F i)).1) acc (k + 1), pt φ T J2 R (itS τ1 a k)), ⟨rfl, J2, _, rfl, itS_I hI1, hK.trans (itS_K (Nat.le_refl _)), fun v hv => by rw [D3 v (by omega) (by omega), h4 v hv], fun i hi => ?_, fun i hi hi2 => ?_⟩, ?_⟩
    · by_cases c : i = k
      · subst c; exact D2
      · obtain ⟨y1, y2, y3⟩ := h5 i (by omega)
        exact ⟨fun k hk => by rw [D3 _ (by omega) (by omega)]; exact y1 k hk, fun k hk => by rw [D3 _ (by omega) (by omega)]; exact y2 k hk, by rw [D3 _ (by omega) (by omega)]; exact y3⟩
    · obtain ⟨y1, y2, y3⟩ := h6 i (by omega) hi2
      exact ⟨fun k hk => by rw [D3 _ (by omega) (by omega)]; exact y1 k hk, fun k hk => by rw [D3 _ (by omega) (by omega)]; exact y2 k hk, by rw [D3 _ (by omega) (by omega)]; exact y3⟩
    · simp (config := {decide := true}) only [l_X8_pass_54, itr_succ, b_X8_pass_54, e1, e2, D1, gI_pt hj, gR_pt hj, ob_pt hj, ck_pt hj, pI_pt hj, pB_pt hj, pR_pt hj, aI_pt hj, aR_pt hj, wI_pt hj, wJ_pt hj, aL_pt hj, cl1_s, cl1_n, cl1_i, cx1_s, cx1_x, cx1_n, cx1_i, nul_n, nul_s, nm, dv2, dv3, dv4, dv5, dv8, dv10, dv20, dv40, thr, bo, gI_off, gR_off, ob_off, ck_off, pI_off, pB_off, pR_off, aI_off, wI_off, aR_off, nA_off, nO_off, mT_sI, mT_sR, mT_sJ, mT_sN_at, mI_sN_at, mR_sN_at, mI_sI, mI_sR, mI_sJ, mR_sI, mR_sR, mR_sJ, mZ_sI, mZ_sR, mZ_sN, mJ_sI, mJ_sR, ho, mI_pt hj, mT_pt hj, sB_pt, mZ_pt, mJ_pt, mJ_sJ, mZ_sJ, tn0, tn1, tn2, tn3, tn4, tn5, tn6, i1, i2, T9, acS, ii0, ii1, ii2, ii3, ii4, if_true, if_false, ne_eq, not_false_eq_true, not_true_eq_false, true_and, and_true, false_and, and_false, and_self, true_or, or_true, false_or, or_false, or_self, Nat.reduceAdd, Nat.reduceLT, Nat.reduceLeDiff, Nat.succ_ne_zero, reduceIte, reduceCtorEq])
  obtain ⟨⟨ac, σ⟩, ⟨h1, J1, τ1, h3, hI1, hK, h4, h5, h6⟩, hL⟩ := L nS 0 5 (acc, pt φ T J R τ0) (by omega) (by omega) ⟨rfl, J, τ0, rfl, hI, Kp.refl, fun _ _ => rfl, fun i hi => by omega, fun i _ hi => hS i hi⟩
  simp only at h1 h3
  subst h1 h3
  refine ⟨J1, τ1, ?_, h4, fun i hi => h5 i hi, hK⟩
  obtain ⟨m, hm⟩ : ∃ m, 5 - nS = m + 1 := ⟨4 - nS, by omega⟩
  simp only [hm] at hL
  rw [hL]
  have e1 := m_itS0 (J := J1) h (by rw [h4 125 (by omega)]; exact h01) ha hI1
  have i1 := hI1.1
  simp (config := {decide := true}) only [l_X8_pass_54, itr_succ, b_X8_pass_54, e1, gI_pt hj, gR_pt hj, ob_pt hj, ck_pt hj, pI_pt hj, pB_pt hj, pR_pt hj, aI_pt hj, aR_pt hj, wI_pt hj, wJ_pt hj, aL_pt hj, cl1_s, cl1_n, cl1_i, cx1_s, cx1_x, cx1_n, cx1_i, nul_n, nul_s, nm, dv2, dv3, dv4, dv5, dv8, dv10, dv20, dv40, thr, bo, gI_off, gR_off, ob_off, ck_off, pI_off, pB_off, pR_off, aI_off, wI_off, aR_off, nA_off, nO_off, mT_sI, mT_sR, mT_sJ, mT_sN_at, mI_sN_at, mR_sN_at, mI_sI, mI_sR, mI_sJ, mR_sI, mR_sR, mR_sJ, mZ_sI, mZ_sR, mZ_sN, mJ_sI, mJ_sR, ho, mI_pt hj, mT_pt hj, sB_pt, mZ_pt, mJ_pt, mJ_sJ, mZ_sJ, tn0, tn1, tn2, tn3, tn4, tn5, tn6, i1, ii0, ii1, ii2, ii3, ii4, if_true, if_false, ne_eq, not_false_eq_true, not_true_eq_false, true_and, and_true, false_and, and_false, and_self, true_or, or_true, false_or, or_false, or_self, Nat.reduceAdd, Nat.reduceLT, Nat.reduceLeDiff, Nat.succ_ne_zero, reduceIte, reduceCtorEq]
theorem m_pass (h : Cx φ T I R (mZ τ) e0 nS nL cS cL mx cB bl n) (hn : n < 600) (hw : 0 ≤ w.toInt ∧ w.toInt ≤ 6) (he : 0 ≤ e.toInt ∧ e.toInt ≤ 6) {D : Nat} (hD : D ≤ 30) (hJ : ∀ v, 125 ≤ v → J v = I v) (hz : mZ τ ≤ mZ τ0) : ∃ J' τ', l_X8_pass_39 e0 mi 31 (φ 124) w e (Int32.ofNat D) 0 0 (pt φ T J R τ0) = some (acD w e (scF I) nS D, pt φ T (up2 J' 124 1 (J 124 1 + Int32.ofNat D)) R τ') ∧ (∀ v, (v < 135 ∨ 2 * nS + 135 ≤ v) → J' v = J v) ∧ (∀ i, i < nS → SMr J' (2 * i + 135) (stF w e (scF I) D i)) ∧ Kp (mZ τ0) τ0 τ' := by
  have hj := h.hj
  have h0 := h.m.1
  have hS4 := h.m.2.2.2.2.2.1
  have t0 : (T 124).1 = 10 + 1 := by rw [h0]
  obtain ⟨M6, M5⟩ : R 124 6 = some (φ 125) ∧ T 125 = (2, 0) := by
    obtain ⟨hj, hl, hx, hm, hr⟩ := h; obtain ⟨hx0, hx1, hx2, hx3, hx4, hx5, hx6, hx7, hx8, hx9, hx10, hx11, hx12, hx13, hx14, hx15, hx16, hx17, hx18, hx19, hx20, hx21, hx22, hx23, hx24, hx25, hx26, hx27⟩ := hx; obtain ⟨hm0, hm1, hm2, hm3, hm4, hm5, hm6, hm7, hm8, hm9, hm10, hm11, hm12, hm13, hm14, hm15, hm16, hm17, hm18, hm19, hm20, hm21, hm22, hm23, hm24, hm25, hm26, hm27, hm28, hm29, hm30, hm31, hm32, hm33, hm34, hm35, hm36, hm37, hm38, hm39, hm40, hm41, hm42, hm43, hm44⟩ := hm; obtain ⟨⟨⟨g1, g2⟩, ⟨g3, g4, g5, g6, g7⟩, g8, g9, g10⟩, r1, r2, r3, r4, r5, r6⟩ := hr
    exact ⟨hm1, hm5⟩
  have t5 : (T 125).1 = 1 + 1 := by rw [M5]
  have SB := st_b (F := scF I) (H := 1080 * n) (fun i hi => h.sb hi) hw he
  have L := itr_loop (fun m (s' : Int32 × Int32 × Mem) => l_X8_pass_39 e0 mi m (φ 124) w e (Int32.ofNat D) s'.1 s'.2.1 s'.2.2) (fun d s' => s'.1 = acD w e (scF I) nS d ∧ s'.2.1 = Int32.ofNat d ∧ ∃ J' τ1, s'.2.2 = pt φ T J' R τ1 ∧ Kp (mZ τ0) τ0 τ1 ∧ (∀ v, (v < 135 ∨ 2 * nS + 135 ≤ v) → J' v = J v) ∧ (∀ i, i < nS → SMr J' (2 * i + 135) (stF w e (scF I) d i))) D (by
    rintro m d ⟨ac, x, σ⟩ hd ⟨h1, h2, J1, τ1, h3, hK, h4, h7⟩
    simp only at h1 h2 h3
    subst h1 h2 h3
    have c1 : ¬ Int32.ofNat D ≤ Int32.ofNat d := by rw [kN_le (by omega) (by omega)]; omega
    have j125 : J1 125 = I 125 := by rw [h4 125 (by omega), hJ 125 (by omega)]
    have MI := m_iter (I := J1) (R := R) (τ := τ1) hj (h.offZ (by have := hK.1; omega)) M5
    rw [j125] at MI
    obtain ⟨J2, τ2, P1, P2, P3, P4⟩ := m_passS (mi := mi) (J := J1) (τ0 := itN τ1 (φ 125) (I 125 0)) (a := mZ τ1) h (SB d (by omega)) hw he j125 (fun i hi => h7 i hi) (by have := hK.1; omega) (itN_I _ _ _) (l_X8_pass_39 e0 mi m) (Int32.ofNat D) (acD w e (scF I) nS d) (Int32.ofNat d)
    refine ⟨(acD w e (scF I) nS (d + 1), Int32.ofNat (d + 1), pt φ T J2 R τ2), ⟨rfl, rfl, J2, τ2, rfl, hK.trans (((itN_K (Nat.le_refl _)).trans P4).less hK.1), fun v hv => by rw [P2 v hv, h4 v hv], fun i hi => P3 i hi⟩, ?_⟩
    rw [kN_s] at P1
    show l_X8_pass_39 e0 mi (m + 1) _ _ _ _ _ _ _ = l_X8_pass_39 e0 mi m _ _ _ _ _ _ _
    rw [l_X8_pass_39, itr_succ, b_X8_pass_39, if_neg c1, gR_pt hj t0, M6, ob_pt hj t5, MI, cl1_s]
    exact P1)
  obtain ⟨⟨ac, x, σ⟩, ⟨h1, h2, J1, τ1, h3, hK, h4, h7⟩, hL⟩ := L D 0 31 (0, 0, pt φ T J R τ0) (by omega) (by omega) ⟨rfl, rfl, J, τ0, rfl, Kp.refl, fun _ _ => rfl, fun i hi => by
    obtain ⟨y1, y2, y3⟩ := h.smr hi
    exact ⟨fun k hk => by rw [hJ _ (by omega)]; exact y1 k hk, fun k hk => by rw [hJ _ (by omega)]; exact y2 k hk, by rw [hJ _ (by omega)]; exact y3⟩⟩
  simp only at h1 h2 h3
  subst h1 h2 h3
  refine ⟨J1, τ1, ?_, h4, h7, hK⟩
  obtain ⟨m, hm⟩ : ∃ m, 31 - D = m + 1 := ⟨30 - D, by omega⟩
  simp only [hm] at hL
  rw [hL]
  have c1 : Int32.ofNat D ≤ Int32.ofNat D := Int32.le_refl _
  have j1 : J1 124 1 = J 124 1 := by rw [h4 124 (by omega)]
  rw [l_X8_pass_39, itr_succ, b_X8_pass_39, if_pos c1, gI_pt hj t0, nm, pI_pt hj t0, j1]
theorem m_weather (σ : Mem) (h1 : 0 ≤ p ∧ p ≤ 6) (h2 : 0 ≤ r ∧ r ≤ 6) : f_X8_isNoWeather p r σ = some (0, σ) := by
  simp (config := {decide := true}) only [b_X8_isNoWeather_25, b_X8_isNoWeather_20, b_X8_isNoWeather_0, f_X8_isNoWeather, m_isIn _ h1.1 h1.2, m_isIn _ h2.1 h2.2, bo, cl1_s, ii0, ii1, ii2, ii3, ii4, if_true, if_false, ne_eq, not_false_eq_true, not_true_eq_false, true_and, and_true, false_and, and_false, and_self, true_or, or_true, false_or, or_false, or_self, Nat.reduceAdd, Nat.reduceLT, Nat.reduceLeDiff, Nat.succ_ne_zero, reduceIte, reduceCtorEq]
theorem m_weatherN (σ : Mem) (h1 : ¬ ((0 ≤ p ∧ p ≤ 6) ∧ (0 ≤ r ∧ r ≤ 6))) : f_X8_isNoWeather p r σ = some (1, σ) := by
  by_cases c : 0 ≤ p ∧ p ≤ 6
  · have d : ¬ (0 ≤ r ∧ r ≤ 6) := fun y => h1 ⟨c, y⟩
    simp (config := {decide := true}) only [b_X8_isNoWeather_25, b_X8_isNoWeather_20, b_X8_isNoWeather_0, f_X8_isNoWeather, m_isIn _ c.1 c.2, m_isInN _ d, bo, cl1_s, ii0, ii1, ii2, ii3, ii4, if_true, if_false, ne_eq, not_false_eq_true, not_true_eq_false, true_and, and_true, false_and, and_false, and_self, true_or, or_true, false_or, or_false, or_self, Nat.reduceAdd, Nat.reduceLT, Nat.reduceLeDiff, Nat.succ_ne_zero, reduceIte, reduceCtorEq]
  · simp (config := {decide := true}) only [b_X8_isNoWeather_25, b_X8_isNoWeather_20, b_X8_isNoWeather_0, f_X8_isNoWeather, m_isInN _ c, bo, cl1_s, ii0, ii1, ii2, ii3, ii4, if_true, if_false, ne_eq, not_false_eq_true, not_true_eq_false, true_and, and_true, false_and, and_false, and_self, true_or, or_true, false_or, or_false, or_self, Nat.reduceAdd, Nat.reduceLT, Nat.reduceLeDiff, Nat.succ_ne_zero, reduceIte, reduceCtorEq]
theorem sx_eq {i : Nat} (h1 : SXr J (2 * i + 11) (2 * i + 12) f) (h2 : SMr J (2 * i + 135) f) (h3 : Bd f (1080 * n)) : SecR (J (2 * i + 11)) (J (2 * i + 12)) (J (2 * i + 135)) (J (2 * i + 136)) n := by
  obtain ⟨a1, a2⟩ := h1
  obtain ⟨b1, b2, b3⟩ := h2
  obtain ⟨c0, c1, c2, c3, c7, c6⟩ := h3
  have b2' : ∀ k, k < 4 → J (2 * i + 136) k = f (k + 7) := b2
  have b3' : J (2 * i + 136) 4 = f 6 := b3
  unfold SecR
  rw [a1 0 (by omega), a1 1 (by omega), a1 2 (by omega), a1 3 (by omega), a1 4 (by omega), a1 5 (by omega), a1 6 (by omega), b1 0 (by omega), b1 1 (by omega), b1 2 (by omega), b1 3 (by omega), b1 4 (by omega), b1 5 (by omega), b3', a2 0 (by omega), a2 1 (by omega), a2 2 (by omega), a2 3 (by omega), b2' 0 (by omega), b2' 1 (by omega), b2' 2 (by omega), b2' 3 (by omega)]
  refine ⟨⟨rfl, rfl, rfl, rfl, rfl, rfl, rfl⟩, ⟨rfl, rfl, rfl, rfl⟩, ⟨c0.1, c0.2, c1.1, c1.2, c2.1, c2.2, c3.1, c3.2⟩, fun k hk => by rw [a2 k hk]; exact c7 k hk, c6.1, by have := c6.2; omega⟩
theorem op_pass {x m o : Nat} {σ : Mem} (p q r : Int32) (hn : n < 600) (h : Jn e0 x m o n σ) : Agr e0 x m o n (f_L_pass (some x) p q r (some o) σ) (fun σ => f_X8_pass e0 mi m p q r σ) := by
  obtain ⟨φ, T, I, R, τ, nS, nL, cS, cL, mx, cB, bl, rfl, ⟨rfl, rfl, rfl⟩, h⟩ := h
  have h : Cx φ T I R (mZ τ) e0 nS nL cS cL mx cB bl n := h
  have hj := h.hj
  have h0 := h.m.1
  have hx0 := h.m.2.2.2.2.2.2.2
  have h132 := h.m.2.2.2.2.2.2.1
  have hN := h.m.2.2.2.2.1
  have hS := h.m.2.2.2.2.2.1
  have h' : Cx φ T I R (mZ (sB τ)) e0 nS nL cS cL mx cB bl n := h.up (Nat.le_succ _)
  by_cases hp : 0 ≤ p ∧ p ≤ 6
  · by_cases hq : 0 ≤ q ∧ q ≤ 6
    · by_cases hr : 1 ≤ r ∧ r ≤ 30
      · obtain ⟨D, -, rfl, hD, -⟩ := natOf hr.1 hr.2 (by decide)
        have hD30 : D ≤ 30 := by have : (30 : Int32).toInt = 30 := rfl
                                 omega
        have z6 : (6 : Int32).toInt = 6 := rfl
        have z0 : (0 : Int32).toInt = 0 := rfl
        have w1 : 0 ≤ p.toInt ∧ p.toInt ≤ 6 := by
          have := leT hp.1; have := leT hp.2; omega
        have w2 : 0 ≤ q.toInt ∧ q.toInt ≤ 6 := by
          have := leT hq.1; have := leT hq.2; omega
        obtain ⟨JX, X1, X2, X3, X4, X5⟩ := x_pass (τ := τ) h hn w1 w2 hD30
        obtain ⟨v, hv⟩ : ∃ v, v = acD p q (scF I) nS D := ⟨_, rfl⟩
        rw [← hv] at X1
        obtain ⟨τ1, hτ1⟩ : ∃ τ1, τ1 = sJ τ (φ 132) 0 v.toInt64 := ⟨_, rfl⟩
        have z1 : mZ τ1 = mZ τ := by rw [hτ1]; rfl
        have j1 : mJ τ1 (φ 132) 0 = v.toInt64 := by rw [hτ1]; exact sJ_at
        obtain ⟨JM, τ2, M1, M2, M3, M4⟩ := m_pass (mi := mi) (J := up2 JX 124 0 0) (τ0 := τ1) h hn w1 w2 hD30 (fun v hv => by rw [up2_row (by omega), X2 v (by omega) (by omega)]) (by rw [z1]; exact Nat.le_refl _)
        rw [← hv] at M1
        obtain ⟨I3, hI3⟩ : ∃ I3, I3 = up2 JM 124 1 (up2 JX 124 0 0 124 1 + Int32.ofNat D) := ⟨_, rfl⟩
        rw [← hI3] at M1
        have fM : ∀ v, v ≠ 124 → I3 v = JM v := fun v y => by rw [hI3, up2_row y]
        have fX : ∀ v, v < 124 → I3 v = JX v := fun v y => by rw [fM v (by omega), M2 v (by omega), up2_row (by omega)]
        have fI : ∀ v, v ≠ 0 → v ≠ 124 → (v < 11 ∨ 2 * nS + 11 ≤ v) → (v < 135 ∨ 2 * nS + 135 ≤ v) → I3 v = I v := fun v y1 y2 y3 y4 => by rw [fM v y2, M2 v y4, up2_row y2, X2 v y1 y3]
        have f124 : ∀ k, k ≠ 0 → k ≠ 1 → I3 124 k = I 124 k := fun k y1 y2 => by rw [hI3, up2_k y2, M2 _ (by omega), up2_k y1, X2 _ (by omega) (by omega)]
        have f124a : I3 124 1 = I 124 1 + Int32.ofNat D := by rw [hI3, up2_at, up2_k (by decide), X2 _ (by omega) (by omega)]
        have f124' : I3 124 0 = 0 := by rw [hI3, up2_k (by decide), M2 _ (by omega), up2_at]
        have hCx : Cx φ T I3 R (mZ τ2) e0 nS nL cS cL mx cB bl (n + 1) := by
          have hup := h.up (show mZ τ ≤ mZ τ2 by rw [← z1]; exact M4.1)
          refine hup.rel (n' := n + 1) ?_ ?_
          · rintro v (rfl | rfl | ⟨i', k, h1, h2, h3, rfl⟩) <;> exact fI _ (by omega) (by omega) (by omega) (by omega)
          · obtain ⟨⟨⟨g1, g2⟩, ⟨g3, g4, g5, g6, g7⟩, g8, g9, g10⟩, r1, r2, r3, r4, r5, r6⟩ := h.2.2.2.2
            refine ⟨⟨⟨?_, ?_⟩, ⟨?_, ?_, ?_, ?_, ?_⟩, ?_, ?_, ?_⟩, fun i' hi' => ?_, fun i' y1 y2 => ?_, fun i' hi' => ?_, fun i' y1 y2 => ?_, fun i' hi' => ?_, ?_⟩
            · rw [fX _ (by omega), X4 1 (by decide)]; exact g1
            · rw [fX _ (by omega), X4 4 (by decide)]; exact g2
            · rw [fX _ (by omega), X3, f124a, g3]
            · rw [fX _ (by omega), X4 8 (by decide), f124 2 (by decide) (by decide)]; exact g4
            · rw [fX _ (by omega), X4 9 (by decide), f124 3 (by decide) (by decide)]; exact g5
            · rw [fX _ (by omega), X4 11 (by decide), f124 4 (by decide) (by decide)]; exact g6
            · rw [fX _ (by omega), X4 10 (by decide), f124 5 (by decide) (by decide)]; exact g7
            · simp (disch := omega) only [fI]; exact g8
            · simp (disch := omega) only [fI]; exact g9
            · simp (disch := omega) only [fI]; exact g10
            · simp (disch := omega) only [fI]; exact (r1 i' hi').mono (Nat.le_succ _)
            · simp (disch := omega) only [fI]; exact r2 i' y1 y2
            · have B := st_b (F := scF I) (H := 1080 * n) (fun i hi => h.sb hi) w1 w2 D (by omega) i' hi'
              have B' : Bd (stF p q (scF I) D i') (1080 * (n + 1)) := by
                obtain ⟨c0, c1, c2, c3, c7, c6⟩ := B
                exact ⟨c0, c1, c2, c3, c7, c6.1, by have := c6.2; omega⟩
              have SX' : SXr I3 (2 * i' + 11) (2 * i' + 12) (stF p q (scF I) D i') := by
                obtain ⟨y1, y2⟩ := X5 i' hi'
                exact ⟨fun k hk => by rw [fX _ (by omega)]; exact y1 k hk, fun k hk => by rw [fX _ (by omega)]; exact y2 k hk⟩
              have SM' : SMr I3 (2 * i' + 135) (stF p q (scF I) D i') := by
                obtain ⟨y1, y2, y3⟩ := M3 i' hi'
                exact ⟨fun k hk => by rw [fM _ (by omega)]; exact y1 k hk, fun k hk => by rw [fM _ (by omega)]; exact y2 k hk, by rw [fM _ (by omega)]; exact y3⟩
              exact sx_eq SX' SM' B'
            · simp (disch := omega) only [fI]; exact r4 i' y1 y2
            · simp (disch := omega) only [fI]; exact (r5 i' hi').mono (Nat.le_succ _)
            · unfold SumR
              rw [sumZ_congr (g := fun i => (I (6 * i + 19) 1).toInt)]
              · exact r6
              · intro j hj; simp (disch := omega) only [fI]
        refine Agr.fin (b := v) (σ1 := pt φ T JX R τ1) hCx ?_ ?_ f124' ?_
        · simp (config := {decide := true}) only [f_L_pass, b_L_pass_0, f_X4_pass, b_X4_pass_0, x_req _ hp.1 hp.2, x_req _ hq.1 hq.2, x_req _ hr.1 hr.2, X1, gI_pt hj, gR_pt hj, ob_pt hj, ck_pt hj, pI_pt hj, pB_pt hj, pR_pt hj, aI_pt hj, aR_pt hj, wI_pt hj, wJ_pt hj, aL_pt hj, cl1_s, cl1_n, cl1_i, cx1_s, cx1_x, cx1_n, cx1_i, nul_n, nul_s, nm, dv2, dv3, dv4, dv5, dv8, dv10, dv20, dv40, thr, bo, mI_pt hj, mT_pt hj, sB_pt, mZ_pt, mJ_pt, mJ_sJ, mZ_sJ, tn0, tn1, tn2, tn3, tn4, tn5, tn6, hx0, h132, ii0, ii1, ii2, ii3, ii4, if_true, if_false, ne_eq, not_false_eq_true, not_true_eq_false, true_and, and_true, false_and, and_false, and_self, true_or, or_true, false_or, or_false, or_self, Nat.reduceAdd, Nat.reduceLT, Nat.reduceLeDiff, Nat.succ_ne_zero, reduceIte, reduceCtorEq]
          rw [hτ1]
        · simp (config := {decide := true}) only [f_X8_pass, b_X8_pass_0, b_X8_pass_24, m_weather _ hp hq, m_isIn _ hr.1 hr.2, m_start0 hj h0, M1, gI_pt hj, gR_pt hj, ob_pt hj, ck_pt hj, pI_pt hj, pB_pt hj, pR_pt hj, aI_pt hj, aR_pt hj, wI_pt hj, wJ_pt hj, aL_pt hj, cl1_s, cl1_n, cl1_i, cx1_s, cx1_x, cx1_n, cx1_i, nul_n, nul_s, nm, dv2, dv3, dv4, dv5, dv8, dv10, dv20, dv40, thr, bo, mI_pt hj, mT_pt hj, sB_pt, mZ_pt, mJ_pt, mJ_sJ, mZ_sJ, tn0, tn1, tn2, tn3, tn4, tn5, tn6, h0, ii0, ii1, ii2, ii3, ii4, if_true, if_false, ne_eq, not_false_eq_true, not_true_eq_false, true_and, and_true, false_and, and_false, and_self, true_or, or_true, false_or, or_false, or_self, Nat.reduceAdd, Nat.reduceLT, Nat.reduceLeDiff, Nat.succ_ne_zero, reduceIte, reduceCtorEq]
        · rw [M4.out (by rw [z1]; exact h.out)]; exact j1
      · refine Agr.bad (k := 1) (b := 0) h (by decide) ?_ ?_
        · simp (config := {decide := true}) only [f_L_pass, b_L_pass_0, f_X4_pass, b_X4_pass_0, x_req _ hp.1 hp.2, x_req _ hq.1 hq.2, x_reqN _ hr, gI_pt hj, gR_pt hj, ob_pt hj, ck_pt hj, pI_pt hj, pB_pt hj, pR_pt hj, aI_pt hj, aR_pt hj, wI_pt hj, wJ_pt hj, aL_pt hj, cl1_s, cl1_n, cl1_i, cx1_s, cx1_x, cx1_n, cx1_i, nul_n, nul_s, nm, dv2, dv3, dv4, dv5, dv8, dv10, dv20, dv40, thr, bo, mI_pt hj, mT_pt hj, sB_pt, mZ_pt, mJ_pt, mJ_sJ, mZ_sJ, tn0, tn1, tn2, tn3, tn4, tn5, tn6, hx0, ii0, ii1, ii2, ii3, ii4, if_true, if_false, ne_eq, not_false_eq_true, not_true_eq_false, true_and, and_true, false_and, and_false, and_self, true_or, or_true, false_or, or_false, or_self, Nat.reduceAdd, Nat.reduceLT, Nat.reduceLeDiff, Nat.succ_ne_zero, reduceIte, reduceCtorEq]
        · simp (config := {decide := true}) only [f_X8_pass, b_X8_pass_0, b_X8_pass_19, b_X8_pass_24, m_weather _ hp hq, m_isInN _ hr, m_start1 hj h0 (show ¬ (1 : Int32) ≤ 0 by decide), gI_pt hj, gR_pt hj, ob_pt hj, ck_pt hj, pI_pt hj, pB_pt hj, pR_pt hj, aI_pt hj, aR_pt hj, wI_pt hj, wJ_pt hj, aL_pt hj, cl1_s, cl1_n, cl1_i, cx1_s, cx1_x, cx1_n, cx1_i, nul_n, nul_s, nm, dv2, dv3, dv4, dv5, dv8, dv10, dv20, dv40, thr, bo, mI_pt hj, mT_pt hj, sB_pt, mZ_pt, mJ_pt, mJ_sJ, mZ_sJ, tn0, tn1, tn2, tn3, tn4, tn5, tn6, h0, ii0, ii1, ii2, ii3, ii4, if_true, if_false, ne_eq, not_false_eq_true, not_true_eq_false, true_and, and_true, false_and, and_false, and_self, true_or, or_true, false_or, or_false, or_self, Nat.reduceAdd, Nat.reduceLT, Nat.reduceLeDiff, Nat.succ_ne_zero, reduceIte, reduceCtorEq]
    · refine Agr.bad (k := 1) (b := 0) h (by decide) ?_ ?_
      · simp (config := {decide := true}) only [f_L_pass, b_L_pass_0, f_X4_pass, b_X4_pass_0, x_req _ hp.1 hp.2, x_reqN _ hq, gI_pt hj, gR_pt hj, ob_pt hj, ck_pt hj, pI_pt hj, pB_pt hj, pR_pt hj, aI_pt hj, aR_pt hj, wI_pt hj, wJ_pt hj, aL_pt hj, cl1_s, cl1_n, cl1_i, cx1_s, cx1_x, cx1_n, cx1_i, nul_n, nul_s, nm, dv2, dv3, dv4, dv5, dv8, dv10, dv20, dv40, thr, bo, mI_pt hj, mT_pt hj, sB_pt, mZ_pt, mJ_pt, mJ_sJ, mZ_sJ, tn0, tn1, tn2, tn3, tn4, tn5, tn6, hx0, ii0, ii1, ii2, ii3, ii4, if_true, if_false, ne_eq, not_false_eq_true, not_true_eq_false, true_and, and_true, false_and, and_false, and_self, true_or, or_true, false_or, or_false, or_self, Nat.reduceAdd, Nat.reduceLT, Nat.reduceLeDiff, Nat.succ_ne_zero, reduceIte, reduceCtorEq]
      · simp (config := {decide := true}) only [f_X8_pass, b_X8_pass_0, b_X8_pass_19, b_X8_pass_24, m_weatherN (p := p) (r := q) _ (fun y => hq y.2), m_start1 hj h0 (show ¬ (1 : Int32) ≤ 0 by decide), gI_pt hj, gR_pt hj, ob_pt hj, ck_pt hj, pI_pt hj, pB_pt hj, pR_pt hj, aI_pt hj, aR_pt hj, wI_pt hj, wJ_pt hj, aL_pt hj, cl1_s, cl1_n, cl1_i, cx1_s, cx1_x, cx1_n, cx1_i, nul_n, nul_s, nm, dv2, dv3, dv4, dv5, dv8, dv10, dv20, dv40, thr, bo, mI_pt hj, mT_pt hj, sB_pt, mZ_pt, mJ_pt, mJ_sJ, mZ_sJ, tn0, tn1, tn2, tn3, tn4, tn5, tn6, h0, ii0, ii1, ii2, ii3, ii4, if_true, if_false, ne_eq, not_false_eq_true, not_true_eq_false, true_and, and_true, false_and, and_false, and_self, true_or, or_true, false_or, or_false, or_self, Nat.reduceAdd, Nat.reduceLT, Nat.reduceLeDiff, Nat.succ_ne_zero, reduceIte, reduceCtorEq]
  · refine Agr.bad (k := 1) (b := 0) h (by decide) ?_ ?_
    · simp (config := {decide := true}) only [f_L_pass, b_L_pass_0, f_X4_pass, b_X4_pass_0, x_reqN _ hp, gI_pt hj, gR_pt hj, ob_pt hj, ck_pt hj, pI_pt hj, pB_pt hj, pR_pt hj, aI_pt hj, aR_pt hj, wI_pt hj, wJ_pt hj, aL_pt hj, cl1_s, cl1_n, cl1_i, cx1_s, cx1_x, cx1_n, cx1_i, nul_n, nul_s, nm, dv2, dv3, dv4, dv5, dv8, dv10, dv20, dv40, thr, bo, mI_pt hj, mT_pt hj, sB_pt, mZ_pt, mJ_pt, mJ_sJ, mZ_sJ, tn0, tn1, tn2, tn3, tn4, tn5, tn6, hx0, ii0, ii1, ii2, ii3, ii4, if_true, if_false, ne_eq, not_false_eq_true, not_true_eq_false, true_and, and_true, false_and, and_false, and_self, true_or, or_true, false_or, or_false, or_self, Nat.reduceAdd, Nat.reduceLT, Nat.reduceLeDiff, Nat.succ_ne_zero, reduceIte, reduceCtorEq]
    · simp (config := {decide := true}) only [f_X8_pass, b_X8_pass_0, b_X8_pass_19, b_X8_pass_24, m_weatherN (p := p) (r := q) _ (fun y => hp y.1), m_start1 hj h0 (show ¬ (1 : Int32) ≤ 0 by decide), gI_pt hj, gR_pt hj, ob_pt hj, ck_pt hj, pI_pt hj, pB_pt hj, pR_pt hj, aI_pt hj, aR_pt hj, wI_pt hj, wJ_pt hj, aL_pt hj, cl1_s, cl1_n, cl1_i, cx1_s, cx1_x, cx1_n, cx1_i, nul_n, nul_s, nm, dv2, dv3, dv4, dv5, dv8, dv10, dv20, dv40, thr, bo, mI_pt hj, mT_pt hj, sB_pt, mZ_pt, mJ_pt, mJ_sJ, mZ_sJ, tn0, tn1, tn2, tn3, tn4, tn5, tn6, h0, ii0, ii1, ii2, ii3, ii4, if_true, if_false, ne_eq, not_false_eq_true, not_true_eq_false, true_and, and_true, false_and, and_false, and_self, true_or, or_true, false_or, or_false, or_self, Nat.reduceAdd, Nat.reduceLT, Nat.reduceLeDiff, Nat.succ_ne_zero, reduceIte, reduceCtorEq]
end PS
