/-! JOIN -/
section JN
variable {φ : Nat → Nat} {T : Nat → Nat × Nat} {I : Nat → Nat → Int32} {R : Nat → Nat → Option Nat} {τ : Mem} {e0 nS nL cS cL n z : Nat} {mx : Nat → Int32} {cB : Nat → Nat} {bl : Nat → List (Nat × Int32)}
variable {mi a k i j s c g st : Nat} {J J' : Nat → Nat → Int32} {R' : Nat → Nat → Option Nat} {p q r : Int32} {τ0 τ1 : Mem}
theorem sumZ_at {f : Nat → Int} {n i : Nat} (h : i < n) : sumZ f n = sumZ (fun k => if k = i then 0 else f k) n + f i := by
  induction n with
  | zero => omega
  | succ n ih =>
    simp only [sumZ]
    by_cases c : n = i
    · subst c
      rw [if_pos rfl, sumZ_congr (g := f) (f := fun k => if k = n then 0 else f k) (fun k hk => by rw [if_neg (by omega)])]
      omega
    · rw [if_neg c, ih (by omega)]; omega
theorem sumZ_nn {f : Nat → Int} {n : Nat} (h : ∀ k, k < n → 0 ≤ f k) : 0 ≤ sumZ f n := by
  induction n with
  | zero => exact Int.le_refl _
  | succ n ih =>
    simp only [sumZ]
    have := ih (fun k hk => h k (by omega))
    have := h n (by omega)
    omega
theorem sumZ_two {f : Nat → Int} {n i j : Nat} (hi : i < n) (hj : j < n) (hne : i ≠ j) (h : ∀ k, k < n → 0 ≤ f k) : f i + f j ≤ sumZ f n := by
  rw [sumZ_at hi, sumZ_at (f := fun k => if k = i then 0 else f k) hj]
  have := sumZ_nn (f := fun k => if k = j then 0 else if k = i then 0 else f k) (n := n) (fun k hk => by
    split
    · omega
    · split
      · omega
      · exact h k hk)
  simp only [if_neg (Ne.symm hne)]
  omega
theorem sumZ_one {f : Nat → Int} {n i : Nat} (hi : i < n) (h : ∀ k, k < n → 0 ≤ f k) : f i ≤ sumZ f n := by
  rw [sumZ_at hi]
  have := sumZ_nn (f := fun k => if k = i then 0 else f k) (n := n) (fun k hk => by
    split
    · omega
    · exact h k hk)
  omega
theorem sumZ_move {f f' : Nat → Int} {n i j : Nat} (hi : i < n) (hj : j < n) (hne : i ≠ j) (h : ∀ k, k < n → k ≠ i → k ≠ j → f' k = f k) (he : f' i + f' j = f i + f j) : sumZ f' n = sumZ f n := by
  rw [sumZ_at hi, sumZ_at (f := fun k => if k = i then 0 else f' k) hj, sumZ_at (f := f) hi, sumZ_at (f := fun k => if k = i then 0 else f k) hj]
  rw [sumZ_congr (f := fun k => if k = j then 0 else if k = i then 0 else f' k) (g := fun k => if k = j then 0 else if k = i then 0 else f k) (fun k hk => by
    by_cases c : k = j
    · simp only [c, if_true]
    · by_cases d : k = i
      · simp only [if_neg c, d, if_true]
      · simp only [if_neg c, if_neg d]; exact h k hk d c)]
  simp only [if_neg (Ne.symm hne)]
  omega
theorem Cx.dn (h : Cx φ T I R z e0 nS nL cS cL mx cB bl n) (hi : i < nL) : 0 ≤ (I (6 * i + 19) 1).toInt ∧ (I (6 * i + 19) 1).toInt ≤ 5760 := by
  have hN := h.m.2.2.2.2.1
  have nn : ∀ k, k < nL → 0 ≤ (I (6 * k + 19) 1).toInt := fun k hk => by
    obtain ⟨-, -, ⟨y1, y2, y3, y4, y5, y6⟩, -⟩ := h.lr hk
    omega
  have s := sumZ_one (f := fun i => (I (6 * i + 19) 1).toInt) hi nn
  have r6 : sumZ (fun i => (I (6 * i + 19) 1).toInt) nL ≤ 360 * nL := h.2.2.2.2.2.2.2.2.2.2
  have s' : (I (6 * i + 19) 1).toInt ≤ sumZ (fun i => (I (6 * i + 19) 1).toInt) nL := s
  exact ⟨nn i hi, by omega⟩
theorem Cx.d2 (h : Cx φ T I R z e0 nS nL cS cL mx cB bl n) (hi : i < nL) (hj : j < nL) (hne : i ≠ j) : (I (6 * i + 19) 1).toInt + (I (6 * j + 19) 1).toInt ≤ 5760 := by
  have hN := h.m.2.2.2.2.1
  have nn : ∀ k, k < nL → 0 ≤ (I (6 * k + 19) 1).toInt := fun k hk => (h.dn hk).1
  have s : (I (6 * i + 19) 1).toInt + (I (6 * j + 19) 1).toInt ≤ sumZ (fun i => (I (6 * i + 19) 1).toInt) nL := sumZ_two (f := fun i => (I (6 * i + 19) 1).toInt) hi hj hne nn
  have r6 : sumZ (fun i => (I (6 * i + 19) 1).toInt) nL ≤ 360 * nL := h.2.2.2.2.2.2.2.2.2.2
  omega
def orT (x y : Int32) : Int32 := if x = 0 then (if y = 0 then 0 else 1) else 1
theorem x_joinL (h : Cx φ T I R z e0 nS nL cS cL mx cB bl n) (hi : i < 17) (hj7 : j < 17) (hne : i ≠ j) : ∃ JX, l_X4_join_76 40 (some (φ (6 * i + 19))) (some (φ (6 * j + 19))) 0 (pt φ T I R τ) = some (.inl (I (6 * i + 19) 1 + I (6 * j + 19) 1), pt φ T JX R τ) ∧ (∀ v, v ≠ 6 * i + 19 → v ≠ 6 * i + 20 → v ≠ 6 * j + 19 → v ≠ 6 * j + 20 → JX v = I v) ∧
    JX (6 * i + 19) 1 = I (6 * i + 19) 1 + I (6 * j + 19) 1 ∧ JX (6 * i + 19) 2 = I (6 * i + 19) 2 + I (6 * j + 19) 2 ∧ JX (6 * i + 19) 3 = I (6 * i + 19) 3 + I (6 * j + 19) 3 ∧ JX (6 * i + 19) 11 = orT (I (6 * i + 19) 11) (I (6 * j + 19) 11) ∧ (∀ k, k ≠ 1 → k ≠ 2 → k ≠ 3 → k ≠ 11 → JX (6 * i + 19) k = I (6 * i + 19) k) ∧ (∀ k, k < 4 → JX (6 * i + 20) k = I (6 * i + 20) k + I (6 * j + 20) k) ∧
    JX (6 * j + 19) 0 = 3 ∧ JX (6 * j + 19) 1 = 0 ∧ (∀ k, k ≠ 0 → k ≠ 1 → JX (6 * j + 19) k = I (6 * j + 19) k) ∧ (∀ k, k < 4 → JX (6 * j + 20) k = 0) := by
  obtain ⟨JA, hJA⟩ : ∃ JA, JA = up2 (up2 (up2 (up2 (up2 (up2 (up2 (up2 I (6 * i + 20) 0 (I (6 * i + 20) 0 + I (6 * j + 20) 0)) (6 * i + 20) 1 (I (6 * i + 20) 1 + I (6 * j + 20) 1)) (6 * i + 20) 2 (I (6 * i + 20) 2 + I (6 * j + 20) 2)) (6 * i + 20) 3 (I (6 * i + 20) 3 + I (6 * j + 20) 3)) (6 * i + 19) 1 (I (6 * i + 19) 1 + I (6 * j + 19) 1)) (6 * i + 19) 2 (I (6 * i + 19) 2 + I (6 * j + 19) 2)) (6 * i + 19) 3 (I (6 * i + 19) 3 + I (6 * j + 19) 3)) (6 * i + 19) 11 (orT (I (6 * i + 19) 11) (I (6 * j + 19) 11)) := ⟨_, rfl⟩
  obtain ⟨JX, V1, V2, V3, V4, V5, V6⟩ := x_vanish (J := JA) (τ := τ) h hj7
  have fA : ∀ v, v ≠ 6 * i + 19 → v ≠ 6 * i + 20 → JA v = I v := fun v y1 y2 => by rw [hJA]; simp (disch := omega) only [up2_row]
  have jx : ∀ k, JX (6 * i + 19) k = JA (6 * i + 19) k := fun k => by rw [V2 _ (by omega) (by omega)]
  refine ⟨JX, ?_, fun v y1 y2 y3 y4 => by rw [V2 v y3 y4, fA v y1 y2], ?_, ?_, ?_, ?_, fun k y1 y2 y3 y4 => ?_, fun k hk => ?_, V3, V4, fun k y1 y2 => by rw [V5 k y1 y2, fA _ (by omega) (by omega)], V6⟩
  · rw [hJA] at V1
    have dr : JX (6 * i + 19) 1 = I (6 * i + 19) 1 + I (6 * j + 19) 1 := by rw [jx, hJA]; simp (disch := omega) only [up2_row, up2_k, up2_at]
    obtain ⟨hj, hl, hx, hm, hr⟩ := h; obtain ⟨hx0, hx1, hx2, hx3, hx4, hx5, hx6, hx7, hx8, hx9, hx10, hx11, hx12, hx13, hx14, hx15, hx16, hx17, hx18, hx19, hx20, hx21, hx22, hx23, hx24, hx25, hx26, hx27⟩ := hx; obtain ⟨hm0, hm1, hm2, hm3, hm4, hm5, hm6, hm7, hm8, hm9, hm10, hm11, hm12, hm13, hm14, hm15, hm16, hm17, hm18, hm19, hm20, hm21, hm22, hm23, hm24, hm25, hm26, hm27, hm28, hm29, hm30, hm31, hm32, hm33, hm34, hm35, hm36, hm37, hm38, hm39, hm40, hm41, hm42, hm43, hm44⟩ := hm; obtain ⟨⟨⟨g1, g2⟩, ⟨g3, g4, g5, g6, g7⟩, g8, g9, g10⟩, r1, r2, r3, r4, r5, r6⟩ := hr
    have e1 : 6 * i + 20 ≠ 6 * i + 19 := by omega
    have e2 : 6 * i + 19 ≠ 6 * i + 20 := by omega
    have e3 : 6 * j + 20 ≠ 6 * i + 20 := by omega
    have e4 : 6 * j + 19 ≠ 6 * i + 20 := by omega
    have e5 : 6 * j + 19 ≠ 6 * i + 19 := by omega
    by_cases c1 : I (6 * i + 19) 11 = 0
    · by_cases c2 : I (6 * j + 19) 11 = 0
      · have o : orT (I (6 * i + 19) 11) (I (6 * j + 19) 11) = 0 := by rw [orT, if_pos c1, if_pos c2]
        rw [o] at V1
        simp (config := {decide := true}) only [l_X4_join_76, itr_40, itr_39, itr_38, itr_37, itr_36, b_X4_join_76, b_X4_join_168, b_X4_join_173, gI_pt hj, gR_pt hj, ob_pt hj, ck_pt hj, pI_pt hj, pB_pt hj, pR_pt hj, aI_pt hj, aR_pt hj, wI_pt hj, wJ_pt hj, aL_pt hj, cl1_s, cl1_n, cl1_i, cx1_s, cx1_x, cx1_n, cx1_i, nul_n, nul_s, nm, dv2, dv3, dv4, dv5, dv8, dv10, dv20, dv40, thr, bo, mI_pt hj, mT_pt hj, sB_pt, mZ_pt, mJ_pt, mJ_sJ, mZ_sJ, tn0, tn1, tn2, tn3, tn4, tn5, tn6, hx15 i hi, hx15 j hj7, hx16 i hi, hx16 j hj7, hx19 i hi, hx19 j hj7, up2_row e1, up2_row e2, up2_row e3, up2_row e4, up2_row e5, up2_k, up2_at, c1, c2, V1, dr, ii0, ii1, ii2, ii3, ii4, if_true, if_false, ne_eq, not_false_eq_true, not_true_eq_false, true_and, and_true, false_and, and_false, and_self, true_or, or_true, false_or, or_false, or_self, Nat.reduceAdd, Nat.reduceLT, Nat.reduceLeDiff, Nat.succ_ne_zero, reduceIte, reduceCtorEq]
      · have o : orT (I (6 * i + 19) 11) (I (6 * j + 19) 11) = 1 := by rw [orT, if_pos c1, if_neg c2]
        rw [o] at V1
        simp (config := {decide := true}) only [l_X4_join_76, itr_40, itr_39, itr_38, itr_37, itr_36, b_X4_join_76, b_X4_join_168, b_X4_join_173, gI_pt hj, gR_pt hj, ob_pt hj, ck_pt hj, pI_pt hj, pB_pt hj, pR_pt hj, aI_pt hj, aR_pt hj, wI_pt hj, wJ_pt hj, aL_pt hj, cl1_s, cl1_n, cl1_i, cx1_s, cx1_x, cx1_n, cx1_i, nul_n, nul_s, nm, dv2, dv3, dv4, dv5, dv8, dv10, dv20, dv40, thr, bo, mI_pt hj, mT_pt hj, sB_pt, mZ_pt, mJ_pt, mJ_sJ, mZ_sJ, tn0, tn1, tn2, tn3, tn4, tn5, tn6, hx15 i hi, hx15 j hj7, hx16 i hi, hx16 j hj7, hx19 i hi, hx19 j hj7, up2_row e1, up2_row e2, up2_row e3, up2_row e4, up2_row e5, up2_k, up2_at, c1, c2, V1, dr, ii0, ii1, ii2, ii3, ii4, if_true, if_false, ne_eq, not_false_eq_true, not_true_eq_false, true_and, and_true, false_and, and_false, and_self, true_or, or_true, false_or, or_false, or_self, Nat.reduceAdd, Nat.reduceLT, Nat.reduceLeDiff, Nat.succ_ne_zero, reduceIte, reduceCtorEq]
    · have o : orT (I (6 * i + 19) 11) (I (6 * j + 19) 11) = 1 := by rw [orT, if_neg c1]
      rw [o] at V1
      simp (config := {decide := true}) only [l_X4_join_76, itr_40, itr_39, itr_38, itr_37, itr_36, b_X4_join_76, b_X4_join_168, b_X4_join_173, gI_pt hj, gR_pt hj, ob_pt hj, ck_pt hj, pI_pt hj, pB_pt hj, pR_pt hj, aI_pt hj, aR_pt hj, wI_pt hj, wJ_pt hj, aL_pt hj, cl1_s, cl1_n, cl1_i, cx1_s, cx1_x, cx1_n, cx1_i, nul_n, nul_s, nm, dv2, dv3, dv4, dv5, dv8, dv10, dv20, dv40, thr, bo, mI_pt hj, mT_pt hj, sB_pt, mZ_pt, mJ_pt, mJ_sJ, mZ_sJ, tn0, tn1, tn2, tn3, tn4, tn5, tn6, hx15 i hi, hx15 j hj7, hx16 i hi, hx16 j hj7, hx19 i hi, hx19 j hj7, up2_row e1, up2_row e2, up2_row e3, up2_row e4, up2_row e5, up2_k, up2_at, c1, V1, dr, ii0, ii1, ii2, ii3, ii4, if_true, if_false, ne_eq, not_false_eq_true, not_true_eq_false, true_and, and_true, false_and, and_false, and_self, true_or, or_true, false_or, or_false, or_self, Nat.reduceAdd, Nat.reduceLT, Nat.reduceLeDiff, Nat.succ_ne_zero, reduceIte, reduceCtorEq]
  · rw [jx, hJA]; simp (disch := omega) only [up2_row, up2_k, up2_at]
  · rw [jx, hJA]; simp (disch := omega) only [up2_row, up2_k, up2_at]
  · rw [jx, hJA]; simp (disch := omega) only [up2_row, up2_k, up2_at]
  · rw [jx, hJA]; simp (disch := omega) only [up2_row, up2_k, up2_at]
  · rw [jx, hJA]; simp (disch := omega) only [up2_row, up2_k, up2_at]
  · rw [V2 _ (by omega) (by omega), hJA]
    rcases (show k = 0 ∨ k = 1 ∨ k = 2 ∨ k = 3 by omega) with rfl | rfl | rfl | rfl <;> simp (disch := omega) only [up2_row, up2_k, up2_at]
theorem m_joinL (h : Cx φ T I R z e0 nS nL cS cL mx cB bl n) (iL : i < nL) (jL : j < nL) (hne : i ≠ j) (hJ : ∀ v, 125 ≤ v → J v = I v) (t1 : I (10 * i + 150) 11 = 0 ∨ I (10 * i + 150) 11 = 1) (t2 : I (10 * j + 150) 11 = 0 ∨ I (10 * j + 150) 11 = 1) : ∃ J' R', l_X8_join_131 40 (some (φ (10 * i + 150))) (some (φ (10 * j + 150))) 0 (pt φ T J R τ) = some ((I (10 * i + 151) 0 + I (10 * j + 151) 0) + (I (10 * i + 151) 1 + I (10 * j + 151) 1) + (I (10 * i + 151) 2 + I (10 * j + 151) 2) + (I (10 * i + 151) 3 + I (10 * j + 151) 3), pt φ T J' R' τ) ∧ (∀ v, v ≠ 10 * i + 150 → v ≠ 10 * i + 151 → v ≠ 10 * j + 150 → v ≠ 10 * j + 151 → v ≠ 10 * j + 153 → J' v = J v) ∧
    J' (10 * i + 150) 2 = I (10 * i + 150) 2 + I (10 * j + 150) 2 ∧ J' (10 * i + 150) 3 = I (10 * i + 150) 3 + I (10 * j + 150) 3 ∧ J' (10 * i + 150) 11 = orT (I (10 * i + 150) 11) (I (10 * j + 150) 11) ∧ (∀ k, k ≠ 2 → k ≠ 3 → k ≠ 11 → J' (10 * i + 150) k = I (10 * i + 150) k) ∧ (∀ k, k < 4 → J' (10 * i + 151) k = I (10 * i + 151) k + I (10 * j + 151) k) ∧
    J' (10 * j + 150) 0 = 3 ∧ J' (10 * j + 150) 13 = 0 ∧ (∀ k, k ≠ 0 → k ≠ 13 → J' (10 * j + 150) k = I (10 * j + 150) k) ∧ (∀ k, k < 4 → J' (10 * j + 151) k = 0) ∧ J' (10 * j + 153) 2 = 0 ∧ (∀ v, v ≠ 10 * j + 154 → R' v = R v) := by
  have u0 := hJ (10 * i + 150) (by omega)
  have u1 := hJ (10 * i + 151) (by omega)
  have u2 := hJ (10 * j + 150) (by omega)
  have u3 := hJ (10 * j + 151) (by omega)
  obtain ⟨JA, hJA⟩ : ∃ JA, JA = up2 (up2 (up2 (up2 (up2 (up2 (up2 J (10 * i + 151) 0 (I (10 * i + 151) 0 + I (10 * j + 151) 0)) (10 * i + 151) 1 (I (10 * i + 151) 1 + I (10 * j + 151) 1)) (10 * i + 151) 2 (I (10 * i + 151) 2 + I (10 * j + 151) 2)) (10 * i + 151) 3 (I (10 * i + 151) 3 + I (10 * j + 151) 3)) (10 * i + 150) 2 (I (10 * i + 150) 2 + I (10 * j + 150) 2)) (10 * i + 150) 3 (I (10 * i + 150) 3 + I (10 * j + 150) 3)) (10 * i + 150) 11 (orT (I (10 * i + 150) 11) (I (10 * j + 150) 11)) := ⟨_, rfl⟩
  have fA : ∀ v, v ≠ 10 * i + 150 → v ≠ 10 * i + 151 → JA v = J v := fun v y1 y2 => by rw [hJA]; simp (disch := omega) only [up2_row]
  obtain ⟨J', R', D1, D2, D3, D3', D4, D5, D6, D7⟩ := m_go (J := JA) (τ := τ) h jL (by rw [fA _ (by omega) (by omega), hJ _ (by omega)])
  have j0 : ∀ k, J' (10 * i + 150) k = JA (10 * i + 150) k := fun k => by rw [D2 _ (by omega) (by omega) (by omega)]
  have j1 : ∀ k, J' (10 * i + 151) k = JA (10 * i + 151) k := fun k => by rw [D2 _ (by omega) (by omega) (by omega)]
  have k1 : ∀ k, k < 4 → J' (10 * i + 151) k = I (10 * i + 151) k + I (10 * j + 151) k := fun k hk => by
    rw [j1, hJA]
    rcases (show k = 0 ∨ k = 1 ∨ k = 2 ∨ k = 3 by omega) with rfl | rfl | rfl | rfl <;> simp (disch := omega) only [up2_row, up2_k, up2_at]
  refine ⟨J', R', ?_, fun v y1 y2 y3 y4 y5 => by rw [D2 v y3 y4 y5, fA v y1 y2], ?_, ?_, ?_, fun k y1 y2 y3 => ?_, k1, D3, D3', fun k y1 y2 => by rw [D4 k y1 y2, fA _ (by omega) (by omega), u2], D5, D6, D7⟩
  · rw [hJA] at D1
    obtain ⟨hj, hl, hx, hm, hr⟩ := h; obtain ⟨hx0, hx1, hx2, hx3, hx4, hx5, hx6, hx7, hx8, hx9, hx10, hx11, hx12, hx13, hx14, hx15, hx16, hx17, hx18, hx19, hx20, hx21, hx22, hx23, hx24, hx25, hx26, hx27⟩ := hx; obtain ⟨hm0, hm1, hm2, hm3, hm4, hm5, hm6, hm7, hm8, hm9, hm10, hm11, hm12, hm13, hm14, hm15, hm16, hm17, hm18, hm19, hm20, hm21, hm22, hm23, hm24, hm25, hm26, hm27, hm28, hm29, hm30, hm31, hm32, hm33, hm34, hm35, hm36, hm37, hm38, hm39, hm40, hm41, hm42, hm43, hm44⟩ := hm; obtain ⟨⟨⟨g1, g2⟩, ⟨g3, g4, g5, g6, g7⟩, g8, g9, g10⟩, r1, r2, r3, r4, r5, r6⟩ := hr
    have e1 : 10 * i + 150 ≠ 10 * i + 151 := by omega
    have e2 : 10 * i + 151 ≠ 10 * i + 150 := by omega
    have e3 : 10 * j + 151 ≠ 10 * i + 151 := by omega
    have e4 : 10 * j + 150 ≠ 10 * i + 151 := by omega
    have e5 : 10 * j + 150 ≠ 10 * i + 150 := by omega
    have e6 : R' (10 * i + 150) = R (10 * i + 150) := D7 _ (by omega)
    have DR := mdry (I := J') (R := R') (τ := τ) hj (hm29 i iL) (by rw [e6]; exact hm30 i iL) (hm31 i iL)
    rw [k1 0 (by omega), k1 1 (by omega), k1 2 (by omega), k1 3 (by omega)] at DR
    have OR : I (10 * i + 150) 11 ||| I (10 * j + 150) 11 = orT (I (10 * i + 150) 11) (I (10 * j + 150) 11) := by
      rcases t1 with y1 | y1 <;> rcases t2 with y2 | y2 <;> rw [y1, y2] <;> decide
    have OB : orT (I (10 * i + 150) 11) (I (10 * j + 150) 11) = 0 ∨ orT (I (10 * i + 150) 11) (I (10 * j + 150) 11) = 1 := by
      rw [orT]; split
      · split
        · exact Or.inl rfl
        · exact Or.inr rfl
      · exact Or.inr rfl
    simp (config := {decide := true}) only [l_X8_join_131, itr_40, itr_39, itr_38, itr_37, itr_36, b_X8_join_131, gI_pt hj, gR_pt hj, ob_pt hj, ck_pt hj, pI_pt hj, pB_pt hj, pR_pt hj, aI_pt hj, aR_pt hj, wI_pt hj, wJ_pt hj, aL_pt hj, cl1_s, cl1_n, cl1_i, cx1_s, cx1_x, cx1_n, cx1_i, nul_n, nul_s, nm, dv2, dv3, dv4, dv5, dv8, dv10, dv20, dv40, thr, bo, mI_pt hj, mT_pt hj, sB_pt, mZ_pt, mJ_pt, mJ_sJ, mZ_sJ, tn0, tn1, tn2, tn3, tn4, tn5, tn6, hm29 i iL, hm29 j jL, hm30 i iL, hm30 j jL, hm31 i iL, hm31 j jL, u0, u1, u2, u3, up2_row e1, up2_row e2, up2_row e3, up2_row e4, up2_row e5, up2_k, up2_at, OR, OB, D1, DR, ii0, ii1, ii2, ii3, ii4, if_true, if_false, ne_eq, not_false_eq_true, not_true_eq_false, true_and, and_true, false_and, and_false, and_self, true_or, or_true, false_or, or_false, or_self, Nat.reduceAdd, Nat.reduceLT, Nat.reduceLeDiff, Nat.succ_ne_zero, reduceIte, reduceCtorEq]
  · rw [j0, hJA]; simp (disch := omega) only [up2_row, up2_k, up2_at]
  · rw [j0, hJA]; simp (disch := omega) only [up2_row, up2_k, up2_at]
  · rw [j0, hJA]; simp (disch := omega) only [up2_row, up2_k, up2_at]
  · rw [j0, hJA, up2_k y3, up2_k y2, up2_k y1]; simp (disch := omega) only [up2_row]; rw [u0]
theorem x_dif (σ : Mem) (h : p ≠ q) : f_X4_requireDifferent p q σ = some (.inl (), σ) := by
  simp (config := {decide := true}) only [b_X4_requireDifferent_0, f_X4_requireDifferent, h, ii0, ii1, ii2, ii3, ii4, if_true, if_false, ne_eq, not_false_eq_true, not_true_eq_false, true_and, and_true, false_and, and_false, and_self, true_or, or_true, false_or, or_false, or_self, Nat.reduceAdd, Nat.reduceLT, Nat.reduceLeDiff, Nat.succ_ne_zero, reduceIte, reduceCtorEq]
theorem x_difN (σ : Mem) : f_X4_requireDifferent p p σ = some (.inr 1, sB σ) := by
  simp (config := {decide := true}) only [b_X4_requireDifferent_0, f_X4_requireDifferent, thr, ii0, ii1, ii2, ii3, ii4, if_true, if_false, ne_eq, not_false_eq_true, not_true_eq_false, true_and, and_true, false_and, and_false, and_self, true_or, or_true, false_or, or_false, or_self, Nat.reduceAdd, Nat.reduceLT, Nat.reduceLeDiff, Nat.succ_ne_zero, reduceIte, reduceCtorEq]
theorem op_join {x m o : Nat} {σ : Mem} (p q : Int32) (h : Jn e0 x m o n σ) : Agr e0 x m o n (f_L_join (some x) p q (some o) σ) (fun σ => f_X8_join m p q σ) := by
  obtain ⟨φ, T, I, R, τ, nS, nL, cS, cL, mx, cB, bl, rfl, ⟨rfl, rfl, rfl⟩, h⟩ := h
  have h : Cx φ T I R (mZ τ) e0 nS nL cS cL mx cB bl n := h
  have hj := h.hj
  have h0 := h.m.1
  have hx0 := h.m.2.2.2.2.2.2.2
  have h132 := h.m.2.2.2.2.2.2.1
  have h7 := h.m.2.2.2.1
  have h6 := h.m.2.2.1
  have hN := h.m.2.2.2.2.1
  have hS := h.m.2.2.2.2.2.1
  have h' : Cx φ T I R (mZ (sB τ)) e0 nS nL cS cL mx cB bl n := h.up (Nat.le_succ _)
  by_cases hp : InN p nL
  · by_cases hq : InN q nL
    · have iL := (idx h.m.2.2.2.2.1 hp.1 hp.2).2.2.2.2
      have jL := (idx h.m.2.2.2.2.1 hq.1 hq.2).2.2.2.2
      by_cases hd : p = q
      · subst hd
        refine Agr.bad (k := 2) (b := 0) h (by decide) ?_ ?_
        · simp (config := {decide := true}) only [f_L_join, b_L_join_0, f_X4_join, b_X4_join_0, x_lotAt h hp rfl, x_difN, gI_pt hj, gR_pt hj, ob_pt hj, ck_pt hj, pI_pt hj, pB_pt hj, pR_pt hj, aI_pt hj, aR_pt hj, wI_pt hj, wJ_pt hj, aL_pt hj, cl1_s, cl1_n, cl1_i, cx1_s, cx1_x, cx1_n, cx1_i, nul_n, nul_s, nm, dv2, dv3, dv4, dv5, dv8, dv10, dv20, dv40, thr, bo, mI_pt hj, mT_pt hj, sB_pt, mZ_pt, mJ_pt, mJ_sJ, mZ_sJ, tn0, tn1, tn2, tn3, tn4, tn5, tn6, hx0, ii0, ii1, ii2, ii3, ii4, if_true, if_false, ne_eq, not_false_eq_true, not_true_eq_false, true_and, and_true, false_and, and_false, and_self, true_or, or_true, false_or, or_false, or_self, Nat.reduceAdd, Nat.reduceLT, Nat.reduceLeDiff, Nat.succ_ne_zero, reduceIte, reduceCtorEq]
        · simp (config := {decide := true}) only [f_X8_join, b_X8_join_0, b_X8_join_22, b_X8_join_40, b_X8_join_47, m_noLot h' hp, m_start0 hj h0, m_ref1 hj h0 (show ¬ (2 : Int32) ≤ 0 by decide), gI_pt hj, gR_pt hj, ob_pt hj, ck_pt hj, pI_pt hj, pB_pt hj, pR_pt hj, aI_pt hj, aR_pt hj, wI_pt hj, wJ_pt hj, aL_pt hj, cl1_s, cl1_n, cl1_i, cx1_s, cx1_x, cx1_n, cx1_i, nul_n, nul_s, nm, dv2, dv3, dv4, dv5, dv8, dv10, dv20, dv40, thr, bo, mI_pt hj, mT_pt hj, sB_pt, mZ_pt, mJ_pt, mJ_sJ, mZ_sJ, tn0, tn1, tn2, tn3, tn4, tn5, tn6, h0, ii0, ii1, ii2, ii3, ii4, if_true, if_false, ne_eq, not_false_eq_true, not_true_eq_false, true_and, and_true, false_and, and_false, and_self, true_or, or_true, false_or, or_false, or_self, Nat.reduceAdd, Nat.reduceLT, Nat.reduceLeDiff, Nat.succ_ne_zero, reduceIte, reduceCtorEq]
      · have hne : p.toNatClampNeg ≠ q.toNatClampNeg := by
          obtain ⟨i, i1, rfl⟩ := hp.num hN
          obtain ⟨j, j1, rfl⟩ := hq.num hN
          rw [tnK (by omega), tnK (by omega)]
          intro y; exact hd (by rw [y])
        generalize hi : p.toNatClampNeg = i at iL hne
        generalize hj' : q.toNatClampNeg = j at jL hne
        have A := x_lotAt h hp hi
        have B := x_lotAt h hq hj'
        have TX1 : T (6 * i + 19) = (4, 0) := h.t4 (by omega)
        have TX2 : T (6 * j + 19) = (4, 0) := h.t4 (by omega)
        have TM1 := h.t8 iL
        have TM2 := h.t8 jL
        obtain ⟨⟨E0, E2, E3, E4, E5, E6, E7, E8, E9, E10, E11, E12, E13⟩, ⟨qB0, qB1, qB2, qB3⟩, ⟨qC1, qC2, qC3, qC4, qC5, qC6⟩, qD, ⟨qE1, qE2, qE3⟩, qF, qG, qH, qK⟩ := h.lr iL
        obtain ⟨⟨D0, D2, D3, D4, D5, D6, D7, D8, D9, D10, D11, D12, D13⟩, ⟨pB0, pB1, pB2, pB3⟩, ⟨pC1, pC2, pC3, pC4, pC5, pC6⟩, pD, ⟨pE1, pE2, pE3⟩, pF, pG, pH, pK⟩ := h.lr jL
        have GI : ∀ (τ : Mem), f_Jx4a65c_get_915e3 (φ 126) p (pt φ T (up2 I 124 0 0) R τ) = some (some (φ (10 * i + 150)), pt φ T (up2 I 124 0 0) R τ) := fun τ => m_getJ h (up2_row (by omega)) hp hi
        have GJ : ∀ (τ : Mem), f_Jx4a65c_get_915e3 (φ 126) q (pt φ T (up2 I 124 0 0) R τ) = some (some (φ (10 * j + 150)), pt φ T (up2 I 124 0 0) R τ) := fun τ => m_getJ h (up2_row (by omega)) hq hj'
        have ei : up2 I 124 0 0 (10 * i + 150) = I (10 * i + 150) := up2_row (by omega)
        have ej : up2 I 124 0 0 (10 * j + 150) = I (10 * j + 150) := up2_row (by omega)
        by_cases hc : I (6 * i + 19) 0 = 0 ∧ I (6 * j + 19) 0 = 0 ∧ I (6 * i + 19) 4 = I (6 * j + 19) 4 ∧ I (6 * i + 19) 10 = I (6 * j + 19) 10
        · obtain ⟨c1, c2, c3, c4⟩ := hc
          obtain ⟨JX, X1, X2, X3, X4, X5, X6, X7, X8, X9, X10, X11, X12⟩ := x_joinL (τ := τ) h (show i < 17 by omega) (show j < 17 by omega) hne
          obtain ⟨v, hv⟩ : ∃ v, v = I (6 * i + 19) 1 + I (6 * j + 19) 1 := ⟨_, rfl⟩
          rw [← hv] at X1
          obtain ⟨τ1, hτ1⟩ : ∃ τ1, τ1 = sJ τ (φ 132) 0 v.toInt64 := ⟨_, rfl⟩
          have z1 : mZ τ1 = mZ τ := by rw [hτ1]; rfl
          have j1 : mJ τ1 (φ 132) 0 = v.toInt64 := by rw [hτ1]; exact sJ_at
          have JI : ∀ v, 125 ≤ v → up2 JX 124 0 0 v = I v := fun v hv => by rw [up2_row (by omega), X2 v (by omega) (by omega) (by omega) (by omega)]
          obtain ⟨J2, R2, M1, M2, M3, M4, M5, M6, M7, M8, M9, M10, M11, M12, M13⟩ := m_joinL (J := up2 JX 124 0 0) (τ := τ1) h iL jL hne JI (by rw [← E11]; exact qE2) (by rw [← D11]; exact pE2)
          have sumv : (I (10 * i + 151) 0 + I (10 * j + 151) 0) + (I (10 * i + 151) 1 + I (10 * j + 151) 1) + (I (10 * i + 151) 2 + I (10 * j + 151) 2) + (I (10 * i + 151) 3 + I (10 * j + 151) 3) = v := by
            rw [hv, qC1, pC1]; ac_rfl
          rw [sumv] at M1
          have fI : ∀ v, v ≠ 124 → v ≠ 10 * i + 150 → v ≠ 10 * i + 151 → v ≠ 10 * j + 150 → v ≠ 10 * j + 151 → v ≠ 10 * j + 153 → v ≠ 6 * i + 19 → v ≠ 6 * i + 20 → v ≠ 6 * j + 19 → v ≠ 6 * j + 20 → J2 v = I v := fun v y1 y2 y3 y4 y5 y6 y7 y8 y9 y10 => by rw [M2 v y2 y3 y4 y5 y6, up2_row y1, X2 v y7 y8 y9 y10]
          have f124 : ∀ k, k ≠ 0 → J2 124 k = I 124 k := fun k y => by rw [M2 _ (by omega) (by omega) (by omega) (by omega) (by omega), up2_k y, X2 _ (by omega) (by omega) (by omega) (by omega)]
          have f124' : J2 124 0 = 0 := by rw [M2 _ (by omega) (by omega) (by omega) (by omega) (by omega), up2_at]
          have fx : ∀ v, v < 124 → J2 v = JX v := fun v y => by rw [M2 _ (by omega) (by omega) (by omega) (by omega) (by omega), up2_row (by omega)]
          have b1 := h.dn iL
          have b2 := h.dn jL
          have b3 := h.d2 iL jL hne
          have vt : v.toInt = (I (6 * i + 19) 1).toInt + (I (6 * j + 19) 1).toInt := by rw [hv]; exact tAdd (by omega) (by omega)
          have ut : ∀ k, k < 4 → (I (10 * i + 151) k + I (10 * j + 151) k).toInt = (I (10 * i + 151) k).toInt + (I (10 * j + 151) k).toInt := fun k hk => by
            rcases (show k = 0 ∨ k = 1 ∨ k = 2 ∨ k = 3 by omega) with rfl | rfl | rfl | rfl <;> exact tAdd (by omega) (by omega)
          have r0 : I (6 * j + 22) 0 = 0 := by
            refine Classical.byContradiction (fun y => ?_)
            have := pH.2.2.1 y; rw [c2] at this; exact absurd this (by decide)
          have bn : bl j = [] := by
            refine Classical.byContradiction (fun y => ?_)
            exact pH.2.2.2 y r0
          have hCx : Cx φ T J2 R2 (mZ τ1) e0 nS nL cS cL mx cB (rowS bl j []) (n + 1) := by
            have hup := h.up (show mZ τ ≤ mZ τ1 by rw [z1]; exact Nat.le_refl _)
            refine ⟨hj, hup.2.1, h.2.2.1.frame (fun _ _ => rfl) (fun _ _ => rfl) (fun v hv => M13 v (by omega)), SM.clr h.2.2.2.1 jL ?_ M12 M13, ?_⟩
            · rintro v (rfl | rfl | ⟨i', k, y1, y2, y3, rfl, y5⟩) <;> exact fI _ (by omega) (by omega) (by omega) (by omega) (by omega) (by omega) (by omega) (by omega) (by omega) (by omega)
            · obtain ⟨⟨⟨g1, g2⟩, ⟨g3, g4, g5, g6, g7⟩, g8, g9, g10⟩, r1, r2, r3, r4, r5, r6⟩ := h.2.2.2.2
              refine ⟨⟨⟨?_, ?_⟩, ⟨?_, ?_, ?_, ?_, ?_⟩, ?_, ?_, ?_⟩, fun i' hi' => ?_, fun i' y1 y2 => ?_, fun i' hi' => ?_, fun i' y1 y2 => ?_, fun i' hi' => ?_, ?_⟩
              · simp (disch := omega) only [fI]; exact g1
              · simp (disch := omega) only [fI]; exact g2
              · rw [f124 1 (by decide)]; simp (disch := omega) only [fI]; exact g3
              · rw [f124 2 (by decide)]; simp (disch := omega) only [fI]; exact g4
              · rw [f124 3 (by decide)]; simp (disch := omega) only [fI]; exact g5
              · rw [f124 4 (by decide)]; simp (disch := omega) only [fI]; exact g6
              · rw [f124 5 (by decide)]; simp (disch := omega) only [fI]; exact g7
              · simp (disch := omega) only [fI]; exact g8
              · simp (disch := omega) only [fI]; exact g9
              · simp (disch := omega) only [fI]; exact g10
              · by_cases y : i' = j
                · subst y
                  rw [rowS_hit]
                  have e21 : J2 (6 * i' + 21) = I (6 * i' + 21) := by simp (disch := omega) only [fI]
                  have e22 : J2 (6 * i' + 22) = I (6 * i' + 22) := by simp (disch := omega) only [fI]
                  have e23 : J2 (6 * i' + 23) = I (6 * i' + 23) := by simp (disch := omega) only [fI]
                  have e24 : J2 (6 * i' + 24) = I (6 * i' + 24) := by simp (disch := omega) only [fI]
                  have e152 : J2 (10 * i' + 152) = I (10 * i' + 152) := by simp (disch := omega) only [fI]
                  rw [e21, e22, e23, e24, e152]
                  exact (r1 i' hi').gone (by rw [fx _ (by omega)]; exact X9) (by rw [fx _ (by omega)]; exact X10) (fun k y1 y2 => by rw [fx _ (by omega)]; exact X11 k y1 y2) M8 M9 M10 (fun k hk => by rw [fx _ (by omega)]; exact X12 k hk) M11 r0 (fun k _ => rfl) (fun k hk => pK.2.2.1 k hk (by rw [bn]; intro e he; cases he))
                · rw [rowS_ne y]
                  by_cases y2 : i' = i
                  · subst y2
                    have e21 : J2 (6 * i' + 21) = I (6 * i' + 21) := by simp (disch := omega) only [fI]
                    have e22 : J2 (6 * i' + 22) = I (6 * i' + 22) := by simp (disch := omega) only [fI]
                    have e23 : J2 (6 * i' + 23) = I (6 * i' + 23) := by simp (disch := omega) only [fI]
                    have e24 : J2 (6 * i' + 24) = I (6 * i' + 24) := by simp (disch := omega) only [fI]
                    have e152 : J2 (10 * i' + 152) = I (10 * i' + 152) := by simp (disch := omega) only [fI]
                    have x19 : ∀ k, J2 (6 * i' + 19) k = JX (6 * i' + 19) k := fun k => by rw [fx _ (by omega)]
                    have x20 : ∀ k, J2 (6 * i' + 20) k = JX (6 * i' + 20) k := fun k => by rw [fx _ (by omega)]
                    rw [e21, e22, e23, e24, e152]
                    unfold LotR
                    rw [x19, x19, x19, x19, x19, x19, x19, x19, x19, x19, x19, x19, x19, x20, x20, x20, x20, X3, X4, X5, X6, X7 0 (by decide) (by decide) (by decide) (by decide), X7 4 (by decide) (by decide) (by decide) (by decide), X7 5 (by decide) (by decide) (by decide) (by decide), X7 6 (by decide) (by decide) (by decide) (by decide), X7 7 (by decide) (by decide) (by decide) (by decide), X7 8 (by decide) (by decide) (by decide) (by decide), X7 9 (by decide) (by decide) (by decide) (by decide), X7 10 (by decide) (by decide) (by decide) (by decide), X7 12 (by decide) (by decide) (by decide) (by decide), X8 0 (by omega), X8 1 (by omega), X8 2 (by omega), X8 3 (by omega)]
                    rw [M3, M4, M5, M6 0 (by decide) (by decide) (by decide), M6 4 (by decide) (by decide) (by decide), M6 5 (by decide) (by decide) (by decide), M6 6 (by decide) (by decide) (by decide), M6 7 (by decide) (by decide) (by decide), M6 8 (by decide) (by decide) (by decide), M6 9 (by decide) (by decide) (by decide), M6 10 (by decide) (by decide) (by decide), M6 13 (by decide) (by decide) (by decide), M7 0 (by omega), M7 1 (by omega), M7 2 (by omega), M7 3 (by omega)]
                    refine ⟨⟨E0, by rw [E2, D2], by rw [E3, D3], E4, E5, E6, E7, E8, E9, E10, by rw [E11, D11], E12, E13⟩, ⟨by rw [qB0, pB0], by rw [qB1, pB1], by rw [qB2, pB2], by rw [qB3, pB3]⟩, ⟨by rw [← hv]; exact sumv.symm, by rw [ut 0 (by omega)]; omega, by rw [ut 1 (by omega)]; omega, by rw [ut 2 (by omega)]; omega, by rw [ut 3 (by omega)]; omega, by rw [← hv, vt, ut 0 (by omega), ut 1 (by omega), ut 2 (by omega), ut 3 (by omega)]; omega⟩, qD, ⟨qE1, ?_, qE3⟩, ⟨fun y => absurd (c1.symm.trans y) (by decide), fun _ => ?_, qF.2.2⟩, ⟨qG.1, by have := qG.2; omega⟩, qH, qK.mono (Nat.le_succ _)⟩
                    · rw [orT]; split
                      · split
                        · exact Or.inl rfl
                        · exact Or.inr rfl
                      · exact Or.inr rfl
                    · rw [← hv, vt]
                      have := qF.2.1 (by rw [c1]; decide)
                      omega
                  · simp (disch := omega) only [fI]; exact (r1 i' hi').mono (Nat.le_succ _)
              · simp (disch := omega) only [fI]; exact r2 i' y1 y2
              · simp (disch := omega) only [fI]; exact (r3 i' hi').mono (Nat.le_succ _)
              · simp (disch := omega) only [fI]; exact r4 i' y1 y2
              · simp (disch := omega) only [fI]; exact (r5 i' hi').mono (Nat.le_succ _)
              · unfold SumR
                rw [sumZ_move (f := fun i => (I (6 * i + 19) 1).toInt) iL jL hne (fun k hk y1 y2 => by simp (disch := omega) only [fI]) ?_]
                · exact r6
                · show (J2 (6 * i + 19) 1).toInt + (J2 (6 * j + 19) 1).toInt = (I (6 * i + 19) 1).toInt + (I (6 * j + 19) 1).toInt
                  rw [fx _ (by omega), fx _ (by omega), X3, X10, ← hv, vt, show (0 : Int32).toInt = 0 from rfl]; omega
          refine Agr.fin (b := v) (σ1 := pt φ T JX R τ1) hCx ?_ ?_ f124' j1
          · simp (config := {decide := true}) only [f_L_join, b_L_join_0, f_X4_join, b_X4_join_0, b_X4_join_38, b_X4_join_70, A, B, x_dif _ hd, x_st1, TX1, TX2, c1, c2, c3, c4, X1, gI_pt hj, gR_pt hj, ob_pt hj, ck_pt hj, pI_pt hj, pB_pt hj, pR_pt hj, aI_pt hj, aR_pt hj, wI_pt hj, wJ_pt hj, aL_pt hj, cl1_s, cl1_n, cl1_i, cx1_s, cx1_x, cx1_n, cx1_i, nul_n, nul_s, nm, dv2, dv3, dv4, dv5, dv8, dv10, dv20, dv40, thr, bo, mI_pt hj, mT_pt hj, sB_pt, mZ_pt, mJ_pt, mJ_sJ, mZ_sJ, tn0, tn1, tn2, tn3, tn4, tn5, tn6, hx0, h132, ii0, ii1, ii2, ii3, ii4, if_true, if_false, ne_eq, not_false_eq_true, not_true_eq_false, true_and, and_true, false_and, and_false, and_self, true_or, or_true, false_or, or_false, or_self, Nat.reduceAdd, Nat.reduceLT, Nat.reduceLeDiff, Nat.succ_ne_zero, reduceIte, reduceCtorEq]
            rw [hτ1]
          · have NL1 := m_noLotJ (J := JX) (τ := τ1) h (X2 126 (by omega) (by omega) (by omega) (by omega)) hp
            have NL2 := m_noLotJ (J := JX) (τ := τ1) h (X2 126 (by omega) (by omega) (by omega) (by omega)) hq
            have G1 := m_getJ (J := up2 JX 124 0 0) (τ := τ1) h (JI 126 (by omega)) hp hi
            have G2 := m_getJ (J := up2 JX 124 0 0) (τ := τ1) h (JI 126 (by omega)) hq hj'
            have c1' : I (10 * i + 150) 0 = 0 := by rw [← E0]; exact c1
            have c2' : I (10 * j + 150) 0 = 0 := by rw [← D0]; exact c2
            have c3' : I (10 * i + 150) 4 = I (10 * j + 150) 4 := by rw [← E4, ← D4]; exact c3
            have c4' : I (10 * i + 150) 10 = I (10 * j + 150) 10 := by rw [← E10, ← D10]; exact c4
            simp (config := {decide := true}) only [f_X8_join, b_X8_join_0, b_X8_join_22, b_X8_join_40, b_X8_join_119, NL1, NL2, m_start0 hj h0, m_ref0 hj h0, hd, G1, G2, JI (10 * i + 150) (by omega), JI (10 * j + 150) (by omega), c1', c2', c3', c4', M1, gI_pt hj, gR_pt hj, ob_pt hj, ck_pt hj, pI_pt hj, pB_pt hj, pR_pt hj, aI_pt hj, aR_pt hj, wI_pt hj, wJ_pt hj, aL_pt hj, cl1_s, cl1_n, cl1_i, cx1_s, cx1_x, cx1_n, cx1_i, nul_n, nul_s, nm, dv2, dv3, dv4, dv5, dv8, dv10, dv20, dv40, thr, bo, mI_pt hj, mT_pt hj, sB_pt, mZ_pt, mJ_pt, mJ_sJ, mZ_sJ, tn0, tn1, tn2, tn3, tn4, tn5, tn6, h0, h7, h6, TM1, TM2, ii0, ii1, ii2, ii3, ii4, if_true, if_false, ne_eq, not_false_eq_true, not_true_eq_false, true_and, and_true, false_and, and_false, and_self, true_or, or_true, false_or, or_false, or_self, Nat.reduceAdd, Nat.reduceLT, Nat.reduceLeDiff, Nat.succ_ne_zero, reduceIte, reduceCtorEq]
        · -- it cannot be
          have hb : Agr e0 (φ 0) (φ 124) (φ 132) n (f_L_join (some (φ 0)) p q (some (φ 132)) (pt φ T I R τ)) (fun σ => f_X8_join (φ 124) p q σ) := by
            refine Agr.bad (k := 3) (b := 0) h (by decide) ?_ ?_
            · by_cases c1 : I (6 * i + 19) 0 = 0
              · by_cases c2 : I (6 * j + 19) 0 = 0
                · by_cases c3 : I (6 * i + 19) 4 = I (6 * j + 19) 4
                  · have c4 : ¬ I (6 * i + 19) 10 = I (6 * j + 19) 10 := fun y => hc ⟨c1, c2, c3, y⟩
                    simp (config := {decide := true}) only [f_L_join, b_L_join_0, f_X4_join, b_X4_join_0, b_X4_join_37, b_X4_join_38, b_X4_join_69, b_X4_join_70, A, B, x_dif _ hd, x_st1, x_st0, TX1, TX2, c1, c2, c3, c4, gI_pt hj, gR_pt hj, ob_pt hj, ck_pt hj, pI_pt hj, pB_pt hj, pR_pt hj, aI_pt hj, aR_pt hj, wI_pt hj, wJ_pt hj, aL_pt hj, cl1_s, cl1_n, cl1_i, cx1_s, cx1_x, cx1_n, cx1_i, nul_n, nul_s, nm, dv2, dv3, dv4, dv5, dv8, dv10, dv20, dv40, thr, bo, mI_pt hj, mT_pt hj, sB_pt, mZ_pt, mJ_pt, mJ_sJ, mZ_sJ, tn0, tn1, tn2, tn3, tn4, tn5, tn6, hx0, ii0, ii1, ii2, ii3, ii4, if_true, if_false, ne_eq, not_false_eq_true, not_true_eq_false, true_and, and_true, false_and, and_false, and_self, true_or, or_true, false_or, or_false, or_self, Nat.reduceAdd, Nat.reduceLT, Nat.reduceLeDiff, Nat.succ_ne_zero, reduceIte, reduceCtorEq]
                  · simp (config := {decide := true}) only [f_L_join, b_L_join_0, f_X4_join, b_X4_join_0, b_X4_join_37, b_X4_join_38, b_X4_join_69, b_X4_join_70, A, B, x_dif _ hd, x_st1, x_st0, TX1, TX2, c1, c2, c3, gI_pt hj, gR_pt hj, ob_pt hj, ck_pt hj, pI_pt hj, pB_pt hj, pR_pt hj, aI_pt hj, aR_pt hj, wI_pt hj, wJ_pt hj, aL_pt hj, cl1_s, cl1_n, cl1_i, cx1_s, cx1_x, cx1_n, cx1_i, nul_n, nul_s, nm, dv2, dv3, dv4, dv5, dv8, dv10, dv20, dv40, thr, bo, mI_pt hj, mT_pt hj, sB_pt, mZ_pt, mJ_pt, mJ_sJ, mZ_sJ, tn0, tn1, tn2, tn3, tn4, tn5, tn6, hx0, ii0, ii1, ii2, ii3, ii4, if_true, if_false, ne_eq, not_false_eq_true, not_true_eq_false, true_and, and_true, false_and, and_false, and_self, true_or, or_true, false_or, or_false, or_self, Nat.reduceAdd, Nat.reduceLT, Nat.reduceLeDiff, Nat.succ_ne_zero, reduceIte, reduceCtorEq]
                · simp (config := {decide := true}) only [f_L_join, b_L_join_0, f_X4_join, b_X4_join_0, b_X4_join_37, b_X4_join_38, b_X4_join_69, b_X4_join_70, A, B, x_dif _ hd, x_st1, x_st0, TX1, TX2, c1, c2, gI_pt hj, gR_pt hj, ob_pt hj, ck_pt hj, pI_pt hj, pB_pt hj, pR_pt hj, aI_pt hj, aR_pt hj, wI_pt hj, wJ_pt hj, aL_pt hj, cl1_s, cl1_n, cl1_i, cx1_s, cx1_x, cx1_n, cx1_i, nul_n, nul_s, nm, dv2, dv3, dv4, dv5, dv8, dv10, dv20, dv40, thr, bo, mI_pt hj, mT_pt hj, sB_pt, mZ_pt, mJ_pt, mJ_sJ, mZ_sJ, tn0, tn1, tn2, tn3, tn4, tn5, tn6, hx0, ii0, ii1, ii2, ii3, ii4, if_true, if_false, ne_eq, not_false_eq_true, not_true_eq_false, true_and, and_true, false_and, and_false, and_self, true_or, or_true, false_or, or_false, or_self, Nat.reduceAdd, Nat.reduceLT, Nat.reduceLeDiff, Nat.succ_ne_zero, reduceIte, reduceCtorEq]
              · simp (config := {decide := true}) only [f_L_join, b_L_join_0, f_X4_join, b_X4_join_0, b_X4_join_37, b_X4_join_38, b_X4_join_69, b_X4_join_70, A, B, x_dif _ hd, x_st1, x_st0, TX1, TX2, c1, gI_pt hj, gR_pt hj, ob_pt hj, ck_pt hj, pI_pt hj, pB_pt hj, pR_pt hj, aI_pt hj, aR_pt hj, wI_pt hj, wJ_pt hj, aL_pt hj, cl1_s, cl1_n, cl1_i, cx1_s, cx1_x, cx1_n, cx1_i, nul_n, nul_s, nm, dv2, dv3, dv4, dv5, dv8, dv10, dv20, dv40, thr, bo, mI_pt hj, mT_pt hj, sB_pt, mZ_pt, mJ_pt, mJ_sJ, mZ_sJ, tn0, tn1, tn2, tn3, tn4, tn5, tn6, hx0, ii0, ii1, ii2, ii3, ii4, if_true, if_false, ne_eq, not_false_eq_true, not_true_eq_false, true_and, and_true, false_and, and_false, and_self, true_or, or_true, false_or, or_false, or_self, Nat.reduceAdd, Nat.reduceLT, Nat.reduceLeDiff, Nat.succ_ne_zero, reduceIte, reduceCtorEq]
            · have c0 : ¬ (I (10 * i + 150) 0 = 0 ∧ I (10 * j + 150) 0 = 0 ∧ I (10 * i + 150) 4 = I (10 * j + 150) 4 ∧ I (10 * i + 150) 10 = I (10 * j + 150) 10) := by
                rw [← E0, ← D0, ← E4, ← D4, ← E10, ← D10]; exact hc
              have R3 := m_ref1 (I := I) (R := R) (τ := sB τ) hj h0 (show ¬ (3 : Int32) ≤ 0 by decide)
              by_cases c1 : I (10 * i + 150) 0 = 0
              · by_cases c2 : I (10 * j + 150) 0 = 0
                · by_cases c3 : I (10 * i + 150) 4 = I (10 * j + 150) 4
                  · have c4 : ¬ I (10 * i + 150) 10 = I (10 * j + 150) 10 := fun y => c0 ⟨c1, c2, c3, y⟩
                    simp (config := {decide := true}) only [f_X8_join, b_X8_join_0, b_X8_join_22, b_X8_join_40, b_X8_join_114, b_X8_join_119, m_noLot h' hp, m_noLot h' hq, m_start0 hj h0, m_ref0 hj h0, R3, hd, GI, GJ, ei, ej, c1, c2, c3, c4, gI_pt hj, gR_pt hj, ob_pt hj, ck_pt hj, pI_pt hj, pB_pt hj, pR_pt hj, aI_pt hj, aR_pt hj, wI_pt hj, wJ_pt hj, aL_pt hj, cl1_s, cl1_n, cl1_i, cx1_s, cx1_x, cx1_n, cx1_i, nul_n, nul_s, nm, dv2, dv3, dv4, dv5, dv8, dv10, dv20, dv40, thr, bo, mI_pt hj, mT_pt hj, sB_pt, mZ_pt, mJ_pt, mJ_sJ, mZ_sJ, tn0, tn1, tn2, tn3, tn4, tn5, tn6, h0, h7, h6, TM1, TM2, ii0, ii1, ii2, ii3, ii4, if_true, if_false, ne_eq, not_false_eq_true, not_true_eq_false, true_and, and_true, false_and, and_false, and_self, true_or, or_true, false_or, or_false, or_self, Nat.reduceAdd, Nat.reduceLT, Nat.reduceLeDiff, Nat.succ_ne_zero, reduceIte, reduceCtorEq]
                  · simp (config := {decide := true}) only [f_X8_join, b_X8_join_0, b_X8_join_22, b_X8_join_40, b_X8_join_114, b_X8_join_119, m_noLot h' hp, m_noLot h' hq, m_start0 hj h0, m_ref0 hj h0, R3, hd, GI, GJ, ei, ej, c1, c2, c3, gI_pt hj, gR_pt hj, ob_pt hj, ck_pt hj, pI_pt hj, pB_pt hj, pR_pt hj, aI_pt hj, aR_pt hj, wI_pt hj, wJ_pt hj, aL_pt hj, cl1_s, cl1_n, cl1_i, cx1_s, cx1_x, cx1_n, cx1_i, nul_n, nul_s, nm, dv2, dv3, dv4, dv5, dv8, dv10, dv20, dv40, thr, bo, mI_pt hj, mT_pt hj, sB_pt, mZ_pt, mJ_pt, mJ_sJ, mZ_sJ, tn0, tn1, tn2, tn3, tn4, tn5, tn6, h0, h7, h6, TM1, TM2, ii0, ii1, ii2, ii3, ii4, if_true, if_false, ne_eq, not_false_eq_true, not_true_eq_false, true_and, and_true, false_and, and_false, and_self, true_or, or_true, false_or, or_false, or_self, Nat.reduceAdd, Nat.reduceLT, Nat.reduceLeDiff, Nat.succ_ne_zero, reduceIte, reduceCtorEq]
                · simp (config := {decide := true}) only [f_X8_join, b_X8_join_0, b_X8_join_22, b_X8_join_40, b_X8_join_114, b_X8_join_119, m_noLot h' hp, m_noLot h' hq, m_start0 hj h0, m_ref0 hj h0, R3, hd, GI, GJ, ei, ej, c1, c2, gI_pt hj, gR_pt hj, ob_pt hj, ck_pt hj, pI_pt hj, pB_pt hj, pR_pt hj, aI_pt hj, aR_pt hj, wI_pt hj, wJ_pt hj, aL_pt hj, cl1_s, cl1_n, cl1_i, cx1_s, cx1_x, cx1_n, cx1_i, nul_n, nul_s, nm, dv2, dv3, dv4, dv5, dv8, dv10, dv20, dv40, thr, bo, mI_pt hj, mT_pt hj, sB_pt, mZ_pt, mJ_pt, mJ_sJ, mZ_sJ, tn0, tn1, tn2, tn3, tn4, tn5, tn6, h0, h7, h6, TM1, TM2, ii0, ii1, ii2, ii3, ii4, if_true, if_false, ne_eq, not_false_eq_true, not_true_eq_false, true_and, and_true, false_and, and_false, and_self, true_or, or_true, false_or, or_false, or_self, Nat.reduceAdd, Nat.reduceLT, Nat.reduceLeDiff, Nat.succ_ne_zero, reduceIte, reduceCtorEq]
              · simp (config := {decide := true}) only [f_X8_join, b_X8_join_0, b_X8_join_22, b_X8_join_40, b_X8_join_114, b_X8_join_119, m_noLot h' hp, m_noLot h' hq, m_start0 hj h0, m_ref0 hj h0, R3, hd, GI, GJ, ei, ej, c1, gI_pt hj, gR_pt hj, ob_pt hj, ck_pt hj, pI_pt hj, pB_pt hj, pR_pt hj, aI_pt hj, aR_pt hj, wI_pt hj, wJ_pt hj, aL_pt hj, cl1_s, cl1_n, cl1_i, cx1_s, cx1_x, cx1_n, cx1_i, nul_n, nul_s, nm, dv2, dv3, dv4, dv5, dv8, dv10, dv20, dv40, thr, bo, mI_pt hj, mT_pt hj, sB_pt, mZ_pt, mJ_pt, mJ_sJ, mZ_sJ, tn0, tn1, tn2, tn3, tn4, tn5, tn6, h0, h7, h6, TM1, TM2, ii0, ii1, ii2, ii3, ii4, if_true, if_false, ne_eq, not_false_eq_true, not_true_eq_false, true_and, and_true, false_and, and_false, and_self, true_or, or_true, false_or, or_false, or_self, Nat.reduceAdd, Nat.reduceLT, Nat.reduceLeDiff, Nat.succ_ne_zero, reduceIte, reduceCtorEq]
          exact hb
    · refine Agr.bad (k := 1) (b := 0) h (by decide) ?_ ?_
      · simp (config := {decide := true}) only [f_L_join, b_L_join_0, f_X4_join, b_X4_join_0, x_lotAt h hp rfl, x_lotAtN h hq, gI_pt hj, gR_pt hj, ob_pt hj, ck_pt hj, pI_pt hj, pB_pt hj, pR_pt hj, aI_pt hj, aR_pt hj, wI_pt hj, wJ_pt hj, aL_pt hj, cl1_s, cl1_n, cl1_i, cx1_s, cx1_x, cx1_n, cx1_i, nul_n, nul_s, nm, dv2, dv3, dv4, dv5, dv8, dv10, dv20, dv40, thr, bo, mI_pt hj, mT_pt hj, sB_pt, mZ_pt, mJ_pt, mJ_sJ, mZ_sJ, tn0, tn1, tn2, tn3, tn4, tn5, tn6, hx0, ii0, ii1, ii2, ii3, ii4, if_true, if_false, ne_eq, not_false_eq_true, not_true_eq_false, true_and, and_true, false_and, and_false, and_self, true_or, or_true, false_or, or_false, or_self, Nat.reduceAdd, Nat.reduceLT, Nat.reduceLeDiff, Nat.succ_ne_zero, reduceIte, reduceCtorEq]
      · simp (config := {decide := true}) only [f_X8_join, b_X8_join_0, b_X8_join_17, b_X8_join_22, b_X8_join_47, m_noLot h' hp, m_noLotN h' hq, m_start1 hj h0 (show ¬ (1 : Int32) ≤ 0 by decide), gI_pt hj, gR_pt hj, ob_pt hj, ck_pt hj, pI_pt hj, pB_pt hj, pR_pt hj, aI_pt hj, aR_pt hj, wI_pt hj, wJ_pt hj, aL_pt hj, cl1_s, cl1_n, cl1_i, cx1_s, cx1_x, cx1_n, cx1_i, nul_n, nul_s, nm, dv2, dv3, dv4, dv5, dv8, dv10, dv20, dv40, thr, bo, mI_pt hj, mT_pt hj, sB_pt, mZ_pt, mJ_pt, mJ_sJ, mZ_sJ, tn0, tn1, tn2, tn3, tn4, tn5, tn6, h0, ii0, ii1, ii2, ii3, ii4, if_true, if_false, ne_eq, not_false_eq_true, not_true_eq_false, true_and, and_true, false_and, and_false, and_self, true_or, or_true, false_or, or_false, or_self, Nat.reduceAdd, Nat.reduceLT, Nat.reduceLeDiff, Nat.succ_ne_zero, reduceIte, reduceCtorEq]
  · refine Agr.bad (k := 1) (b := 0) h (by decide) ?_ ?_
    · simp (config := {decide := true}) only [f_L_join, b_L_join_0, f_X4_join, b_X4_join_0, x_lotAtN h hp, gI_pt hj, gR_pt hj, ob_pt hj, ck_pt hj, pI_pt hj, pB_pt hj, pR_pt hj, aI_pt hj, aR_pt hj, wI_pt hj, wJ_pt hj, aL_pt hj, cl1_s, cl1_n, cl1_i, cx1_s, cx1_x, cx1_n, cx1_i, nul_n, nul_s, nm, dv2, dv3, dv4, dv5, dv8, dv10, dv20, dv40, thr, bo, mI_pt hj, mT_pt hj, sB_pt, mZ_pt, mJ_pt, mJ_sJ, mZ_sJ, tn0, tn1, tn2, tn3, tn4, tn5, tn6, hx0, ii0, ii1, ii2, ii3, ii4, if_true, if_false, ne_eq, not_false_eq_true, not_true_eq_false, true_and, and_true, false_and, and_false, and_self, true_or, or_true, false_or, or_false, or_self, Nat.reduceAdd, Nat.reduceLT, Nat.reduceLeDiff, Nat.succ_ne_zero, reduceIte, reduceCtorEq]
    · simp (config := {decide := true}) only [f_X8_join, b_X8_join_0, b_X8_join_17, b_X8_join_22, b_X8_join_47, m_noLotN h' hp, m_start1 hj h0 (show ¬ (1 : Int32) ≤ 0 by decide), gI_pt hj, gR_pt hj, ob_pt hj, ck_pt hj, pI_pt hj, pB_pt hj, pR_pt hj, aI_pt hj, aR_pt hj, wI_pt hj, wJ_pt hj, aL_pt hj, cl1_s, cl1_n, cl1_i, cx1_s, cx1_x, cx1_n, cx1_i, nul_n, nul_s, nm, dv2, dv3, dv4, dv5, dv8, dv10, dv20, dv40, thr, bo, mI_pt hj, mT_pt hj, sB_pt, mZ_pt, mJ_pt, mJ_sJ, mZ_sJ, tn0, tn1, tn2, tn3, tn4, tn5, tn6, h0, ii0, ii1, ii2, ii3, ii4, if_true, if_false, ne_eq, not_false_eq_true, not_true_eq_false, true_and, and_true, false_and, and_false, and_self, true_or, or_true, false_or, or_false, or_self, Nat.reduceAdd, Nat.reduceLT, Nat.reduceLeDiff, Nat.succ_ne_zero, reduceIte, reduceCtorEq]
end JN
