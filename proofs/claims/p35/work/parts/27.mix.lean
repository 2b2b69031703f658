/-! MIX -/
section MX
variable {φ : Nat → Nat} {T : Nat → Nat × Nat} {I J : Nat → Nat → Int32} {R : Nat → Nat → Option Nat} {τ : Mem} {nS nL n z : Nat}
variable {a b i j k s c g : Nat} {J' : Nat → Nat → Int32} {p q r d cn u w tt : Int32} {τ0 τ1 : Mem} {t t' : Nat → Int32}
def Tk (u : Nat → Int32) (c : Int32) (t : Nat → Int32) : Prop := mn (u 0) c = t 0 ∧ mn (u 1) (c - t 0) = t 1 ∧ mn (u 2) (c - t 0 - t 1) = t 2 ∧ mn (u 3) (c - t 0 - t 1 - t 2) = t 3
theorem tk_ex (u : Nat → Int32) (c : Int32) : ∃ t, Tk u c t := by
  refine ⟨fun k => if k = 0 then mn (u 0) c else if k = 1 then mn (u 1) (c - mn (u 0) c) else if k = 2 then mn (u 2) (c - mn (u 0) c - mn (u 1) (c - mn (u 0) c)) else mn (u 3) (c - mn (u 0) c - mn (u 1) (c - mn (u 0) c) - mn (u 2) (c - mn (u 0) c - mn (u 1) (c - mn (u 0) c))), rfl, rfl, rfl, rfl⟩
theorem tk_b {u : Nat → Int32} (h : Tk u cn t) (h0 : 0 ≤ (u 0).toInt) (h1 : 0 ≤ (u 1).toInt) (h2 : 0 ≤ (u 2).toInt) (h3 : 0 ≤ (u 3).toInt) (hs : (u 0).toInt + (u 1).toInt + (u 2).toInt + (u 3).toInt ≤ 5760) (c0 : 0 ≤ cn.toInt) (c1 : cn.toInt ≤ (u 0).toInt + (u 1).toInt + (u 2).toInt + (u 3).toInt) :
    (∀ k, k < 4 → 0 ≤ (t k).toInt ∧ (t k).toInt ≤ (u k).toInt) ∧ (t 0).toInt + (t 1).toInt + (t 2).toInt + (t 3).toInt = cn.toInt ∧ (∀ k, k < 4 → (u k - t k).toInt = (u k).toInt - (t k).toInt) := by
  obtain ⟨e0, e1, e2, e3⟩ := h
  have b0 := mn_b (a := u 0) (b := cn)
  rw [e0] at b0
  have s1 : (cn - t 0).toInt = cn.toInt - (t 0).toInt := tSub (by omega) (by omega)
  have b1 := mn_b (a := u 1) (b := cn - t 0)
  rw [e1] at b1
  have s2 : (cn - t 0 - t 1).toInt = cn.toInt - (t 0).toInt - (t 1).toInt := by rw [tSub (by omega) (by omega), s1]
  have b2 := mn_b (a := u 2) (b := cn - t 0 - t 1)
  rw [e2] at b2
  have s3 : (cn - t 0 - t 1 - t 2).toInt = cn.toInt - (t 0).toInt - (t 1).toInt - (t 2).toInt := by rw [tSub (by omega) (by omega), s2]
  have b3 := mn_b (a := u 3) (b := cn - t 0 - t 1 - t 2)
  rw [e3] at b3
  have g : ∀ k, k < 4 → 0 ≤ (t k).toInt ∧ (t k).toInt ≤ (u k).toInt := by
    intro k hk
    rcases (show k = 0 ∨ k = 1 ∨ k = 2 ∨ k = 3 by omega) with rfl | rfl | rfl | rfl <;> omega
  refine ⟨g, by omega, fun k hk => ?_⟩
  have := g k hk
  exact tSub (by omega) (by rcases (show k = 0 ∨ k = 1 ∨ k = 2 ∨ k = 3 by omega) with rfl | rfl | rfl | rfl <;> omega)
theorem x_take (h : Cx φ T I R z nS nL n) (ha : a < 17) (hb : b < 17) (hne : a ≠ b) (ht : Tk (J (6 * b + 20)) cn t) : ∃ JX, f_X1_takeUnits (φ (6 * a + 19)) (some (φ (6 * b + 19))) cn (pt φ T J R τ) = some ((), pt φ T JX R τ) ∧ (∀ v, v ≠ 6 * a + 19 → v ≠ 6 * a + 20 → v ≠ 6 * b + 19 → v ≠ 6 * b + 20 → JX v = J v) ∧ JX (6 * a + 19) 1 = J (6 * a + 19) 1 + cn ∧ (∀ k, k ≠ 1 → JX (6 * a + 19) k = J (6 * a + 19) k) ∧ (∀ k, k < 4 → JX (6 * a + 20) k = J (6 * a + 20) k + t k) ∧
    ((0 < J (6 * b + 19) 1 - cn ∧ JX (6 * b + 19) 1 = J (6 * b + 19) 1 - cn ∧ JX (6 * b + 19) 2 = mn (J (6 * b + 19) 1 - cn) (J (6 * b + 19) 2) ∧ (∀ k, k ≠ 1 → k ≠ 2 → JX (6 * b + 19) k = J (6 * b + 19) k) ∧ (∀ k, k < 4 → JX (6 * b + 20) k = J (6 * b + 20) k - t k)) ∨
     (¬ 0 < J (6 * b + 19) 1 - cn ∧ JX (6 * b + 19) 0 = 3 ∧ JX (6 * b + 19) 1 = 0 ∧ JX (6 * b + 19) 2 = mn (J (6 * b + 19) 1 - cn) (J (6 * b + 19) 2) ∧ (∀ k, k ≠ 0 → k ≠ 1 → k ≠ 2 → JX (6 * b + 19) k = J (6 * b + 19) k) ∧ (∀ k, k < 4 → JX (6 * b + 20) k = 0))) := by
  obtain ⟨t0, t1, t2, t3⟩ := ht
  obtain ⟨JA, hJA⟩ : ∃ JA, JA = up2 (up2 (up2 (up2 (up2 (up2 (up2 (up2 (up2 (up2 (up2 J (6 * a + 20) 0 (J (6 * a + 20) 0 + t 0)) (6 * b + 20) 0 (J (6 * b + 20) 0 - t 0)) (6 * a + 20) 1 (J (6 * a + 20) 1 + t 1)) (6 * b + 20) 1 (J (6 * b + 20) 1 - t 1)) (6 * a + 20) 2 (J (6 * a + 20) 2 + t 2)) (6 * b + 20) 2 (J (6 * b + 20) 2 - t 2)) (6 * a + 20) 3 (J (6 * a + 20) 3 + t 3)) (6 * b + 20) 3 (J (6 * b + 20) 3 - t 3)) (6 * a + 19) 1 (J (6 * a + 19) 1 + cn)) (6 * b + 19) 1 (J (6 * b + 19) 1 - cn)) (6 * b + 19) 2 (mn (J (6 * b + 19) 1 - cn) (J (6 * b + 19) 2)) := ⟨_, rfl⟩
  have fA : ∀ v, v ≠ 6 * a + 19 → v ≠ 6 * a + 20 → v ≠ 6 * b + 19 → v ≠ 6 * b + 20 → JA v = J v := fun v y1 y2 y3 y4 => by rw [hJA]; simp (disch := omega) only [up2_row]
  have fa1 : JA (6 * a + 19) 1 = J (6 * a + 19) 1 + cn := by rw [hJA]; simp (disch := omega) only [up2_row, up2_k, up2_at]
  have fak : ∀ k, k ≠ 1 → JA (6 * a + 19) k = J (6 * a + 19) k := fun k y => by rw [hJA]; simp (disch := omega) only [up2_row, up2_k, up2_at]
  have fau : ∀ k, k < 4 → JA (6 * a + 20) k = J (6 * a + 20) k + t k := fun k hk => by
    rw [hJA]
    rcases (show k = 0 ∨ k = 1 ∨ k = 2 ∨ k = 3 by omega) with rfl | rfl | rfl | rfl <;> simp (disch := omega) only [up2_row, up2_k, up2_at]
  have fb1 : JA (6 * b + 19) 1 = J (6 * b + 19) 1 - cn := by rw [hJA]; simp (disch := omega) only [up2_row, up2_k, up2_at]
  have fb2 : JA (6 * b + 19) 2 = mn (J (6 * b + 19) 1 - cn) (J (6 * b + 19) 2) := by rw [hJA]; simp (disch := omega) only [up2_row, up2_k, up2_at]
  have fbk : ∀ k, k ≠ 1 → k ≠ 2 → JA (6 * b + 19) k = J (6 * b + 19) k := fun k y1 y2 => by rw [hJA]; simp (disch := omega) only [up2_row, up2_k, up2_at]
  have fbu : ∀ k, k < 4 → JA (6 * b + 20) k = J (6 * b + 20) k - t k := fun k hk => by
    rw [hJA]
    rcases (show k = 0 ∨ k = 1 ∨ k = 2 ∨ k = 3 by omega) with rfl | rfl | rfl | rfl <;> simp (disch := omega) only [up2_row, up2_k, up2_at]
  have e1 : 6 * a + 19 ≠ 6 * a + 20 := by omega
  have e2 : 6 * a + 19 ≠ 6 * b + 20 := by omega
  have e3 : 6 * b + 19 ≠ 6 * a + 20 := by omega
  have e4 : 6 * b + 19 ≠ 6 * b + 20 := by omega
  have e5 : 6 * b + 19 ≠ 6 * a + 19 := by omega
  have e6 : 6 * b + 20 ≠ 6 * a + 20 := by omega
  have e7 : 6 * a + 20 ≠ 6 * b + 20 := by omega
  by_cases c : 0 < J (6 * b + 19) 1 - cn
  · refine ⟨JA, ?_, fA, fa1, fak, fau, Or.inl ⟨c, fb1, fb2, fbk, fbu⟩⟩
    rw [hJA]
    obtain ⟨hj, hl, hx, ⟨hm22, hm23⟩, hr⟩ := h; obtain ⟨hx0, hx1, hx2, hx3, hx4, hx5, hx6, hx7, hx8, hx9, hx10, hx11, hx12, hx13, hx14, hx15, hx16, hx17, hx18, hx19, hx20, hx21, hx22, hx23, hx24, hx25, hx26, hx27⟩ := hx; obtain ⟨⟨g1, g2⟩, r1, r2, r3, r4, r5, r6, r7⟩ := hr
    simp (config := {decide := true}) only [f_X1_takeUnits, b_X1_takeUnits_0, l_X1_takeUnits_5, itr_40, itr_39, itr_38, itr_37, itr_36, b_X1_takeUnits_5, b_X1_takeUnits_109, gI_pt hj, gR_pt hj, ob_pt hj, pI_pt hj, pB_pt hj, pR_pt hj, aI_pt hj, aR_pt hj, wI_pt hj, aL_pt hj, cl1_s, cl1_n, cl1_i, nul_n, nul_s, nm, dv2, dv3, dv4, dv5, dv8, dv10, dv20, dv40, bo, mI_pt hj, mT_pt hj, mZ_pt, tn0, tn1, tn2, tn3, tn4, tn5, tn6, mnE, t0, t1, t2, t3, hx15 a ha, hx15 b hb, hx16 a ha, hx16 b hb, hx19 a ha, hx19 b hb, up2_row e1, up2_row e2, up2_row e3, up2_row e4, up2_row e5, up2_row e6, up2_row e7, up2_k, up2_at, c, ii0, ii1, ii2, ii3, ii4, if_true, if_false, ne_eq, not_false_eq_true, not_true_eq_false, true_and, and_true, false_and, and_false, and_self, true_or, or_true, false_or, or_false, or_self, Nat.reduceAdd, Nat.reduceLT, Nat.reduceLeDiff, Nat.succ_ne_zero, reduceIte, reduceCtorEq]
  · obtain ⟨JX, V1, V2, V3, V4, V5, V6⟩ := x_vanish (J := JA) (τ := τ) h hb
    refine ⟨JX, ?_, fun v y1 y2 y3 y4 => by rw [V2 v y3 y4, fA v y1 y2 y3 y4], by rw [V2 _ (by omega) (by omega)]; exact fa1, fun k y => by rw [V2 _ (by omega) (by omega)]; exact fak k y, fun k y => by rw [V2 _ (by omega) (by omega)]; exact fau k y, Or.inr ⟨c, V3, V4, by rw [V5 2 (by decide) (by decide)]; exact fb2, fun k y1 y2 y3 => by rw [V5 k y1 y2]; exact fbk k y2 y3, V6⟩⟩
    rw [hJA] at V1
    obtain ⟨hj, hl, hx, ⟨hm22, hm23⟩, hr⟩ := h; obtain ⟨hx0, hx1, hx2, hx3, hx4, hx5, hx6, hx7, hx8, hx9, hx10, hx11, hx12, hx13, hx14, hx15, hx16, hx17, hx18, hx19, hx20, hx21, hx22, hx23, hx24, hx25, hx26, hx27⟩ := hx; obtain ⟨⟨g1, g2⟩, r1, r2, r3, r4, r5, r6, r7⟩ := hr
    simp (config := {decide := true}) only [f_X1_takeUnits, b_X1_takeUnits_0, l_X1_takeUnits_5, itr_40, itr_39, itr_38, itr_37, itr_36, b_X1_takeUnits_5, b_X1_takeUnits_109, gI_pt hj, gR_pt hj, ob_pt hj, pI_pt hj, pB_pt hj, pR_pt hj, aI_pt hj, aR_pt hj, wI_pt hj, aL_pt hj, cl1_s, cl1_n, cl1_i, nul_n, nul_s, nm, dv2, dv3, dv4, dv5, dv8, dv10, dv20, dv40, bo, mI_pt hj, mT_pt hj, mZ_pt, tn0, tn1, tn2, tn3, tn4, tn5, tn6, mnE, t0, t1, t2, t3, hx15 a ha, hx15 b hb, hx16 a ha, hx16 b hb, hx19 a ha, hx19 b hb, up2_row e1, up2_row e2, up2_row e3, up2_row e4, up2_row e5, up2_row e6, up2_row e7, up2_k, up2_at, c, V1, ii0, ii1, ii2, ii3, ii4, if_true, if_false, ne_eq, not_false_eq_true, not_true_eq_false, true_and, and_true, false_and, and_false, and_self, true_or, or_true, false_or, or_false, or_self, Nat.reduceAdd, Nat.reduceLT, Nat.reduceLeDiff, Nat.succ_ne_zero, reduceIte, reduceCtorEq]
def ntV (I : Nat → Nat → Int32) (i j : Nat) (u w : Int32) (k : Nat) : Int32 := (NV I i k * u + NV I j k * w) / (u + w)
noncomputable def mxEnd (a0 : Nat) (p2 p4 : Int32) (r5 r6 r7 : Option Nat) (σ : Mem) : Option (Int32 × Mem) :=
  ob 1 σ r7 fun h29 => cl1 (f_X1_takeUnits h29 r5 p2 σ) fun _ σ28 => ob 1 σ28 r7 fun h32 => cl1 (f_X1_takeUnits h32 r6 p4 σ28) fun _ σ31 => gI 4 4 σ31 (some a0) fun v33 => nm (v33 - 1) fun v34 => some (v34, σ31)
theorem x_mixL (h : Cx φ T I R z nS nL n) (hi : i < 17) (hj7 : j < 17) (hg : g < 17) (n1 : i ≠ g) (n2 : j ≠ g) (f1 : J (6 * i + 19) = I (6 * i + 19)) (f2 : J (6 * i + 21) = I (6 * i + 21)) (f3 : J (6 * j + 19) = I (6 * j + 19)) (f4 : J (6 * j + 21) = I (6 * j + 21)) (hz : u + w ≠ 0) :
    l_X4_mix_134 40 (φ 0) u w (some (φ (6 * i + 19))) (some (φ (6 * j + 19))) (some (φ (6 * g + 19))) (u + w) 0 (pt φ T J R τ) = mxEnd (φ 0) u w (some (φ (6 * i + 19))) (some (φ (6 * j + 19))) (some (φ (6 * g + 19))) (pt φ T (up2 (up2 (up2 J (6 * g + 21) 0 (ntV I i j u w 0)) (6 * g + 21) 1 (ntV I i j u w 1)) (6 * g + 21) 2 (ntV I i j u w 2)) R τ) := by
  have q1 : 6 * i + 19 ≠ 6 * g + 21 := by omega
  have q2 : 6 * i + 21 ≠ 6 * g + 21 := by omega
  have q3 : 6 * j + 19 ≠ 6 * g + 21 := by omega
  have q4 : 6 * j + 21 ≠ 6 * g + 21 := by omega
  have A0 : f_X1_noteOf (φ (6 * i + 19)) 0 (pt φ T J R τ) = some (NV I i 0, pt φ T J R τ) := x_noteJ (k := 0) h hi f1 f2 (by decide)
  have B0 : f_X1_noteOf (φ (6 * j + 19)) 0 (pt φ T J R τ) = some (NV I j 0, pt φ T J R τ) := x_noteJ (k := 0) h hj7 f3 f4 (by decide)
  have A1 : ∀ y, f_X1_noteOf (φ (6 * i + 19)) 1 (pt φ T (up2 J (6 * g + 21) 0 y) R τ) = some (NV I i 1, pt φ T (up2 J (6 * g + 21) 0 y) R τ) := fun y => x_noteJ (k := 1) h hi ((up2_row q1).trans f1) ((up2_row q2).trans f2) (by decide)
  have B1 : ∀ y, f_X1_noteOf (φ (6 * j + 19)) 1 (pt φ T (up2 J (6 * g + 21) 0 y) R τ) = some (NV I j 1, pt φ T (up2 J (6 * g + 21) 0 y) R τ) := fun y => x_noteJ (k := 1) h hj7 ((up2_row q3).trans f3) ((up2_row q4).trans f4) (by decide)
  have A2 : ∀ y z, f_X1_noteOf (φ (6 * i + 19)) 2 (pt φ T (up2 (up2 J (6 * g + 21) 0 y) (6 * g + 21) 1 z) R τ) = some (NV I i 2, pt φ T (up2 (up2 J (6 * g + 21) 0 y) (6 * g + 21) 1 z) R τ) := fun y z => x_noteJ (k := 2) h hi (((up2_row q1).trans (up2_row q1)).trans f1) (((up2_row q2).trans (up2_row q2)).trans f2) (by decide)
  have B2 : ∀ y z, f_X1_noteOf (φ (6 * j + 19)) 2 (pt φ T (up2 (up2 J (6 * g + 21) 0 y) (6 * g + 21) 1 z) R τ) = some (NV I j 2, pt φ T (up2 (up2 J (6 * g + 21) 0 y) (6 * g + 21) 1 z) R τ) := fun y z => x_noteJ (k := 2) h hj7 (((up2_row q3).trans (up2_row q3)).trans f3) (((up2_row q4).trans (up2_row q4)).trans f4) (by decide)
  obtain ⟨hj, hl, hx, ⟨hm22, hm23⟩, hr⟩ := h; obtain ⟨hx0, hx1, hx2, hx3, hx4, hx5, hx6, hx7, hx8, hx9, hx10, hx11, hx12, hx13, hx14, hx15, hx16, hx17, hx18, hx19, hx20, hx21, hx22, hx23, hx24, hx25, hx26, hx27⟩ := hx; obtain ⟨⟨g1, g2⟩, r1, r2, r3, r4, r5, r6, r7⟩ := hr
  have ti := hx15 i hi
  have tj := hx15 j hj7
  have tg := hx15 g hg
  have rg := hx17 g hg
  have tg1 := hx20 g hg
  rw [mxEnd]
  simp only [ntV]
  simp (config := {decide := true}) only [l_X4_mix_134, itr_40, itr_39, itr_38, itr_37, b_X4_mix_134, A0, B0, A1, B1, A2, B2, dv_c hz, gI_pt hj, gR_pt hj, ob_pt hj, pI_pt hj, pB_pt hj, pR_pt hj, aI_pt hj, aR_pt hj, wI_pt hj, aL_pt hj, cl1_s, cl1_n, cl1_i, nul_n, nul_s, nm, dv2, dv3, dv4, dv5, dv8, dv10, dv20, dv40, bo, mI_pt hj, mT_pt hj, mZ_pt, tn0, tn1, tn2, tn3, tn4, tn5, tn6, ti, tj, tg, rg, tg1, ii0, ii1, ii2, ii3, ii4, if_true, if_false, ne_eq, not_false_eq_true, not_true_eq_false, true_and, and_true, false_and, and_false, and_self, true_or, or_true, false_or, or_false, or_self, Nat.reduceAdd, Nat.reduceLT, Nat.reduceLeDiff, Nat.succ_ne_zero, reduceIte, reduceCtorEq]
theorem Tk.congr {f f' : Nat → Int32} (h : Tk f cn t) (e : ∀ k, k < 4 → f' k = f k) : Tk f' cn t := by
  obtain ⟨a, b, c, d⟩ := h
  exact ⟨by rw [e 0 (by omega)]; exact a, by rw [e 1 (by omega)]; exact b, by rw [e 2 (by omega)]; exact c, by rw [e 3 (by omega)]; exact d⟩
/-- the note of a mix is between those of both -/
theorem nt_mm {x y u w : Int32} (hx : 0 ≤ x.toInt ∧ x.toInt ≤ 9) (hy : 0 ≤ y.toInt ∧ y.toInt ≤ 9) (hu : 1 ≤ u.toInt ∧ u.toInt ≤ 5760) (hw : 1 ≤ w.toInt ∧ w.toInt ≤ 5760) : (0 ≤ ((x * u + y * w) / (u + w)).toInt ∧ ((x * u + y * w) / (u + w)).toInt ≤ 9) ∧ (x.toInt ≤ ((x * u + y * w) / (u + w)).toInt ∨ y.toInt ≤ ((x * u + y * w) / (u + w)).toInt) ∧ (((x * u + y * w) / (u + w)).toInt ≤ x.toInt ∨ ((x * u + y * w) / (u + w)).toInt ≤ y.toInt) := by
  have a0 : x.toInt * u.toInt ≤ 9 * u.toInt := Int.mul_le_mul_of_nonneg_right hx.2 (by omega)
  have a1 : 0 ≤ x.toInt * u.toInt := Int.mul_nonneg hx.1 (by omega)
  have b0 : y.toInt * w.toInt ≤ 9 * w.toInt := Int.mul_le_mul_of_nonneg_right hy.2 (by omega)
  have b1 : 0 ≤ y.toInt * w.toInt := Int.mul_nonneg hy.1 (by omega)
  have e1 : (x * u).toInt = x.toInt * u.toInt := tMul (by omega) (by omega)
  have e2 : (y * w).toInt = y.toInt * w.toInt := tMul (by omega) (by omega)
  have e3 : (x * u + y * w).toInt = x.toInt * u.toInt + y.toInt * w.toInt := by rw [tAdd (by omega) (by omega), e1, e2]
  have e4 : (u + w).toInt = u.toInt + w.toInt := tAdd (by omega) (by omega)
  have nn : 0 ≤ (x * u + y * w).toInt := by omega
  have q1 : 0 ≤ (x * u + y * w).toInt / (u + w).toInt := Int.ediv_nonneg nn (by omega)
  have q2 : (x * u + y * w).toInt / (u + w).toInt ≤ 9 := Int.ediv_le_of_le_mul (by omega) (by omega)
  have e5 : ((x * u + y * w) / (u + w)).toInt = (x * u + y * w).toInt / (u + w).toInt := by
    rw [Int32.toInt_div, Int.tdiv_eq_ediv_of_nonneg nn]
    exact Int.bmod_eq_of_le (by omega) (by omega)
  rw [e5]
  refine ⟨⟨q1, q2⟩, ?_, ?_⟩
  · rcases Int.le_total x.toInt y.toInt with c | c
    · left
      have m : x.toInt * w.toInt ≤ y.toInt * w.toInt := Int.mul_le_mul_of_nonneg_right c (by omega)
      have d : x.toInt * (u.toInt + w.toInt) = x.toInt * u.toInt + x.toInt * w.toInt := Int.mul_add _ _ _
      exact Int.le_ediv_of_mul_le (by omega) (by rw [e4, e3, d]; omega)
    · right
      have m : y.toInt * u.toInt ≤ x.toInt * u.toInt := Int.mul_le_mul_of_nonneg_right c (by omega)
      have d : y.toInt * (u.toInt + w.toInt) = y.toInt * u.toInt + y.toInt * w.toInt := Int.mul_add _ _ _
      exact Int.le_ediv_of_mul_le (by omega) (by rw [e4, e3, d]; omega)
  · rcases Int.le_total x.toInt y.toInt with c | c
    · right
      have m : x.toInt * u.toInt ≤ y.toInt * u.toInt := Int.mul_le_mul_of_nonneg_right c (by omega)
      have d : y.toInt * (u.toInt + w.toInt) = y.toInt * u.toInt + y.toInt * w.toInt := Int.mul_add _ _ _
      exact Int.ediv_le_of_le_mul (by omega) (by rw [e4, e3, d]; omega)
    · left
      have m : y.toInt * w.toInt ≤ x.toInt * w.toInt := Int.mul_le_mul_of_nonneg_right c (by omega)
      have d : x.toInt * (u.toInt + w.toInt) = x.toInt * u.toInt + x.toInt * w.toInt := Int.mul_add _ _ _
      exact Int.ediv_le_of_le_mul (by omega) (by rw [e4, e3, d]; omega)
/-- a lot of which some is taken -/
def Less (x x' xu xu' : Nat → Int32) (cn : Int32) (t : Nat → Int32) : Prop :=
  (0 < x 1 - cn ∧ x' 1 = x 1 - cn ∧ x' 2 = mn (x 1 - cn) (x 2) ∧ (∀ k, k ≠ 1 → k ≠ 2 → x' k = x k) ∧ (∀ k, k < 4 → xu' k = xu k - t k)) ∨
  (¬ 0 < x 1 - cn ∧ x' 0 = 3 ∧ x' 1 = 0 ∧ x' 2 = mn (x 1 - cn) (x 2) ∧ (∀ k, k ≠ 0 → k ≠ 1 → k ≠ 2 → x' k = x k) ∧ (∀ k, k < 4 → xu' k = 0))
theorem LotR.less {nS : Nat} {x xu xn xa xp x' xu' : Nat → Int32} (h : LotR nS x xu xn xa xp n) (hx0 : x 0 = 2) (hxa : xa 0 = 0) (ht : Tk xu cn t) (c1 : 1 ≤ cn.toInt) (c2 : cn.toInt ≤ (x 1).toInt) (c3 : (x 1).toInt ≤ 5760) (DX : Less x x' xu xu' cn t) : LotR nS x' xu' xn xa xp n ∧ x' 1 = x 1 - cn ∧ (x 1 - cn).toInt = (x 1).toInt - cn.toInt := by
  have z : (0 : Int32).toInt = 0 := rfl
  obtain ⟨q1, q2, ⟨q3a, q3b, q3c⟩, q4, q5, q6, q7, q8, q9, q10, q11⟩ := h
  have u0 := q3a 0 (by omega); have u1 := q3a 1 (by omega); have u2 := q3a 2 (by omega); have u3 := q3a 3 (by omega)
  obtain ⟨g, sm, df⟩ := tk_b ht u0 u1 u2 u3 (by omega) (by omega) (by omega)
  have dT : (x 1 - cn).toInt = (x 1).toInt - cn.toInt := tSub (by omega) (by omega)
  have mb := mn_b (a := x 1 - cn) (b := x 2)
  have ne3 : x 0 ≠ 3 := by rw [hx0]; decide
  rcases DX with ⟨d0, X1, X2, Xk, Xu⟩ | ⟨d0, X0, X1, X2, Xk, Xu⟩
  · have d0' := ltT d0
    rw [z] at d0'
    refine ⟨?_, X1, dT⟩
    unfold LotR
    rw [X1, X2, Xk 0 (by decide) (by decide), Xk 3 (by decide) (by decide), Xk 4 (by decide) (by decide), Xk 5 (by decide) (by decide), Xk 6 (by decide) (by decide), Xk 7 (by decide) (by decide), Xk 8 (by decide) (by decide), Xk 9 (by decide) (by decide), Xk 10 (by decide) (by decide), Xk 11 (by decide) (by decide), Xk 12 (by decide) (by decide), Xu 0 (by omega), Xu 1 (by omega), Xu 2 (by omega), Xu 3 (by omega)]
    have g0 := g 0 (by omega); have g1 := g 1 (by omega); have g2 := g 2 (by omega); have g3 := g 3 (by omega)
    have d0 := df 0 (by omega); have d1 := df 1 (by omega); have d2 := df 2 (by omega); have d3 := df 3 (by omega)
    refine ⟨q1, q2, ⟨fun k hk => ?_, by omega, fun k y1 y2 => ?_⟩, ⟨fun q => absurd q ne3, fun _ => by omega⟩, ⟨by omega, fun _ => by omega⟩, q6, q7, q8, q9, q10, q11⟩
    · rw [Xu k hk, df k hk]; have := g k hk; omega
    · rw [Xu k y2]
      have g' := g k y2
      have d' := df k y2
      have e := q3c k y1 y2
      rw [e] at g' d' ⊢
      exact Int32.toInt_inj.mp (by rw [d', z]; omega)
  · have d0' : (x 1 - cn).toInt ≤ 0 := by
      have := leT (Int32.not_lt.mp d0); rw [z] at this; exact this
    have dz : x 1 - cn = 0 := Int32.toInt_inj.mp (by rw [z]; omega)
    refine ⟨?_, by rw [X1, dz], dT⟩
    unfold LotR
    rw [X0, X1, X2, Xk 3 (by decide) (by decide) (by decide), Xk 4 (by decide) (by decide) (by decide), Xk 5 (by decide) (by decide) (by decide), Xk 6 (by decide) (by decide) (by decide), Xk 7 (by decide) (by decide) (by decide), Xk 8 (by decide) (by decide) (by decide), Xk 9 (by decide) (by decide) (by decide), Xk 10 (by decide) (by decide) (by decide), Xk 11 (by decide) (by decide) (by decide), Xk 12 (by decide) (by decide) (by decide), Xu 0 (by omega), Xu 1 (by omega), Xu 2 (by omega), Xu 3 (by omega)]
    refine ⟨by simp, q2, ⟨fun k hk => by rw [Xu k hk]; decide, rfl, fun k _ hk => Xu k hk⟩, ⟨fun _ => rfl, fun q => absurd rfl q⟩, ⟨by omega, fun q => absurd rfl q⟩, q6, q7, ⟨q8.1, fun q => by rcases q with q | q <;> exact absurd q (by decide)⟩, q9, ⟨by rw [hxa]; decide, by rw [hxa]; decide, fun q => absurd hxa q⟩, q11⟩
theorem x_dif (σ : Mem) (h : p ≠ q) : f_X4_requireDifferent p q σ = some ((), σ) := by
  simp (config := {decide := true}) only [b_X4_requireDifferent_0, f_X4_requireDifferent, h, ii0, ii1, ii2, ii3, ii4, if_true, if_false, ne_eq, not_false_eq_true, not_true_eq_false, true_and, and_true, false_and, and_false, and_self, true_or, or_true, false_or, or_false, or_self, Nat.reduceAdd, Nat.reduceLT, Nat.reduceLeDiff, Nat.succ_ne_zero, reduceIte, reduceCtorEq]
set_option maxHeartbeats 16000000 in
theorem x_mixF (h : Cx φ T I R (mZ τ) nS nL n) (iL : i < nL) (jL : j < nL) (hne : i ≠ j) (hL : nL < 16) (si : I (6 * i + 19) 0 = 2) (sj : I (6 * j + 19) 0 = 2) (ai : I (6 * i + 22) 0 ≤ 0) (aj : I (6 * j + 22) 0 ≤ 0) (hu : 1 ≤ u ∧ u ≤ I (6 * i + 19) 1) (hw : 1 ≤ w ∧ w ≤ I (6 * j + 19) 1) :
    ∃ J', f_X4_mix (φ 0) (Int32.ofNat i) u (Int32.ofNat j) w (pt φ T I R τ) = some (Int32.ofNat nL, pt φ T J' R τ) ∧ Cx φ T J' R (mZ τ) nS (nL + 1) (n + 1) ∧ J' (6 * nL + 19) 0 = 2 ∧ J' (6 * nL + 19) 1 = u + w ∧ J' (6 * i + 19) 1 = I (6 * i + 19) 1 - u ∧ (∀ k, k < 3 → NV J' nL k = ntV I i j u w k) ∧ (∀ k, k ≠ 4 → J' 0 k = I 0 k) ∧ J' 10 = I 10 := by
  have hN := h.m.2.2.2.2.1
  have hS4 := h.m.2.2.2.2.2.1
  have hj := h.hj
  have hx0 := h.m.2.2.2.2.2.2.2
  have z0 : (0 : Int32).toInt = 0 := rfl
  have z1 : (1 : Int32).toInt = 1 := rfl
  have di := h.dry iL; have dj := h.dry jL
  have hu1 := leT hu.1; have hu2 := leT hu.2; have hw1 := leT hw.1; have hw2 := leT hw.2
  have Li := h.lr iL; have Lj := h.lr jL
  have ai0 : I (6 * i + 22) 0 = 0 := by
    have y1 := leT ai; have y2 := (h.lr iL).2.2.2.2.2.2.2.2.2.1.1
    exact Int32.toInt_inj.mp (by rw [z0]; omega)
  have aj0 : I (6 * j + 22) 0 = 0 := by
    have y1 := leT aj; have y2 := (h.lr jL).2.2.2.2.2.2.2.2.2.1.1
    exact Int32.toInt_inj.mp (by rw [z0]; omega)
  obtain ⟨t0, r3, t2, m4, rl, rw', bl'⟩ := h.lots
  obtain ⟨rai, tbi, tai⟩ := rw' i (by omega)
  obtain ⟨raj, tbj, taj⟩ := rw' j (by omega)
  obtain ⟨rag, tbg, tag⟩ := rw' nL (by omega)
  have Ai := x_lotAt h (InN.of iL (by omega)) (tnK (by omega))
  have Aj := x_lotAt h (InN.of jL (by omega)) (tnK (by omega))
  have Fi : f_X1_isFreeMade (φ (6 * i + 19)) (pt φ T I R τ) = some (1, pt φ T I R τ) := by
    rcases x_free (τ := τ) h (show i < 17 by omega) with ⟨-, -, y⟩ | ⟨y, -⟩
    · exact y
    · exact absurd ⟨si, ai⟩ y
  have Fj : f_X1_isFreeMade (φ (6 * j + 19)) (pt φ T I R τ) = some (1, pt φ T I R τ) := by
    rcases x_free (τ := τ) h (show j < 17 by omega) with ⟨-, -, y⟩ | ⟨y, -⟩
    · exact y
    · exact absurd ⟨sj, aj⟩ y
  have D := x_dif (p := Int32.ofNat i) (q := Int32.ofNat j) (pt φ T I R τ) (by rw [ne_eq, kN_eq (by omega) (by omega)]; exact hne)
  have N := x_newL (J := I) (R := R) (τ := τ) hj t0 r3 t2 m4 hL (rl nL hL)
  -- the new lot
  obtain ⟨tt, htt, httb⟩ : ∃ tt : Int32, tt = (if I (6 * i + 19) 11 = 0 then (if I (6 * j + 19) 11 = 0 then 0 else 1) else 1) ∧ (tt = 0 ∨ tt = 1) := ⟨_, rfl, by split <;> (try split) <;> simp⟩
  obtain ⟨J1, hJ1⟩ : ∃ J1, J1 = up2 (up2 (up2 (up2 I 0 4 (Int32.ofNat (nL + 1))) (6 * nL + 19) 0 2) (6 * nL + 19) 12 1) (6 * nL + 19) 11 tt := ⟨_, rfl⟩
  have a1 : ∀ v, v ≠ 0 → v ≠ 6 * nL + 19 → J1 v = I v := fun v y1 y2 => by rw [hJ1, up2_row y2, up2_row y2, up2_row y2, up2_row y1]
  have z : u + w ≠ 0 := by
    intro q
    have e4 : (u + w).toInt = u.toInt + w.toInt := tAdd (by omega) (by omega)
    rw [q, z0] at e4; omega
  have ML := x_mixL (J := J1) (τ := τ) (u := u) (w := w) (g := nL) h (show i < 17 by omega) (show j < 17 by omega) (show nL < 17 by omega) (show i ≠ nL by omega) (show j ≠ nL by omega) (a1 _ (by omega) (by omega)) (a1 _ (by omega) (by omega)) (a1 _ (by omega) (by omega)) (a1 _ (by omega) (by omega)) z
  obtain ⟨J2, hJ2⟩ : ∃ J2, J2 = up2 (up2 (up2 J1 (6 * nL + 21) 0 (ntV I i j u w 0)) (6 * nL + 21) 1 (ntV I i j u w 1)) (6 * nL + 21) 2 (ntV I i j u w 2) := ⟨_, rfl⟩
  rw [← hJ2] at ML
  have a2 : ∀ v, v ≠ 0 → v ≠ 6 * nL + 19 → v ≠ 6 * nL + 21 → J2 v = I v := fun v y1 y2 y3 => by rw [hJ2, up2_row y3, up2_row y3, up2_row y3, a1 v y1 y2]
  have n2 : ∀ k, k < 3 → J2 (6 * nL + 21) k = ntV I i j u w k := fun k hk => by
    rw [hJ2]
    rcases (show k = 0 ∨ k = 1 ∨ k = 2 by omega) with rfl | rfl | rfl <;> simp (disch := omega) only [up2_k, up2_at]
  have g2 : ∀ k, J2 (6 * nL + 19) k = J1 (6 * nL + 19) k := fun k => by rw [hJ2, up2_row (by omega), up2_row (by omega), up2_row (by omega)]
  have o2 : ∀ k, J2 0 k = J1 0 k := fun k => by rw [hJ2, up2_row (by omega), up2_row (by omega), up2_row (by omega)]
  obtain ⟨t, ht⟩ := tk_ex (I (6 * i + 20)) u
  obtain ⟨J3, T1, T2, T3, T4, T5, T6⟩ := x_take (J := J2) (τ := τ) (cn := u) (t := t) h (show nL < 17 by omega) (show i < 17 by omega) (show nL ≠ i by omega) (by rw [a2 _ (by omega) (by omega) (by omega)]; exact ht)
  rw [a2 (6 * i + 19) (by omega) (by omega) (by omega), a2 (6 * i + 20) (by omega) (by omega) (by omega)] at T6
  have a3 : ∀ v, v ≠ 0 → v ≠ 6 * nL + 19 → v ≠ 6 * nL + 20 → v ≠ 6 * nL + 21 → v ≠ 6 * i + 19 → v ≠ 6 * i + 20 → J3 v = I v := fun v y1 y2 y3 y4 y5 y6 => by rw [T2 v y2 y3 y5 y6, a2 v y1 y2 y4]
  obtain ⟨t', ht'⟩ := tk_ex (I (6 * j + 20)) w
  obtain ⟨J4, U1, U2, U3, U4, U5, U6⟩ := x_take (J := J3) (τ := τ) (cn := w) (t := t') h (show nL < 17 by omega) (show j < 17 by omega) (show nL ≠ j by omega) (by rw [a3 _ (by omega) (by omega) (by omega) (by omega) (by omega) (by omega)]; exact ht')
  rw [a3 (6 * j + 19) (by omega) (by omega) (by omega) (by omega) (by omega) (by omega), a3 (6 * j + 20) (by omega) (by omega) (by omega) (by omega) (by omega) (by omega)] at U6
  have a4 : ∀ v, v ≠ 0 → v ≠ 6 * nL + 19 → v ≠ 6 * nL + 20 → v ≠ 6 * nL + 21 → v ≠ 6 * i + 19 → v ≠ 6 * i + 20 → v ≠ 6 * j + 19 → v ≠ 6 * j + 20 → J4 v = I v := fun v y1 y2 y3 y4 y5 y6 y7 y8 => by rw [U2 v y2 y3 y7 y8, a3 v y1 y2 y3 y4 y5 y6]
  have i4 : J4 (6 * i + 19) = J3 (6 * i + 19) ∧ J4 (6 * i + 20) = J3 (6 * i + 20) := ⟨U2 _ (by omega) (by omega) (by omega) (by omega), U2 _ (by omega) (by omega) (by omega) (by omega)⟩
  have o4 : ∀ k, J4 0 k = J1 0 k := fun k => by rw [U2 0 (by omega) (by omega) (by omega) (by omega), T2 0 (by omega) (by omega) (by omega) (by omega), o2]
  have o1 : ∀ k, J1 0 k = if k = 4 then Int32.ofNat (nL + 1) else I 0 k := fun k => by
    rw [hJ1, up2_row (by omega), up2_row (by omega), up2_row (by omega)]
    by_cases c : k = 4
    · rw [if_pos c, c, up2_at]
    · rw [if_neg c, up2_k c]
  have g4 : ∀ k, k ≠ 1 → J4 (6 * nL + 19) k = J1 (6 * nL + 19) k := fun k hk => by rw [U4 k hk, T4 k hk, g2]
  have B := bl' nL (Nat.le_refl _) hL
  obtain ⟨v0, v1, v2, v3, v4, v5, v6, v7, v8, v9, v10, v11, v12⟩ := LotB.zz B
  obtain ⟨-, B2, B3, B4, B5⟩ := B
  have h1g : ∀ k, k ≠ 0 → k ≠ 12 → k ≠ 11 → J1 (6 * nL + 19) k = I (6 * nL + 19) k := fun k y1 y2 y3 => by rw [hJ1, up2_k y3, up2_k y2, up2_k y1, up2_row (by omega)]
  have h10 : J1 (6 * nL + 19) 0 = 2 := by rw [hJ1, up2_k (by decide), up2_k (by decide), up2_at]
  have h112 : J1 (6 * nL + 19) 12 = 1 := by rw [hJ1, up2_k (by decide), up2_at]
  have h111 : J1 (6 * nL + 19) 11 = tt := by rw [hJ1, up2_at]
  have gd : J4 (6 * nL + 19) 1 = u + w := by rw [U3, T3, g2, h1g 1 (by decide) (by decide) (by decide), v1, Int32.zero_add]
  have gu : ∀ k, k < 4 → J4 (6 * nL + 20) k = t k + t' k := fun k hk => by rw [U5 k hk, T5 k hk, a2 _ (by omega) (by omega) (by omega), B2 k hk, Int32.zero_add]
  have gn : ∀ k, k < 3 → J4 (6 * nL + 21) k = ntV I i j u w k := fun k hk => by rw [U2 _ (by omega) (by omega) (by omega) (by omega), T2 _ (by omega) (by omega) (by omega) (by omega), n2 k hk]
  obtain ⟨Ri, Di, Ei⟩ := LotR.less (x' := J3 (6 * i + 19)) (xu' := J3 (6 * i + 20)) Li si ai0 ht (by omega) (by omega) di.2 T6
  obtain ⟨Rj, Dj, Ej⟩ := LotR.less (x' := J4 (6 * j + 19)) (xu' := J4 (6 * j + 20)) Lj sj aj0 ht' (by omega) (by omega) dj.2 U6
  obtain ⟨-, -, ⟨ui, uis, uiz⟩, -⟩ := h.lr iL
  obtain ⟨-, -, ⟨uj, ujs, ujz⟩, -⟩ := h.lr jL
  have ui0 := ui 0 (by omega); have ui1 := ui 1 (by omega); have ui2 := ui 2 (by omega); have ui3 := ui 3 (by omega)
  have uj0 := uj 0 (by omega); have uj1 := uj 1 (by omega); have uj2 := uj 2 (by omega); have uj3 := uj 3 (by omega)
  obtain ⟨b1, s1, -⟩ := tk_b ht ui0 ui1 ui2 ui3 (by omega) (by omega) (by omega)
  obtain ⟨b2, s2, -⟩ := tk_b ht' uj0 uj1 uj2 uj3 (by omega) (by omega) (by omega)
  have e4 : (u + w).toInt = u.toInt + w.toInt := tAdd (by omega) (by omega)
  have tb : ∀ k, k < 4 → (t k).toInt ≤ 5760 ∧ (t' k).toInt ≤ 5760 := fun k hk => by
    have y1 := b1 0 (by omega); have y2 := b1 1 (by omega); have y3 := b1 2 (by omega); have y4 := b1 3 (by omega)
    have y5 := b2 0 (by omega); have y6 := b2 1 (by omega); have y7 := b2 2 (by omega); have y8 := b2 3 (by omega)
    rcases (show k = 0 ∨ k = 1 ∨ k = 2 ∨ k = 3 by omega) with rfl | rfl | rfl | rfl <;> omega
  have ts : ∀ k, k < 4 → (t k + t' k).toInt = (t k).toInt + (t' k).toInt := fun k hk => by
    have y1 := b1 k hk; have y2 := b2 k hk; have y3 := tb k hk
    exact tAdd (by omega) (by omega)
  have NB := fun k (hk : k < 3) => nt_mm (u := u) (w := w) (NV_b h iL hk) (NV_b h jL hk) ⟨by omega, by omega⟩ ⟨by omega, by omega⟩
  have LG : LotR nS (J4 (6 * nL + 19)) (J4 (6 * nL + 20)) (J4 (6 * nL + 21)) (J4 (6 * nL + 22)) (J4 (6 * nL + 23)) (n + 1) := by
    rw [a4 (6 * nL + 22) (by omega) (by omega) (by omega) (by omega) (by omega) (by omega) (by omega) (by omega), a4 (6 * nL + 23) (by omega) (by omega) (by omega) (by omega) (by omega) (by omega) (by omega) (by omega)]
    unfold LotR
    rw [gd, g4 0 (by decide), g4 2 (by decide), g4 3 (by decide), g4 4 (by decide), g4 5 (by decide), g4 6 (by decide), g4 7 (by decide), g4 8 (by decide), g4 9 (by decide), g4 10 (by decide), g4 11 (by decide), g4 12 (by decide), h10, h111, h112, h1g 2 (by decide) (by decide) (by decide), h1g 3 (by decide) (by decide) (by decide), h1g 4 (by decide) (by decide) (by decide), h1g 5 (by decide) (by decide) (by decide), h1g 6 (by decide) (by decide) (by decide), h1g 7 (by decide) (by decide) (by decide), h1g 8 (by decide) (by decide) (by decide), h1g 9 (by decide) (by decide) (by decide), h1g 10 (by decide) (by decide) (by decide), v2, v3, v4, v5, v6, v7, v8, v9, v10, B4, gu 0 (by omega), gu 1 (by omega), gu 2 (by omega), gu 3 (by omega), e4, ts 0 (by omega), ts 1 (by omega), ts 2 (by omega), ts 3 (by omega), z0]
    refine ⟨by simp, ⟨Or.inl rfl, httb, Or.inr rfl⟩, ⟨fun k hk => ?_, by omega, fun k y1 y2 => ?_⟩, ⟨fun q => absurd q (by decide), fun _ => by omega⟩, ⟨by omega, fun _ => by omega⟩, ⟨by omega, by omega⟩, ⟨⟨by omega, by omega⟩, ⟨by omega, by omega⟩, ⟨by omega, by omega⟩, ⟨by omega, by omega⟩, ⟨by omega, by omega⟩⟩, ⟨Or.inl rfl, fun _ => rfl⟩, fun _ k hk => ?_, ⟨by omega, by omega, fun q => absurd rfl q⟩, fun k hk => ?_⟩
    · rw [gu k hk, ts k hk]; have y1 := b1 k hk; have y2 := b2 k hk; omega
    · rw [gu k y2]
      have x1 := b1 k y2; have x2 := b2 k y2
      rw [uiz k y1 y2] at x1; rw [ujz k y1 y2] at x2
      exact Int32.toInt_inj.mp (by rw [ts k y2, z0]; omega)
    · rw [gn k hk]; exact (NB k hk).1
    · rw [B5 k hk]; exact ⟨by decide, by decide, fun _ => rfl⟩
  have ds : dryS J4 (nL + 1) = dryS I nL := by
    have p1 : sumZ (fun k => if k = i then (I (6 * i + 19) 1).toInt - u.toInt else (I (6 * k + 19) 1).toInt) nL = dryS I nL - u.toInt := by
      unfold dryS
      exact sumZ_upd iL (fun k hk hne => by simp only [if_neg hne]) (by simp only [if_true])
    have p2 : sumZ (fun k => (J4 (6 * k + 19) 1).toInt) nL = dryS I nL - u.toInt - w.toInt := by
      rw [← p1]
      refine sumZ_upd jL (fun k hk hne => ?_) ?_
      · show (J4 (6 * k + 19) 1).toInt = if k = i then (I (6 * i + 19) 1).toInt - u.toInt else (I (6 * k + 19) 1).toInt
        by_cases c : k = i
        · subst c; rw [if_pos rfl, i4.1, Di, Ei]
        · rw [if_neg c, a4 (6 * k + 19) (by omega) (by omega) (by omega) (by omega) (by omega) (by omega) (by omega) (by omega)]
      · show (J4 (6 * j + 19) 1).toInt = (if j = i then (I (6 * i + 19) 1).toInt - u.toInt else (I (6 * j + 19) 1).toInt) - w.toInt
        rw [if_neg (fun q => hne q.symm), Dj, Ej]
    unfold dryS at p2 ⊢
    rw [sumZ_succ, p2]
    show _ + (J4 (6 * nL + 19) 1).toInt = _
    rw [gd, e4]; omega
  have j0 : ∀ k, k ≠ 4 → J4 0 k = I 0 k := fun k hk => by rw [o4, o1, if_neg hk]
  have r1 : ¬ u < 1 := fun q => by have := ltT q; omega
  have r2 : ¬ I (6 * i + 19) 1 < u := fun q => by have := ltT q; omega
  have r3' : ¬ w < 1 := fun q => by have := ltT q; omega
  have r4 : ¬ I (6 * j + 19) 1 < w := fun q => by have := ltT q; omega
  have far : ∀ v, v ≠ 0 → (v < 19 ∨ 115 ≤ v ∨ (v - 19) % 6 = 3 ∨ (v - 19) % 6 = 4) → J4 v = I v := fun v y1 y2 => a4 v y1 (by omega) (by omega) (by omega) (by omega) (by omega) (by omega) (by omega)
  refine ⟨J4, ?_, ⟨h.1, h.2.1, h.2.2.1, ⟨hS4, by omega⟩, ⟨?_, ?_⟩, fun k hk => ?_, fun k y1 y2 => ?_, fun k hk => ?_, fun k y1 y2 => ?_, fun k hk => ?_, ?_, ?_⟩, by rw [g4 0 (by decide), h10], gd, by rw [i4.1]; exact Di, fun k hk => ?_, j0, far 10 (by omega) (by omega)⟩
  · have q0 : (T 0).1 = 4 + 1 := by rw [t0]
    have qi : (T (6 * i + 19)).1 = 1 + 1 := by rw [tai]
    have qj : (T (6 * j + 19)).1 = 1 + 1 := by rw [taj]
    have qg : (T (6 * nL + 19)).1 = 1 + 1 := by rw [tag]
    have s11 : ∀ v : Nat, v ≠ 0 → v ≠ 6 * nL + 19 → (up2 (up2 (up2 I 0 4 (Int32.ofNat (nL + 1))) (6 * nL + 19) 0 2) (6 * nL + 19) 12 1) v = I v := fun v y1 y2 => by rw [up2_row y2, up2_row y2, up2_row y1]
    have END : mxEnd (φ 0) u w (some (φ (6 * i + 19))) (some (φ (6 * j + 19))) (some (φ (6 * nL + 19))) (pt φ T J2 R τ) = some (Int32.ofNat nL, pt φ T J4 R τ) := by
      rw [mxEnd, ob_pt hj qg, T1, cl1_s, ob_pt hj qg, U1, cl1_s, gI_pt hj q0, o4, o1, if_pos rfl, nm, ← kN_s, Int32.add_sub_cancel]
    rw [END] at ML
    have M122 : b_X4_mix_122 (φ 0) u w (some (φ (6 * i + 19))) (some (φ (6 * j + 19))) (some (φ (6 * nL + 19))) tt (some (φ (6 * nL + 19))) (pt φ T (up2 (up2 (up2 I 0 4 (Int32.ofNat (nL + 1))) (6 * nL + 19) 0 2) (6 * nL + 19) 12 1) R τ) = some (Int32.ofNat nL, pt φ T J4 R τ) := by
      rw [b_X4_mix_122, pB_pt hj qg httb, ← hJ1, nm]; exact ML
    have M78 : b_X4_mix_78 (φ 0) u w (some (φ (6 * i + 19))) (some (φ (6 * j + 19))) 1 (pt φ T I R τ) = some (Int32.ofNat nL, pt φ T J4 R τ) := by
      rw [b_X4_mix_78, x_st1, cl1_s, ob_pt hj q0, N, cl1_s, pI_pt hj qg, pB_pt hj qg (Or.inr rfl), gI_pt hj qi, s11 _ (by omega) (by omega)]
      by_cases c1 : I (6 * i + 19) 11 = 0
      · rw [if_pos c1, gI_pt hj qj, s11 _ (by omega) (by omega)]
        by_cases c2 : I (6 * j + 19) 11 = 0
        · rw [if_pos c1, if_pos c2] at htt
          rw [if_pos c2]; rw [htt] at M122; exact M122
        · rw [if_pos c1, if_neg c2] at htt
          rw [if_neg c2, b_X4_mix_117]; rw [htt] at M122; exact M122
      · rw [if_neg c1] at htt
        rw [if_neg c1, b_X4_mix_117]; rw [htt] at M122; exact M122
    rw [f_X4_mix, b_X4_mix_0, ob_pt hj q0, Ai, cl1_s, ob_pt hj q0, Aj, cl1_s, D, cl1_s, ob_pt hj qi, Fi, cl1_s, if_neg (by decide), if_neg r1, gI_pt hj qi, if_neg r2, b_X4_mix_46, x_st1, cl1_s, ob_pt hj qj, Fj, cl1_s, if_neg (by decide), if_neg r3', gI_pt hj qj, if_neg r4]
    exact M78
  · rw [j0 1 (by decide)]; exact h.2.2.2.2.1.1
  · rw [o4, o1, if_pos rfl]
  · by_cases cg : k = nL
    · subst cg; exact LG
    · have kL : k < nL := by omega
      rw [far (6 * k + 22) (by omega) (by omega), far (6 * k + 23) (by omega) (by omega)]
      have e21 : J4 (6 * k + 21) = I (6 * k + 21) := a4 _ (by omega) (by omega) (by omega) (by omega) (by omega) (by omega) (by omega) (by omega)
      rw [e21]
      by_cases ci : k = i
      · subst ci; rw [i4.1, i4.2]; exact Ri.mono (Nat.le_succ _)
      · by_cases cj : k = j
        · subst cj; exact Rj.mono (Nat.le_succ _)
        · rw [a4 (6 * k + 19) (by omega) (by omega) (by omega) (by omega) (by omega) (by omega) (by omega) (by omega), a4 (6 * k + 20) (by omega) (by omega) (by omega) (by omega) (by omega) (by omega) (by omega) (by omega)]
          exact (h.lr kL).mono (Nat.le_succ _)
  · rw [a4 (6 * k + 19) (by omega) (by omega) (by omega) (by omega) (by omega) (by omega) (by omega) (by omega), a4 (6 * k + 20) (by omega) (by omega) (by omega) (by omega) (by omega) (by omega) (by omega) (by omega), a4 (6 * k + 21) (by omega) (by omega) (by omega) (by omega) (by omega) (by omega) (by omega) (by omega), far (6 * k + 22) (by omega) (by omega), far (6 * k + 23) (by omega) (by omega)]
    exact h.2.2.2.2.2.2.1 k (by omega) y2
  · rw [far (2 * k + 11) (by omega) (by omega), far (2 * k + 12) (by omega) (by omega)]
    exact (h.sr hk).mono (Nat.le_succ _)
  · rw [far (2 * k + 11) (by omega) (by omega), far (2 * k + 12) (by omega) (by omega)]
    exact h.2.2.2.2.2.2.2.2.1 k y1 y2
  · rw [far (k + 3) (by omega) (by omega)]; exact (h.tr hk).mono (Nat.le_succ _)
  · rw [far 115 (by omega) (by omega)]; exact h.2.2.2.2.2.2.2.2.2.2.1
  · obtain ⟨s1, s2, s3⟩ := h.2.2.2.2.2.2.2.2.2.2.2
    unfold SumR
    rw [ds, j0 11 (by decide), j0 10 (by decide)]
    exact ⟨s1, s2, by omega⟩
  · unfold NV nvX
    rw [g4 12 (by decide), h112, if_neg (by decide), gn k hk]
end MX
