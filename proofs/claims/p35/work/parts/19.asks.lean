section N1
variable {φ : Nat → Nat} {T : Nat → Nat × Nat} {I : Nat → Nat → Int32} {R : Nat → Nat → Option Nat} {τ : Mem} {a v w u : Nat} {d t : Int32} {k : Nat}
def hld (x : Int32) : Int32 := if 0 < (if x < 9 then x else 9) then (if x < 9 then x else 9) else 0
theorem x_held (σ : Mem) (x : Int32) : f_X4_heldNote x σ = some (hld x, σ) := by
  simp (config := {decide := true}) only [b_X4_heldNote_0, f_X4_heldNote, nm, hld]
def bodyT (x : Nat → Int32) : Int32 := x 6 / 8 + x 5 / 3 + (if x 9 = 2 then 2 else 0) - x 7
def briskT (x : Nat → Int32) (t : Int32) : Int32 := t / 2 + (if x 10 = 0 then 4 - (if 0 ≤ x 6 - 30 then x 6 - 30 else 0 - (x 6 - 30)) / 8 else 3) - x 8 / 4
def aromaT (x : Nat → Int32) (t : Int32) : Int32 := (if x 4 < 12 then x 4 else 12) / 2 + t / 3 - x 7 - x 8 / 5 - (if x 11 = 0 then 0 else 5)
def leafT (x : Nat → Int32) (t : Int32) (k : Nat) : Int32 := if k = 0 then hld (bodyT x) else if k = 1 then hld (briskT x t) else hld (aromaT x t)
theorem leafT_eq {x m : Nat → Int32} (h4 : x 4 = m 4) (h5 : x 5 = m 5) (h6 : x 6 = m 6) (h7 : x 7 = m 7) (h8 : x 8 = m 8) (h9 : x 9 = m 9) (h10 : x 10 = m 10) (h11 : x 11 = m 11) : leafT x t k = leafT m t k := by
  simp only [leafT, bodyT, briskT, aromaT, h4, h5, h6, h7, h8, h9, h10, h11]
theorem le2 {k : Nat} (h : k < 3) : k = 0 ∨ k = 1 ∨ k = 2 := by omega
theorem x_body (hj : Inj φ T) (h : T a = (2, 0)) : f_X1_bodyOfLeaf (φ a) (pt φ T I R τ) = some (bodyT (I a), pt φ T I R τ) := by
  by_cases c : I a 9 = 2 <;> simp (config := {decide := true}) only [b_X1_bodyOfLeaf_27, b_X1_bodyOfLeaf_0, f_X1_bodyOfLeaf, gI_pt hj, gR_pt hj, ob_pt hj, pI_pt hj, pB_pt hj, pR_pt hj, aI_pt hj, aR_pt hj, wI_pt hj, aL_pt hj, cl1_s, cl1_n, cl1_i, nul_n, nul_s, nm, dv2, dv3, dv4, dv5, dv8, dv10, dv20, dv40, bo, mI_pt hj, mT_pt hj, mZ_pt, tn0, tn1, tn2, tn3, tn4, tn5, tn6, h, c, bodyT, ii0, ii1, ii2, ii3, ii4, if_true, if_false, ne_eq, not_false_eq_true, not_true_eq_false, true_and, and_true, false_and, and_false, and_self, true_or, or_true, false_or, or_false, or_self, Nat.reduceAdd, Nat.reduceLT, Nat.reduceLeDiff, Nat.succ_ne_zero, reduceIte, reduceCtorEq]
theorem x_brisk (hj : Inj φ T) (h : T a = (2, 0)) : f_X1_briskOfLeaf (φ a) t (pt φ T I R τ) = some (briskT (I a) t, pt φ T I R τ) := by
  by_cases c : I a 10 = 0 <;> simp (config := {decide := true}) only [b_X1_briskOfLeaf_26, b_X1_briskOfLeaf_0, f_X1_briskOfLeaf, gI_pt hj, gR_pt hj, ob_pt hj, pI_pt hj, pB_pt hj, pR_pt hj, aI_pt hj, aR_pt hj, wI_pt hj, aL_pt hj, cl1_s, cl1_n, cl1_i, nul_n, nul_s, nm, dv2, dv3, dv4, dv5, dv8, dv10, dv20, dv40, bo, mI_pt hj, mT_pt hj, mZ_pt, tn0, tn1, tn2, tn3, tn4, tn5, tn6, h, c, briskT, ii0, ii1, ii2, ii3, ii4, if_true, if_false, ne_eq, not_false_eq_true, not_true_eq_false, true_and, and_true, false_and, and_false, and_self, true_or, or_true, false_or, or_false, or_self, Nat.reduceAdd, Nat.reduceLT, Nat.reduceLeDiff, Nat.succ_ne_zero, reduceIte, reduceCtorEq]
theorem x_aroma (hj : Inj φ T) (h : T a = (2, 0)) : f_X1_aromaOfLeaf (φ a) t (pt φ T I R τ) = some (aromaT (I a) t, pt φ T I R τ) := by
  by_cases c : I a 11 = 0 <;> simp (config := {decide := true}) only [b_X1_aromaOfLeaf_41, b_X1_aromaOfLeaf_0, f_X1_aromaOfLeaf, gI_pt hj, gR_pt hj, ob_pt hj, pI_pt hj, pB_pt hj, pR_pt hj, aI_pt hj, aR_pt hj, wI_pt hj, aL_pt hj, cl1_s, cl1_n, cl1_i, nul_n, nul_s, nm, dv2, dv3, dv4, dv5, dv8, dv10, dv20, dv40, bo, mI_pt hj, mT_pt hj, mZ_pt, tn0, tn1, tn2, tn3, tn4, tn5, tn6, h, c, aromaT, ii0, ii1, ii2, ii3, ii4, if_true, if_false, ne_eq, not_false_eq_true, not_true_eq_false, true_and, and_true, false_and, and_false, and_self, true_or, or_true, false_or, or_false, or_self, Nat.reduceAdd, Nat.reduceLT, Nat.reduceLeDiff, Nat.succ_ne_zero, reduceIte, reduceCtorEq]
theorem x_note37 (hj : Inj φ T) (h : T a = (2, 0)) (hk : k < 3) : b_X1_noteOf_37 (φ a) (Int32.ofNat k) t (pt φ T I R τ) = some (leafT (I a) t k, pt φ T I R τ) := by
  rcases le2 hk with rfl | rfl | rfl <;>
  simp (config := {decide := true}) only [b_X1_noteOf_37, b_X1_noteOf_68, x_body hj h, x_brisk hj h, x_aroma hj h, x_held, gI_pt hj, gR_pt hj, ob_pt hj, pI_pt hj, pB_pt hj, pR_pt hj, aI_pt hj, aR_pt hj, wI_pt hj, aL_pt hj, cl1_s, cl1_n, cl1_i, nul_n, nul_s, nm, dv2, dv3, dv4, dv5, dv8, dv10, dv20, dv40, bo, mI_pt hj, mT_pt hj, mZ_pt, tn0, tn1, tn2, tn3, tn4, tn5, tn6, h, leafT, ii0, ii1, ii2, ii3, ii4, if_true, if_false, ne_eq, not_false_eq_true, not_true_eq_false, true_and, and_true, false_and, and_false, and_self, true_or, or_true, false_or, or_false, or_self, Nat.reduceAdd, Nat.reduceLT, Nat.reduceLeDiff, Nat.succ_ne_zero, reduceIte, reduceCtorEq]
def nvX (x xn : Nat → Int32) (k : Nat) : Int32 := if x 12 = 0 then leafT x (if x 1 ≤ 0 then 0 else 10 * x 2 / x 1) k else xn k
theorem x_noteOf (hj : Inj φ T) (h : T a = (2, 0)) (h2 : I a 12 ≠ 0 → R a 14 = some (φ w) ∧ T w = (100, 3)) (hk : k < 3) : f_X1_noteOf (φ a) (Int32.ofNat k) (pt φ T I R τ) = some (nvX (I a) (I w) k, pt φ T I R τ) := by
  by_cases c : I a 12 = 0
  · by_cases c1 : I a 1 ≤ 0
    · simp (config := {decide := true}) only [f_X1_noteOf, b_X1_noteOf_0, x_note37 hj h hk, gI_pt hj, gR_pt hj, ob_pt hj, pI_pt hj, pB_pt hj, pR_pt hj, aI_pt hj, aR_pt hj, wI_pt hj, aL_pt hj, cl1_s, cl1_n, cl1_i, nul_n, nul_s, nm, dv2, dv3, dv4, dv5, dv8, dv10, dv20, dv40, bo, mI_pt hj, mT_pt hj, mZ_pt, tn0, tn1, tn2, tn3, tn4, tn5, tn6, h, c, c1, nvX, ii0, ii1, ii2, ii3, ii4, if_true, if_false, ne_eq, not_false_eq_true, not_true_eq_false, true_and, and_true, false_and, and_false, and_self, true_or, or_true, false_or, or_false, or_self, Nat.reduceAdd, Nat.reduceLT, Nat.reduceLeDiff, Nat.succ_ne_zero, reduceIte, reduceCtorEq]
    · have c2 : I a 1 ≠ 0 := fun q => c1 (by rw [q]; decide)
      simp (config := {decide := true}) only [f_X1_noteOf, b_X1_noteOf_0, x_note37 hj h hk, dv_c c2, gI_pt hj, gR_pt hj, ob_pt hj, pI_pt hj, pB_pt hj, pR_pt hj, aI_pt hj, aR_pt hj, wI_pt hj, aL_pt hj, cl1_s, cl1_n, cl1_i, nul_n, nul_s, nm, dv2, dv3, dv4, dv5, dv8, dv10, dv20, dv40, bo, mI_pt hj, mT_pt hj, mZ_pt, tn0, tn1, tn2, tn3, tn4, tn5, tn6, h, c, c1, nvX, ii0, ii1, ii2, ii3, ii4, if_true, if_false, ne_eq, not_false_eq_true, not_true_eq_false, true_and, and_true, false_and, and_false, and_self, true_or, or_true, false_or, or_false, or_self, Nat.reduceAdd, Nat.reduceLT, Nat.reduceLeDiff, Nat.succ_ne_zero, reduceIte, reduceCtorEq]
  · obtain ⟨h3, h4⟩ := h2 c
    rcases le2 hk with rfl | rfl | rfl <;>
    simp (config := {decide := true}) only [f_X1_noteOf, b_X1_noteOf_0, gI_pt hj, gR_pt hj, ob_pt hj, pI_pt hj, pB_pt hj, pR_pt hj, aI_pt hj, aR_pt hj, wI_pt hj, aL_pt hj, cl1_s, cl1_n, cl1_i, nul_n, nul_s, nm, dv2, dv3, dv4, dv5, dv8, dv10, dv20, dv40, bo, mI_pt hj, mT_pt hj, mZ_pt, tn0, tn1, tn2, tn3, tn4, tn5, tn6, h, h3, h4, c, nvX, ii0, ii1, ii2, ii3, ii4, if_true, if_false, ne_eq, not_false_eq_true, not_true_eq_false, true_and, and_true, false_and, and_false, and_self, true_or, or_true, false_or, or_false, or_self, Nat.reduceAdd, Nat.reduceLT, Nat.reduceLeDiff, Nat.succ_ne_zero, reduceIte, reduceCtorEq] <;> rfl
end N1


section N2
variable {φ : Nat → Nat} {T : Nat → Nat × Nat} {I J : Nat → Nat → Int32} {R : Nat → Nat → Option Nat} {τ : Mem} {nS nL n z : Nat}
variable {p a : Int32} {i k : Nat}
def NV (I : Nat → Nat → Int32) (i k : Nat) : Int32 := nvX (I (6 * i + 19)) (I (6 * i + 21)) k
theorem x_noteC (h : Cx φ T I R (mZ τ) nS nL n) (hi : i < 17) (hk : k < 3) : f_X1_noteOf (φ (6 * i + 19)) (Int32.ofNat k) (pt φ T I R τ) = some (NV I i k, pt φ T I R τ) := by
  obtain ⟨hj, hl, hx, ⟨hm22, hm23⟩, hr⟩ := h; obtain ⟨hx0, hx1, hx2, hx3, hx4, hx5, hx6, hx7, hx8, hx9, hx10, hx11, hx12, hx13, hx14, hx15, hx16, hx17, hx18, hx19, hx20, hx21, hx22, hx23, hx24, hx25, hx26, hx27⟩ := hx; obtain ⟨⟨g1, g2⟩, r1, r2, r3, r4, r5, r6, r7⟩ := hr
  exact x_noteOf hj (hx15 i hi) (fun _ => ⟨hx17 i hi, hx20 i hi⟩) hk
theorem hld_b (x : Int32) : 0 ≤ (hld x).toInt ∧ (hld x).toInt ≤ 9 := by
  have z : (0 : Int32).toInt = 0 := rfl
  have z9 : (9 : Int32).toInt = 9 := rfl
  by_cases c1 : x < 9
  · by_cases c2 : 0 < x
    · simp only [hld, c1, c2, if_true]
      have := ltT c1; have := ltT c2; omega
    · simp only [hld, c1, c2, if_true, if_false]; omega
  · simp only [hld, c1, if_false, show (0 : Int32) < 9 by decide, if_true]; omega
theorem nvX_b {x xn : Nat → Int32} (h : x 12 ≠ 0 → 0 ≤ (xn k).toInt ∧ (xn k).toInt ≤ 9) : 0 ≤ (nvX x xn k).toInt ∧ (nvX x xn k).toInt ≤ 9 := by
  simp only [nvX]
  split
  · simp only [leafT]
    split
    · exact hld_b _
    · split <;> exact hld_b _
  · rename_i c; exact h c
theorem x_noteJ (h : Cx φ T I R z nS nL n) (hi : i < 17) (h1 : J (6 * i + 19) = I (6 * i + 19)) (h2 : J (6 * i + 21) = I (6 * i + 21)) (hk : k < 3) : f_X1_noteOf (φ (6 * i + 19)) (Int32.ofNat k) (pt φ T J R τ) = some (NV I i k, pt φ T J R τ) := by
  obtain ⟨hj, hl, hx, ⟨hm22, hm23⟩, hr⟩ := h; obtain ⟨hx0, hx1, hx2, hx3, hx4, hx5, hx6, hx7, hx8, hx9, hx10, hx11, hx12, hx13, hx14, hx15, hx16, hx17, hx18, hx19, hx20, hx21, hx22, hx23, hx24, hx25, hx26, hx27⟩ := hx; obtain ⟨⟨g1, g2⟩, r1, r2, r3, r4, r5, r6, r7⟩ := hr
  rw [x_noteOf hj (hx15 i hi) (fun _ => ⟨hx17 i hi, hx20 i hi⟩) hk, h1, h2, NV]
theorem NV_b (h : Cx φ T I R z nS nL n) (hi : i < nL) (hk : k < 3) : 0 ≤ (NV I i k).toInt ∧ (NV I i k).toInt ≤ 9 := nvX_b (fun c => (h.lr hi).2.2.2.2.2.2.2.2.1 c k hk)
theorem x_note (h : Cx φ T I R (mZ τ) nS nL n) (hp : InN p nL) (hi : p.toNatClampNeg = i) (hs : I (6 * i + 19) 0 = 2) (hk : k < 3) : f_X4_note (φ 0) p (Int32.ofNat k) (pt φ T I R τ) = some ((NV I i k), pt φ T I R τ) := by
  have iL : i < nL := hi ▸ (idx h.m.2.2.2.2.1 hp.1 hp.2).2.2.2.2
  have hN := h.m.2.2.2.2.1
  have h17 : i < 17 := by omega
  have A := x_lotAt h hp hi
  have B := x_noteC h h17 hk
  have q1 : 0 ≤ Int32.ofNat k := by rcases le2 hk with rfl | rfl | rfl <;> decide
  have q2 : Int32.ofNat k ≤ 2 := by rcases le2 hk with rfl | rfl | rfl <;> decide
  have Q := x_req (pt φ T I R τ) q1 q2
  obtain ⟨hj, hl, hx, ⟨hm22, hm23⟩, hr⟩ := h; obtain ⟨hx0, hx1, hx2, hx3, hx4, hx5, hx6, hx7, hx8, hx9, hx10, hx11, hx12, hx13, hx14, hx15, hx16, hx17, hx18, hx19, hx20, hx21, hx22, hx23, hx24, hx25, hx26, hx27⟩ := hx; obtain ⟨⟨g1, g2⟩, r1, r2, r3, r4, r5, r6, r7⟩ := hr
  simp (config := {decide := true}) only [f_X4_note, b_X4_note_0, b_X4_note_25, A, B, Q, x_st1, gI_pt hj, gR_pt hj, ob_pt hj, pI_pt hj, pB_pt hj, pR_pt hj, aI_pt hj, aR_pt hj, wI_pt hj, aL_pt hj, cl1_s, cl1_n, cl1_i, nul_n, nul_s, nm, dv2, dv3, dv4, dv5, dv8, dv10, dv20, dv40, bo, mI_pt hj, mT_pt hj, mZ_pt, tn0, tn1, tn2, tn3, tn4, tn5, tn6, hx0, hx15 i h17, hs, ii0, ii1, ii2, ii3, ii4, if_true, if_false, ne_eq, not_false_eq_true, not_true_eq_false, true_and, and_true, false_and, and_false, and_self, true_or, or_true, false_or, or_false, or_self, Nat.reduceAdd, Nat.reduceLT, Nat.reduceLeDiff, Nat.succ_ne_zero, reduceIte, reduceCtorEq]
end N2

section Q4
variable {φ : Nat → Nat} {T : Nat → Nat × Nat} {I : Nat → Nat → Int32} {R : Nat → Nat → Option Nat} {τ : Mem} {a : Nat}
def gs (s r : Int32) : Int32 := if 0 < 3 * r then (if 0 ≤ s then (2 * (if 0 ≤ s then s else 0 - s) + 3 * r) / (2 * (3 * r)) else -((2 * (if 0 ≤ s then s else 0 - s) + 3 * r) / (2 * (3 * r)))) else 0
theorem r3 {r : Int32} (h1 : 0 ≤ r.toInt) (h2 : r.toInt ≤ 1000) : (3 * r).toInt = 3 * r.toInt ∧ (2 * (3 * r)).toInt = 6 * r.toInt := by
  have e3 : (3 : Int32).toInt = 3 := rfl
  have e2 : (2 : Int32).toInt = 2 := rfl
  have e : (3 * r).toInt = 3 * r.toInt := by
    rw [tMul, e3] <;> rw [e3] <;> omega
  refine ⟨e, ?_⟩
  rw [tMul, e2, e] <;> (try rw [e2, e]) <;> omega
theorem r3c {r : Int32} (h1 : 0 ≤ r.toInt) (h2 : r.toInt ≤ 1000) : (0 < 3 * r ∧ 3 * r ≠ 0 ∧ 2 * (3 * r) ≠ 0) ∨ (¬ 0 < 3 * r ∧ 3 * r = 0) := by
  obtain ⟨e, f⟩ := r3 h1 h2
  have z : (0 : Int32).toInt = 0 := rfl
  by_cases h : r.toInt = 0
  · right
    refine ⟨fun q => ?_, Int32.toInt_inj.mp (by rw [e, z]; omega)⟩
    have := ltT q; omega
  · left
    refine ⟨Int32.lt_iff_toInt_lt.mpr (by rw [e, z]; omega), fun q => ?_, fun q => ?_⟩
    · rw [q, z] at e; omega
    · rw [q, z] at f; omega
theorem x_guess (hj : Inj φ T) (h : T a = (4, 0)) (h1 : 0 ≤ (I a 2).toInt) (h2 : (I a 2).toInt ≤ 1000) : f_X3_guess (φ a) (pt φ T I R τ) = some (gs (I a 1) (I a 2), pt φ T I R τ) := by
  rcases r3c h1 h2 with ⟨c1, c2, c3⟩ | ⟨c1, c2⟩
  · by_cases c4 : 0 ≤ I a 1
    · simp (config := {decide := true}) only [b_X3_guess_42, b_X3_guess_0, f_X3_guess, gI_pt hj, gR_pt hj, ob_pt hj, pI_pt hj, pB_pt hj, pR_pt hj, aI_pt hj, aR_pt hj, wI_pt hj, aL_pt hj, cl1_s, cl1_n, cl1_i, nul_n, nul_s, nm, dv2, dv3, dv4, dv5, dv8, dv10, dv20, dv40, bo, mI_pt hj, mT_pt hj, mZ_pt, tn0, tn1, tn2, tn3, tn4, tn5, tn6, h, c1, dv_c c3, c4, gs, ii0, ii1, ii2, ii3, ii4, if_true, if_false, ne_eq, not_false_eq_true, not_true_eq_false, true_and, and_true, false_and, and_false, and_self, true_or, or_true, false_or, or_false, or_self, Nat.reduceAdd, Nat.reduceLT, Nat.reduceLeDiff, Nat.succ_ne_zero, reduceIte, reduceCtorEq]
    · simp (config := {decide := true}) only [b_X3_guess_42, b_X3_guess_0, f_X3_guess, gI_pt hj, gR_pt hj, ob_pt hj, pI_pt hj, pB_pt hj, pR_pt hj, aI_pt hj, aR_pt hj, wI_pt hj, aL_pt hj, cl1_s, cl1_n, cl1_i, nul_n, nul_s, nm, dv2, dv3, dv4, dv5, dv8, dv10, dv20, dv40, bo, mI_pt hj, mT_pt hj, mZ_pt, tn0, tn1, tn2, tn3, tn4, tn5, tn6, h, c1, dv_c c3, c4, gs, ii0, ii1, ii2, ii3, ii4, if_true, if_false, ne_eq, not_false_eq_true, not_true_eq_false, true_and, and_true, false_and, and_false, and_self, true_or, or_true, false_or, or_false, or_self, Nat.reduceAdd, Nat.reduceLT, Nat.reduceLeDiff, Nat.succ_ne_zero, reduceIte, reduceCtorEq]
  · simp (config := {decide := true}) only [b_X3_guess_42, b_X3_guess_0, f_X3_guess, gI_pt hj, gR_pt hj, ob_pt hj, pI_pt hj, pB_pt hj, pR_pt hj, aI_pt hj, aR_pt hj, wI_pt hj, aL_pt hj, cl1_s, cl1_n, cl1_i, nul_n, nul_s, nm, dv2, dv3, dv4, dv5, dv8, dv10, dv20, dv40, bo, mI_pt hj, mT_pt hj, mZ_pt, tn0, tn1, tn2, tn3, tn4, tn5, tn6, h, c1, gs, ii0, ii1, ii2, ii3, ii4, if_true, if_false, ne_eq, not_false_eq_true, not_true_eq_false, true_and, and_true, false_and, and_false, and_self, true_or, or_true, false_or, or_false, or_self, Nat.reduceAdd, Nat.reduceLT, Nat.reduceLeDiff, Nat.succ_ne_zero, reduceIte, reduceCtorEq]
end Q4


section TS
variable {φ : Nat → Nat} {T : Nat → Nat × Nat} {I J : Nat → Nat → Int32} {R : Nat → Nat → Option Nat} {τ : Mem} {nS nL n z : Nat}
variable {p q a : Int32} {i k j : Nat}
theorem x_tells (hj : Inj φ T) {v : Nat} (h : T v = (4, 0)) (x : Int32) : f_X3_tells (φ v) x (pt φ T I R τ) = some (hld (x + I v 0), pt φ T I R τ) := by
  simp (config := {decide := true}) only [b_X3_tells_0, f_X3_tells, x_held, gI_pt hj, gR_pt hj, ob_pt hj, pI_pt hj, pB_pt hj, pR_pt hj, aI_pt hj, aR_pt hj, wI_pt hj, aL_pt hj, cl1_s, cl1_n, cl1_i, nul_n, nul_s, nm, dv2, dv3, dv4, dv5, dv8, dv10, dv20, dv40, bo, mI_pt hj, mT_pt hj, mZ_pt, tn0, tn1, tn2, tn3, tn4, tn5, tn6, h, ii0, ii1, ii2, ii3, ii4, if_true, if_false, ne_eq, not_false_eq_true, not_true_eq_false, true_and, and_true, false_and, and_false, and_self, true_or, or_true, false_or, or_false, or_self, Nat.reduceAdd, Nat.reduceLT, Nat.reduceLeDiff, Nat.succ_ne_zero, reduceIte, reduceCtorEq]
def tlV (I : Nat → Nat → Int32) (x : Int32) (j : Nat) : Int32 := hld (x + I (j + 3) 0) - gs (I (j + 3) 1) (I (j + 3) 2)
def TV (I : Nat → Nat → Int32) (x : Int32) : Int32 := hld ((0 + tlV I x 0 + tlV I x 1 + tlV I x 2) / 3)
theorem x_tlT (h : Cx φ T I R (mZ τ) nS nL n) (hj3 : j < 3) (x : Int32) : f_X3_tells (φ (j + 3)) x (pt φ T I R τ) = some (hld (x + I (j + 3) 0), pt φ T I R τ) := by
  obtain ⟨hj, hl, hx, ⟨hm22, hm23⟩, hr⟩ := h; obtain ⟨hx0, hx1, hx2, hx3, hx4, hx5, hx6, hx7, hx8, hx9, hx10, hx11, hx12, hx13, hx14, hx15, hx16, hx17, hx18, hx19, hx20, hx21, hx22, hx23, hx24, hx25, hx26, hx27⟩ := hx; obtain ⟨⟨g1, g2⟩, r1, r2, r3, r4, r5, r6, r7⟩ := hr
  exact x_tells hj (hx27 j hj3) x
theorem x_gsT (h : Cx φ T I R (mZ τ) nS nL n) (hn : n < 1000) (hj3 : j < 3) : f_X3_guess (φ (j + 3)) (pt φ T I R τ) = some (gs (I (j + 3) 1) (I (j + 3) 2), pt φ T I R τ) := by
  obtain ⟨hj, hl, hx, ⟨hm22, hm23⟩, hr⟩ := h; obtain ⟨hx0, hx1, hx2, hx3, hx4, hx5, hx6, hx7, hx8, hx9, hx10, hx11, hx12, hx13, hx14, hx15, hx16, hx17, hx18, hx19, hx20, hx21, hx22, hx23, hx24, hx25, hx26, hx27⟩ := hx; obtain ⟨⟨g1, g2⟩, r1, r2, r3, r4, r5, r6, r7⟩ := hr
  obtain ⟨-, ⟨u3, u4⟩, -⟩ := r5 j hj3
  exact x_guess hj (hx27 j hj3) u3 (by omega)
theorem x_taste (h : Cx φ T I R (mZ τ) nS nL n) (hn : n < 1000) (hp : InN p nL) (hi : p.toNatClampNeg = i) (hs : I (6 * i + 19) 0 = 2) (hk : k < 3) : f_X4_taste (φ 0) p (Int32.ofNat k) (pt φ T I R τ) = some ((TV I (NV I i k)), pt φ T I R τ) := by
  have N := x_note h hp hi hs hk
  have A0 := x_tlT (j := 0) h (by decide) (NV I i k)
  have A1 := x_tlT (j := 1) h (by decide) (NV I i k)
  have A2 := x_tlT (j := 2) h (by decide) (NV I i k)
  have B0 := x_gsT (j := 0) h hn (by decide)
  have B1 := x_gsT (j := 1) h hn (by decide)
  have B2 := x_gsT (j := 2) h hn (by decide)
  generalize hv : NV I i k = v at *
  obtain ⟨hj, hl, hx, ⟨hm22, hm23⟩, hr⟩ := h; obtain ⟨hx0, hx1, hx2, hx3, hx4, hx5, hx6, hx7, hx8, hx9, hx10, hx11, hx12, hx13, hx14, hx15, hx16, hx17, hx18, hx19, hx20, hx21, hx22, hx23, hx24, hx25, hx26, hx27⟩ := hx; obtain ⟨⟨g1, g2⟩, r1, r2, r3, r4, r5, r6, r7⟩ := hr
  have C0 := hx26 0 (by decide)
  have C1 := hx26 1 (by decide)
  have C2 := hx26 2 (by decide)
  have D0 := hx27 0 (by decide)
  have D1 := hx27 1 (by decide)
  have D2 := hx27 2 (by decide)
  simp only [Nat.reduceAdd] at A0 A1 A2 B0 B1 B2 C0 C1 C2 D0 D1 D2
  simp (config := {decide := true}) only [b_X4_taste_13, b_X4_taste_0, f_X4_taste, l_X4_taste_13, itr_40, itr_39, itr_38, itr_37, itr_36, N, A0, A1, A2, B0, B1, B2, C0, C1, C2, D0, D1, D2, hx0, hx4, hx8, x_held, gI_pt hj, gR_pt hj, ob_pt hj, pI_pt hj, pB_pt hj, pR_pt hj, aI_pt hj, aR_pt hj, wI_pt hj, aL_pt hj, cl1_s, cl1_n, cl1_i, nul_n, nul_s, nm, dv2, dv3, dv4, dv5, dv8, dv10, dv20, dv40, bo, mI_pt hj, mT_pt hj, mZ_pt, tn0, tn1, tn2, tn3, tn4, tn5, tn6, TV, tlV, ii0, ii1, ii2, ii3, ii4, if_true, if_false, ne_eq, not_false_eq_true, not_true_eq_false, true_and, and_true, false_and, and_false, and_self, true_or, or_true, false_or, or_false, or_self, Nat.reduceAdd, Nat.reduceLT, Nat.reduceLeDiff, Nat.succ_ne_zero, reduceIte, reduceCtorEq]
end TS


section RP
variable {φ : Nat → Nat} {T : Nat → Nat × Nat} {I J : Nat → Nat → Int32} {R : Nat → Nat → Option Nat} {τ : Mem} {nS nL n z : Nat}
variable {p q a x y s : Int32} {i k j v w : Nat}
theorem u10 {f : Nat → Nat → Int32} : up2 f v 1 x w 0 = f w 0 := up2_k (by decide)
theorem u12 {f : Nat → Nat → Int32} : up2 f v 1 x w 2 = f w 2 := up2_k (by decide)
theorem u20 {f : Nat → Nat → Int32} : up2 f v 2 x w 0 = f w 0 := up2_k (by decide)
theorem u21 {f : Nat → Nat → Int32} : up2 f v 2 x w 1 = f w 1 := up2_k (by decide)
def dfV (x l : Int32) : Int32 := hld (x + l) - x
def RS (I : Nat → Nat → Int32) (i j : Nat) : Int32 := I (j + 3) 1 + dfV (NV I i 0) (I (j + 3) 0) + dfV (NV I i 1) (I (j + 3) 0) + dfV (NV I i 2) (I (j + 3) 0)
theorem x_repLoop (h : Cx φ T I R (mZ τ) nS nL n) (hn : n < 999) (hi : i < 16) (hj3 : j < 3) : l_X4_repeat_16 40 (some (φ (j + 3))) (some (φ (6 * i + 19))) 0 (pt φ T I R τ) = some ((gs (RS I i j) (I (j + 3) 2 + 1)), pt φ T (up2 (up2 I (j + 3) 1 (RS I i j)) (j + 3) 2 (I (j + 3) 2 + 1)) R τ) := by
  have n1 : 6 * i + 19 ≠ j + 3 := by omega
  have n2 : 6 * i + 21 ≠ j + 3 := by omega
  have N0 : ∀ x, f_X1_noteOf (φ (6 * i + 19)) 0 (pt φ T (up2 I (j + 3) 1 x) R τ) = some (NV I i 0, pt φ T (up2 I (j + 3) 1 x) R τ) := fun x => x_noteJ (k := 0) h (by omega) (up2_row n1) (up2_row n2) (by decide)
  have N0' : f_X1_noteOf (φ (6 * i + 19)) 0 (pt φ T I R τ) = some (NV I i 0, pt φ T I R τ) := x_noteJ (k := 0) h (by omega) rfl rfl (by decide)
  have N1 : ∀ x, f_X1_noteOf (φ (6 * i + 19)) 1 (pt φ T (up2 I (j + 3) 1 x) R τ) = some (NV I i 1, pt φ T (up2 I (j + 3) 1 x) R τ) := fun x => x_noteJ (k := 1) h (by omega) (up2_row n1) (up2_row n2) (by decide)
  have N2 : ∀ x, f_X1_noteOf (φ (6 * i + 19)) 2 (pt φ T (up2 I (j + 3) 1 x) R τ) = some (NV I i 2, pt φ T (up2 I (j + 3) 1 x) R τ) := fun x => x_noteJ (k := 2) h (by omega) (up2_row n1) (up2_row n2) (by decide)
  obtain ⟨hj, hl, hx, ⟨hm22, hm23⟩, hr⟩ := h; obtain ⟨hx0, hx1, hx2, hx3, hx4, hx5, hx6, hx7, hx8, hx9, hx10, hx11, hx12, hx13, hx14, hx15, hx16, hx17, hx18, hx19, hx20, hx21, hx22, hx23, hx24, hx25, hx26, hx27⟩ := hx; obtain ⟨⟨g1, g2⟩, r1, r2, r3, r4, r5, r6, r7⟩ := hr
  obtain ⟨-, ⟨u3, u4⟩, -⟩ := r5 j hj3
  have z1 : (1 : Int32).toInt = 1 := rfl
  have e1 : (I (j + 3) 2 + 1).toInt = (I (j + 3) 2).toInt + 1 := tAdd (by omega) (by omega)
  have G := x_guess (I := up2 (up2 I (j + 3) 1 (RS I i j)) (j + 3) 2 (I (j + 3) 2 + 1)) (R := R) (τ := τ) hj (hx27 j hj3) (by rw [up2_at]; omega) (by rw [up2_at]; omega)
  rw [up2_at, u21, up2_at] at G
  have T1 := hx27 j hj3
  have T2 := hx15 i (by omega)
  simp only [RS, dfV] at G ⊢
  simp (config := {decide := true}) only [l_X4_repeat_16, itr_40, itr_39, itr_38, itr_37, itr_36, b_X4_repeat_16, N0, N0', N1, N2, x_tells hj T1, up2_up2, up2_at, u10, u12, G, T1, T2, gI_pt hj, gR_pt hj, ob_pt hj, pI_pt hj, pB_pt hj, pR_pt hj, aI_pt hj, aR_pt hj, wI_pt hj, aL_pt hj, cl1_s, cl1_n, cl1_i, nul_n, nul_s, nm, dv2, dv3, dv4, dv5, dv8, dv10, dv20, dv40, bo, mI_pt hj, mT_pt hj, mZ_pt, tn0, tn1, tn2, tn3, tn4, tn5, tn6, ii0, ii1, ii2, ii3, ii4, if_true, if_false, ne_eq, not_false_eq_true, not_true_eq_false, true_and, and_true, false_and, and_false, and_self, true_or, or_true, false_or, or_false, or_self, Nat.reduceAdd, Nat.reduceLT, Nat.reduceLeDiff, Nat.succ_ne_zero, reduceIte, reduceCtorEq]
end RP


section Q1
variable {φ : Nat → Nat} {T : Nat → Nat × Nat} {I : Nat → Nat → Int32} {R : Nat → Nat → Option Nat} {τ : Mem} {v w a l e c n i : Nat} {h d p : Int32}
theorem tn_ofNat {k : Nat} (h : k < 2147483648) : (Int32.ofNat k).toNatClampNeg = k := oN_c h
def vSec (s sh : Nat → Int32) (k : Nat) : Int32 := if k < 6 then s k else if k = 10 then s 6 else sh (k - 6)
theorem le10 {k : Nat} (h : k ≤ 10) : k = 0 ∨ k = 1 ∨ k = 2 ∨ k = 3 ∨ k = 4 ∨ k = 5 ∨ k = 6 ∨ k = 7 ∨ k = 8 ∨ k = 9 ∨ k = 10 := by omega
theorem x_ofSec (hj : Inj φ T) (h0 : T 0 = (5, 0)) (h1 : R 0 0 = some (φ 1)) (h2 : T 1 = (102, 4)) (h3 : R 1 p.toNatClampNeg = some (φ v)) (h4 : T v = (3, 0)) (h5 : R v 7 = some (φ w)) (h6 : T w = (100, 4)) (k1 : ¬ p < 0) (k2 : p < I 0 1) (k3 : p.toNatClampNeg < 4) {k : Nat} (hk : k ≤ 10) : f_X4_ofSection (φ 0) p (Int32.ofNat k) (pt φ T I R τ) = some ((vSec (I v) (I w) k), pt φ T I R τ) := by
  rcases le10 hk with rfl | rfl | rfl | rfl | rfl | rfl | rfl | rfl | rfl | rfl | rfl <;>
  simp (config := {decide := true}) only [b_X4_ofSection_107, b_X4_ofSection_0, f_X4_ofSection, b_X4_sectionAt_0, f_X4_sectionAt, b_X4_requireIndex_9, b_X4_requireIndex_0, f_X4_requireIndex, b_X4_requireArgument_10, b_X4_requireArgument_0, f_X4_requireArgument, gI_pt hj, gR_pt hj, ob_pt hj, pI_pt hj, pB_pt hj, pR_pt hj, aI_pt hj, aR_pt hj, wI_pt hj, aL_pt hj, cl1_s, cl1_n, cl1_i, nul_n, nul_s, nm, dv2, dv3, dv4, dv5, dv8, dv10, dv20, dv40, bo, mI_pt hj, mT_pt hj, mZ_pt, tn0, tn1, tn2, tn3, tn4, tn5, tn6, h0, h1, h2, h3, h4, h5, h6, k1, k2, k3, vSec, ii0, ii1, ii2, ii3, ii4, if_true, if_false, ne_eq, not_false_eq_true, not_true_eq_false, true_and, and_true, false_and, and_false, and_self, true_or, or_true, false_or, or_false, or_self, Nat.reduceAdd, Nat.reduceLT, Nat.reduceLeDiff, Nat.succ_ne_zero, reduceIte, reduceCtorEq] <;> rfl
end Q1


section Q2
variable {φ : Nat → Nat} {T : Nat → Nat × Nat} {I : Nat → Nat → Int32} {R : Nat → Nat → Option Nat} {τ : Mem} {v w u c n : Nat} {p : Int32}
theorem le17 {k : Nat} (h : k ≤ 17) : k = 0 ∨ k = 1 ∨ k = 2 ∨ k = 3 ∨ k = 4 ∨ k = 5 ∨ k = 6 ∨ k = 7 ∨ k = 8 ∨ k = 9 ∨ k = 10 ∨ k = 11 ∨ k = 12 ∨ k = 13 ∨ k = 14 ∨ k = 15 ∨ k = 16 ∨ k = 17 := by omega
def b01 (x : Int32) : Int32 := if x = 0 then 0 else 1
theorem b01_of {x : Int32} (h : x = 0 ∨ x = 1) : b01 x = x := by rcases h with rfl | rfl <;> rfl
def vLot (x xu xa : Nat → Int32) (k : Nat) : Int32 := if k < 10 then x k else if k < 13 then b01 (x k) else if k = 13 then xa 0 else xu (k - 14)
theorem x_ofLot (hj : Inj φ T) (h0 : T 0 = (5, 0)) (h1 : R 0 3 = some (φ 2)) (h2 : T 2 = (101, 16)) (h3 : R 2 p.toNatClampNeg = some (φ v)) (h4 : T v = (2, 0)) (h5 : R v 13 = some (φ w)) (h6 : T w = (100, 4)) (h7 : R v 15 = some (φ u)) (h8 : T u = (1, 0)) (k1 : ¬ p < 0) (k2 : p < I 0 4) (k3 : p.toNatClampNeg < 16) {k : Nat} (hk : k ≤ 17) : f_X4_ofLot (φ 0) p (Int32.ofNat k) (pt φ T I R τ) = some ((vLot (I v) (I w) (I u) k), pt φ T I R τ) := by
  by_cases c10 : I v 10 = 0 <;> by_cases c11 : I v 11 = 0 <;> by_cases c12 : I v 12 = 0 <;>
  rcases le17 hk with rfl | rfl | rfl | rfl | rfl | rfl | rfl | rfl | rfl | rfl | rfl | rfl | rfl | rfl | rfl | rfl | rfl | rfl <;>
  simp (config := {decide := true}) only [b_X4_ofLot_146, b_X4_ofLot_159, b_X4_ofLot_172, b_X4_ofLot_0, f_X4_ofLot, b_X4_lotAt_0, f_X4_lotAt, b_X4_requireIndex_9, b_X4_requireIndex_0, f_X4_requireIndex, b_X4_requireArgument_10, b_X4_requireArgument_0, f_X4_requireArgument, gI_pt hj, gR_pt hj, ob_pt hj, pI_pt hj, pB_pt hj, pR_pt hj, aI_pt hj, aR_pt hj, wI_pt hj, aL_pt hj, cl1_s, cl1_n, cl1_i, nul_n, nul_s, nm, dv2, dv3, dv4, dv5, dv8, dv10, dv20, dv40, bo, mI_pt hj, mT_pt hj, mZ_pt, tn0, tn1, tn2, tn3, tn4, tn5, tn6, h0, h1, h2, h3, h4, h5, h6, h7, h8, k1, k2, k3, c10, c11, c12, vLot, b01, ii0, ii1, ii2, ii3, ii4, if_true, if_false, ne_eq, not_false_eq_true, not_true_eq_false, true_and, and_true, false_and, and_false, and_self, true_or, or_true, false_or, or_false, or_self, Nat.reduceAdd, Nat.reduceLT, Nat.reduceLeDiff, Nat.succ_ne_zero, reduceIte, reduceCtorEq] <;> rfl
end Q2


section CT
variable {φ : Nat → Nat} {T : Nat → Nat × Nat} {I J : Nat → Nat → Int32} {R : Nat → Nat → Option Nat} {τ : Mem} {nS nL n z : Nat}
variable {s : Int32} {k : Nat}
def ctV (I : Nat → Nat → Int32) (s : Int32) (k : Nat) : Int32 := if I (6 * k + 19) 0 = s then 1 else 0
theorem x_count (h : Cx φ T I R (mZ τ) nS nL n) : f_X4_countLots (φ 0) s (pt φ T I R τ) = some (sm (ctV I s) nL, pt φ T I R τ) := by
  have hj := h.hj
  have L := itr_loop (fun n (s' : Int32 × Int32) => l_X4_countLots_4 n (φ 0) s s'.1 s'.2 (pt φ T I R τ)) (fun k s' => s'.1 = sm (ctV I s) k ∧ s'.2 = Int32.ofNat k) nL (by
    rintro n k ⟨acc, j⟩ hk ⟨rfl, rfl⟩
    refine ⟨(sm (ctV I s) (k + 1), Int32.ofNat (k + 1)), ⟨rfl, rfl⟩, ?_⟩
    obtain ⟨hj, hl, hx, ⟨hm22, hm23⟩, hr⟩ := h; obtain ⟨hx0, hx1, hx2, hx3, hx4, hx5, hx6, hx7, hx8, hx9, hx10, hx11, hx12, hx13, hx14, hx15, hx16, hx17, hx18, hx19, hx20, hx21, hx22, hx23, hx24, hx25, hx26, hx27⟩ := hx; obtain ⟨⟨g1, g2⟩, r1, r2, r3, r4, r5, r6, r7⟩ := hr
    have c1 : ¬ Int32.ofNat nL ≤ Int32.ofNat k := by rw [kN_le (by omega) (by omega)]; omega
    have c2 := kN_nn (a := k) (by omega)
    have c3 := tnK (k := k) (by omega)
    have c4 : k < 16 := by omega
    by_cases c : I (6 * k + 19) 0 = s
    · simp (config := {decide := true}) only [l_X4_countLots_4, itr_succ, b_X4_countLots_4, b_X4_countLots_28, gI_pt hj, gR_pt hj, ob_pt hj, pI_pt hj, pB_pt hj, pR_pt hj, aI_pt hj, aR_pt hj, wI_pt hj, aL_pt hj, cl1_s, cl1_n, cl1_i, nul_n, nul_s, nm, dv2, dv3, dv4, dv5, dv8, dv10, dv20, dv40, bo, mI_pt hj, mT_pt hj, mZ_pt, tn0, tn1, tn2, tn3, tn4, tn5, tn6, hx0, hx2, hx7, hx14 k c4, hx15 k (by omega), g2, c1, c2, c3, c4, c, sm, ctV, kN_s, ii0, ii1, ii2, ii3, ii4, if_true, if_false, ne_eq, not_false_eq_true, not_true_eq_false, true_and, and_true, false_and, and_false, and_self, true_or, or_true, false_or, or_false, or_self, Nat.reduceAdd, Nat.reduceLT, Nat.reduceLeDiff, Nat.succ_ne_zero, reduceIte, reduceCtorEq]
    · simp (config := {decide := true}) only [l_X4_countLots_4, itr_succ, b_X4_countLots_4, b_X4_countLots_28, gI_pt hj, gR_pt hj, ob_pt hj, pI_pt hj, pB_pt hj, pR_pt hj, aI_pt hj, aR_pt hj, wI_pt hj, aL_pt hj, cl1_s, cl1_n, cl1_i, nul_n, nul_s, nm, dv2, dv3, dv4, dv5, dv8, dv10, dv20, dv40, bo, mI_pt hj, mT_pt hj, mZ_pt, tn0, tn1, tn2, tn3, tn4, tn5, tn6, hx0, hx2, hx7, hx14 k c4, hx15 k (by omega), g2, c1, c2, c3, c4, c, sm, ctV, kN_s, Int32.add_zero, ii0, ii1, ii2, ii3, ii4, if_true, if_false, ne_eq, not_false_eq_true, not_true_eq_false, true_and, and_true, false_and, and_false, and_self, true_or, or_true, false_or, or_false, or_self, Nat.reduceAdd, Nat.reduceLT, Nat.reduceLeDiff, Nat.succ_ne_zero, reduceIte, reduceCtorEq])
  have hN := h.m.2.2.2.2.1
  obtain ⟨⟨acc, j⟩, ⟨rfl, rfl⟩, h5⟩ := L nL 0 40 (0, 0) (by omega) (by omega) ⟨rfl, rfl⟩
  have : ∃ m, 40 - nL = m + 1 := ⟨39 - nL, by omega⟩
  obtain ⟨m, hm⟩ := this
  simp only [hm] at h5
  rw [f_X4_countLots, b_X4_countLots_0, h5]
  obtain ⟨hj, hl, hx, ⟨hm22, hm23⟩, hr⟩ := h; obtain ⟨hx0, hx1, hx2, hx3, hx4, hx5, hx6, hx7, hx8, hx9, hx10, hx11, hx12, hx13, hx14, hx15, hx16, hx17, hx18, hx19, hx20, hx21, hx22, hx23, hx24, hx25, hx26, hx27⟩ := hx; obtain ⟨⟨g1, g2⟩, r1, r2, r3, r4, r5, r6, r7⟩ := hr
  have c1 : Int32.ofNat nL ≤ Int32.ofNat nL := by rw [kN_le (by omega) (by omega)]; omega
  simp (config := {decide := true}) only [l_X4_countLots_4, itr_succ, b_X4_countLots_4, gI_pt hj, gR_pt hj, ob_pt hj, pI_pt hj, pB_pt hj, pR_pt hj, aI_pt hj, aR_pt hj, wI_pt hj, aL_pt hj, cl1_s, cl1_n, cl1_i, nul_n, nul_s, nm, dv2, dv3, dv4, dv5, dv8, dv10, dv20, dv40, bo, mI_pt hj, mT_pt hj, mZ_pt, tn0, tn1, tn2, tn3, tn4, tn5, tn6, hx0, g2, c1, ii0, ii1, ii2, ii3, ii4, if_true, if_false, ne_eq, not_false_eq_true, not_true_eq_false, true_and, and_true, false_and, and_false, and_self, true_or, or_true, false_or, or_false, or_self, Nat.reduceAdd, Nat.reduceLT, Nat.reduceLeDiff, Nat.succ_ne_zero, reduceIte, reduceCtorEq]
def dyV (I : Nat → Nat → Int32) (k : Nat) : Int32 := I (6 * k + 19) 1
def MV (I : Nat → Nat → Int32) (nL k : Nat) : Int32 :=
  if k = 0 then I 0 1 else if k = 1 then I 0 2 else if k = 2 then I 0 4 else if k = 3 then sm (ctV I 0) nL else if k = 4 then sm (ctV I 1) nL else if k = 5 then sm (ctV I 2) nL
  else if k = 6 then I 0 8 else if k = 7 then I 0 9 else if k = 8 then sm (dyV I) nL else if k = 9 then I 0 11 else if k = 10 then I 0 10 else I 10 (k - 11)
theorem le14 {k : Nat} (h : k ≤ 14) : k = 0 ∨ k = 1 ∨ k = 2 ∨ k = 3 ∨ k = 4 ∨ k = 5 ∨ k = 6 ∨ k = 7 ∨ k = 8 ∨ k = 9 ∨ k = 10 ∨ k = 11 ∨ k = 12 ∨ k = 13 ∨ k = 14 := by omega
theorem x_dryAll (h : Cx φ T I R (mZ τ) nS nL n) : f_X4_dryOfAll (φ 0) (pt φ T I R τ) = some (sm (dyV I) nL, pt φ T I R τ) := by
  have hj := h.hj
  have L := itr_loop (fun n (s' : Int32 × Int32) => l_X4_dryOfAll_4 n (φ 0) s'.1 s'.2 (pt φ T I R τ)) (fun k s' => s'.1 = sm (dyV I) k ∧ s'.2 = Int32.ofNat k) nL (by
    rintro n k ⟨acc, j⟩ hk ⟨rfl, rfl⟩
    refine ⟨(sm (dyV I) (k + 1), Int32.ofNat (k + 1)), ⟨rfl, rfl⟩, ?_⟩
    obtain ⟨hj, hl, hx, ⟨hm22, hm23⟩, hr⟩ := h; obtain ⟨hx0, hx1, hx2, hx3, hx4, hx5, hx6, hx7, hx8, hx9, hx10, hx11, hx12, hx13, hx14, hx15, hx16, hx17, hx18, hx19, hx20, hx21, hx22, hx23, hx24, hx25, hx26, hx27⟩ := hx; obtain ⟨⟨g1, g2⟩, r1, r2, r3, r4, r5, r6, r7⟩ := hr
    have c1 : ¬ Int32.ofNat nL ≤ Int32.ofNat k := by rw [kN_le (by omega) (by omega)]; omega
    have c2 := kN_nn (a := k) (by omega)
    have c3 := tnK (k := k) (by omega)
    have c4 : k < 16 := by omega
    simp (config := {decide := true}) only [l_X4_dryOfAll_4, itr_succ, b_X4_dryOfAll_4, gI_pt hj, gR_pt hj, ob_pt hj, pI_pt hj, pB_pt hj, pR_pt hj, aI_pt hj, aR_pt hj, wI_pt hj, aL_pt hj, cl1_s, cl1_n, cl1_i, nul_n, nul_s, nm, dv2, dv3, dv4, dv5, dv8, dv10, dv20, dv40, bo, mI_pt hj, mT_pt hj, mZ_pt, tn0, tn1, tn2, tn3, tn4, tn5, tn6, hx0, hx2, hx7, hx14 k c4, hx15 k (by omega), g2, c1, c2, c3, c4, sm, dyV, kN_s, ii0, ii1, ii2, ii3, ii4, if_true, if_false, ne_eq, not_false_eq_true, not_true_eq_false, true_and, and_true, false_and, and_false, and_self, true_or, or_true, false_or, or_false, or_self, Nat.reduceAdd, Nat.reduceLT, Nat.reduceLeDiff, Nat.succ_ne_zero, reduceIte, reduceCtorEq])
  have hN := h.m.2.2.2.2.1
  obtain ⟨⟨acc, j⟩, ⟨rfl, rfl⟩, h5⟩ := L nL 0 40 (0, 0) (by omega) (by omega) ⟨rfl, rfl⟩
  obtain ⟨m, hm⟩ : ∃ m, 40 - nL = m + 1 := ⟨39 - nL, by omega⟩
  simp only [hm] at h5
  rw [f_X4_dryOfAll, b_X4_dryOfAll_0, h5]
  obtain ⟨hj, hl, hx, ⟨hm22, hm23⟩, hr⟩ := h; obtain ⟨hx0, hx1, hx2, hx3, hx4, hx5, hx6, hx7, hx8, hx9, hx10, hx11, hx12, hx13, hx14, hx15, hx16, hx17, hx18, hx19, hx20, hx21, hx22, hx23, hx24, hx25, hx26, hx27⟩ := hx; obtain ⟨⟨g1, g2⟩, r1, r2, r3, r4, r5, r6, r7⟩ := hr
  have c1 : Int32.ofNat nL ≤ Int32.ofNat nL := by rw [kN_le (by omega) (by omega)]; omega
  simp (config := {decide := true}) only [l_X4_dryOfAll_4, itr_succ, b_X4_dryOfAll_4, gI_pt hj, gR_pt hj, ob_pt hj, pI_pt hj, pB_pt hj, pR_pt hj, aI_pt hj, aR_pt hj, wI_pt hj, aL_pt hj, cl1_s, cl1_n, cl1_i, nul_n, nul_s, nm, dv2, dv3, dv4, dv5, dv8, dv10, dv20, dv40, bo, mI_pt hj, mT_pt hj, mZ_pt, tn0, tn1, tn2, tn3, tn4, tn5, tn6, hx0, g2, c1, ii0, ii1, ii2, ii3, ii4, if_true, if_false, ne_eq, not_false_eq_true, not_true_eq_false, true_and, and_true, false_and, and_false, and_self, true_or, or_true, false_or, or_false, or_self, Nat.reduceAdd, Nat.reduceLT, Nat.reduceLeDiff, Nat.succ_ne_zero, reduceIte, reduceCtorEq]
theorem x_many (h : Cx φ T I R (mZ τ) nS nL n) (hk : k ≤ 14) : f_X4_many (φ 0) (Int32.ofNat k) (pt φ T I R τ) = some ((MV I nL k), pt φ T I R τ) := by
  have C0 := x_count (τ := τ) (s := 0) h
  have C1 := x_count (τ := τ) (s := 1) h
  have C2 := x_count (τ := τ) (s := 2) h
  have D := x_dryAll (τ := τ) h
  obtain ⟨hj, hl, hx, ⟨hm22, hm23⟩, hr⟩ := h; obtain ⟨hx0, hx1, hx2, hx3, hx4, hx5, hx6, hx7, hx8, hx9, hx10, hx11, hx12, hx13, hx14, hx15, hx16, hx17, hx18, hx19, hx20, hx21, hx22, hx23, hx24, hx25, hx26, hx27⟩ := hx; obtain ⟨⟨g1, g2⟩, r1, r2, r3, r4, r5, r6, r7⟩ := hr
  rcases le14 hk with rfl | rfl | rfl | rfl | rfl | rfl | rfl | rfl | rfl | rfl | rfl | rfl | rfl | rfl | rfl <;>
  simp (config := {decide := true}) only [b_X4_many_0, f_X4_many, b_X4_requireArgument_10, b_X4_requireArgument_0, f_X4_requireArgument, C0, C1, C2, D, gI_pt hj, gR_pt hj, ob_pt hj, pI_pt hj, pB_pt hj, pR_pt hj, aI_pt hj, aR_pt hj, wI_pt hj, aL_pt hj, cl1_s, cl1_n, cl1_i, nul_n, nul_s, nm, dv2, dv3, dv4, dv5, dv8, dv10, dv20, dv40, bo, mI_pt hj, mT_pt hj, mZ_pt, tn0, tn1, tn2, tn3, tn4, tn5, tn6, hx0, hx5, hx9, MV, ii0, ii1, ii2, ii3, ii4, if_true, if_false, ne_eq, not_false_eq_true, not_true_eq_false, true_and, and_true, false_and, and_false, and_self, true_or, or_true, false_or, or_false, or_self, Nat.reduceAdd, Nat.reduceLT, Nat.reduceLeDiff, Nat.succ_ne_zero, reduceIte, reduceCtorEq] <;> rfl
end CT

section OF
variable {φ : Nat → Nat} {T : Nat → Nat × Nat} {I J : Nat → Nat → Int32} {R : Nat → Nat → Option Nat} {τ : Mem} {nS nL n z : Nat}
variable {mi a k i : Nat} {p q r : Int32} {τ0 τ1 : Mem}
def opX (J : Nat → Nat → Int32) (k : Nat) : Int32 := if J (6 * k + 22) 0 ≤ 0 then 0 else 1
theorem x_isOpen (hj : Inj φ T) {v : Nat} (h : T v = (1, 0)) : f_X0_isOpen (φ v) (pt φ T I R τ) = some (if I v 0 ≤ 0 then 0 else 1, pt φ T I R τ) := by
  by_cases c : I v 0 ≤ 0 <;> simp (config := {decide := true}) only [b_X0_isOpen_12, b_X0_isOpen_0, f_X0_isOpen, gI_pt hj, gR_pt hj, ob_pt hj, pI_pt hj, pB_pt hj, pR_pt hj, aI_pt hj, aR_pt hj, wI_pt hj, aL_pt hj, cl1_s, cl1_n, cl1_i, nul_n, nul_s, nm, dv2, dv3, dv4, dv5, dv8, dv10, dv20, dv40, bo, mI_pt hj, mT_pt hj, mZ_pt, tn0, tn1, tn2, tn3, tn4, tn5, tn6, h, c, ii0, ii1, ii2, ii3, ii4, if_true, if_false, ne_eq, not_false_eq_true, not_true_eq_false, true_and, and_true, false_and, and_false, and_self, true_or, or_true, false_or, or_false, or_self, Nat.reduceAdd, Nat.reduceLT, Nat.reduceLeDiff, Nat.succ_ne_zero, reduceIte, reduceCtorEq]
theorem x_offL (h : Cx φ T I R z nS nL n) (hJ : J 0 = I 0) : l_X4_offer_43 40 (φ 0) 0 0 (pt φ T J R τ) = some ((sm (opX J) nL), pt φ T J R τ) := by
  have hj := h.hj
  have L := itr_loop (fun n (s' : Int32 × Int32) => l_X4_offer_43 n (φ 0) s'.1 s'.2 (pt φ T J R τ)) (fun k s' => s'.1 = sm (opX J) k ∧ s'.2 = Int32.ofNat k) nL (by
    rintro n k ⟨acc, j⟩ hk ⟨rfl, rfl⟩
    refine ⟨(sm (opX J) (k + 1), Int32.ofNat (k + 1)), ⟨rfl, rfl⟩, ?_⟩
    obtain ⟨hj, hl, hx, ⟨hm22, hm23⟩, hr⟩ := h; obtain ⟨hx0, hx1, hx2, hx3, hx4, hx5, hx6, hx7, hx8, hx9, hx10, hx11, hx12, hx13, hx14, hx15, hx16, hx17, hx18, hx19, hx20, hx21, hx22, hx23, hx24, hx25, hx26, hx27⟩ := hx; obtain ⟨⟨g1, g2⟩, r1, r2, r3, r4, r5, r6, r7⟩ := hr
    have c1 : ¬ Int32.ofNat nL ≤ Int32.ofNat k := by rw [kN_le (by omega) (by omega)]; omega
    have c2 := kN_nn (a := k) (by omega)
    have c3 := tnK (k := k) (by omega)
    have c4 : k < 16 := by omega
    have O := x_isOpen (I := J) (R := R) (τ := τ) hj (hx21 k (by omega))
    by_cases c : J (6 * k + 22) 0 ≤ 0
    · rw [if_pos c] at O
      simp (config := {decide := true}) only [l_X4_offer_43, itr_succ, b_X4_offer_43, b_X4_offer_71, O, gI_pt hj, gR_pt hj, ob_pt hj, pI_pt hj, pB_pt hj, pR_pt hj, aI_pt hj, aR_pt hj, wI_pt hj, aL_pt hj, cl1_s, cl1_n, cl1_i, nul_n, nul_s, nm, dv2, dv3, dv4, dv5, dv8, dv10, dv20, dv40, bo, mI_pt hj, mT_pt hj, mZ_pt, tn0, tn1, tn2, tn3, tn4, tn5, tn6, hJ, hx0, hx2, hx7, hx14 k c4, hx15 k (by omega), hx18 k (by omega), hx21 k (by omega), g2, c1, c2, c3, c4, c, sm, opX, kN_s, Int32.add_zero, ii0, ii1, ii2, ii3, ii4, if_true, if_false, ne_eq, not_false_eq_true, not_true_eq_false, true_and, and_true, false_and, and_false, and_self, true_or, or_true, false_or, or_false, or_self, Nat.reduceAdd, Nat.reduceLT, Nat.reduceLeDiff, Nat.succ_ne_zero, reduceIte, reduceCtorEq]
    · rw [if_neg c] at O
      simp (config := {decide := true}) only [l_X4_offer_43, itr_succ, b_X4_offer_43, b_X4_offer_71, O, gI_pt hj, gR_pt hj, ob_pt hj, pI_pt hj, pB_pt hj, pR_pt hj, aI_pt hj, aR_pt hj, wI_pt hj, aL_pt hj, cl1_s, cl1_n, cl1_i, nul_n, nul_s, nm, dv2, dv3, dv4, dv5, dv8, dv10, dv20, dv40, bo, mI_pt hj, mT_pt hj, mZ_pt, tn0, tn1, tn2, tn3, tn4, tn5, tn6, hJ, hx0, hx2, hx7, hx14 k c4, hx15 k (by omega), hx18 k (by omega), hx21 k (by omega), g2, c1, c2, c3, c4, c, sm, opX, kN_s, ii0, ii1, ii2, ii3, ii4, if_true, if_false, ne_eq, not_false_eq_true, not_true_eq_false, true_and, and_true, false_and, and_false, and_self, true_or, or_true, false_or, or_false, or_self, Nat.reduceAdd, Nat.reduceLT, Nat.reduceLeDiff, Nat.succ_ne_zero, reduceIte, reduceCtorEq])
  have hN := h.m.2.2.2.2.1
  obtain ⟨⟨acc, j⟩, ⟨rfl, rfl⟩, h5⟩ := L nL 0 40 (0, 0) (by omega) (by omega) ⟨rfl, rfl⟩
  obtain ⟨m, hm⟩ : ∃ m, 40 - nL = m + 1 := ⟨39 - nL, by omega⟩
  simp only [hm] at h5
  rw [h5]
  obtain ⟨hj, hl, hx, ⟨hm22, hm23⟩, hr⟩ := h; obtain ⟨hx0, hx1, hx2, hx3, hx4, hx5, hx6, hx7, hx8, hx9, hx10, hx11, hx12, hx13, hx14, hx15, hx16, hx17, hx18, hx19, hx20, hx21, hx22, hx23, hx24, hx25, hx26, hx27⟩ := hx; obtain ⟨⟨g1, g2⟩, r1, r2, r3, r4, r5, r6, r7⟩ := hr
  have c1 : Int32.ofNat nL ≤ Int32.ofNat nL := by rw [kN_le (by omega) (by omega)]; omega
  simp (config := {decide := true}) only [l_X4_offer_43, itr_succ, b_X4_offer_43, gI_pt hj, gR_pt hj, ob_pt hj, pI_pt hj, pB_pt hj, pR_pt hj, aI_pt hj, aR_pt hj, wI_pt hj, aL_pt hj, cl1_s, cl1_n, cl1_i, nul_n, nul_s, nm, dv2, dv3, dv4, dv5, dv8, dv10, dv20, dv40, bo, mI_pt hj, mT_pt hj, mZ_pt, tn0, tn1, tn2, tn3, tn4, tn5, tn6, hJ, hx0, g2, c1, ii0, ii1, ii2, ii3, ii4, if_true, if_false, ne_eq, not_false_eq_true, not_true_eq_false, true_and, and_true, false_and, and_false, and_self, true_or, or_true, false_or, or_false, or_self, Nat.reduceAdd, Nat.reduceLT, Nat.reduceLeDiff, Nat.succ_ne_zero, reduceIte, reduceCtorEq]
end OF

