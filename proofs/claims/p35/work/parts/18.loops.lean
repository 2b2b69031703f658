section L2
variable {φ : Nat → Nat} {T : Nat → Nat × Nat} {I : Nat → Nat → Int32} {R : Nat → Nat → Option Nat} {τ : Mem} {v w a : Nat} {h d : Int32}
theorem up2_rowS {α : Type} {f : Nat → Nat → α} {a k : Nat} {v : α} : up2 f a k v = rowS f a (fun j => if j = k then v else f a j) := by
  funext b j
  by_cases q : b = a
  · subst q; simp [up2, rowS]
  · simp [up2, rowS, q]
theorem rowS_rowS {α : Type} {f : Nat → α} {a : Nat} {u v : α} : rowS (rowS f a u) a v = rowS f a v := by
  funext b; by_cases q : b = a <;> simp [rowS, q]
theorem rowS_at {α : Type} {f : Nat → α} {a : Nat} {u : α} : rowS f a u a = u := if_pos rfl
theorem rowS_ne {α : Type} {f : Nat → α} {a b : Nat} {u : α} (h : b ≠ a) : rowS f a u b = f b := if_neg h
theorem rowS_self {α : Type} {f : Nat → α} {a : Nat} {u : α} (h : u = f a) : rowS f a u = f := by
  funext b; by_cases q : b = a
  · subst q; simp [rowS, h]
  · simp [rowS, q]
def hs (h d : Int32) (x : Nat → Int32) : Nat → Int32 := fun k =>
  if k = 3 then (if 0 < x 3 - h - d / 20 then x 3 - h - d / 20 else 0)
  else if k = 7 then (if d < 20 * x 3 ∧ ¬ h < 4 ∧ ¬ x 3 ≤ d then x 7 + 1 else x 7)
  else if k = 8 then (if d < 20 * x 3 then x 8 else x 8 + h) else x k
def ws (c d : Int32) (x : Nat → Int32) : Nat → Int32 := fun k =>
  if k = 3 then (if d < x 3 - (x 3 * c + 9) / 10 then x 3 - (x 3 * c + 9) / 10 else d) else if k = 4 then x 4 + 1 else x k
def itn (f : (Nat → Int32) → (Nat → Int32)) : Nat → (Nat → Int32) → (Nat → Int32)
  | 0, x => x
  | n + 1, x => itn f n (f x)
theorem x_heat (hj : Inj φ T) (h1 : T a = (2, 0)) : f_X1_heatMinute (φ a) h (pt φ T I R τ) = some ((), pt φ T (rowS I a (hs h (I a 1) (I a))) R τ) := by
  by_cases c1 : I a 1 < 20 * I a 3
  · by_cases c2 : h < 4
    · simp (config := {decide := true}) only [b_X1_heatMinute_46, b_X1_heatMinute_0, f_X1_heatMinute, b_X1_isDried_19, b_X1_isDried_0, f_X1_isDried, gI_pt hj, gR_pt hj, ob_pt hj, pI_pt hj, pB_pt hj, pR_pt hj, aI_pt hj, aR_pt hj, wI_pt hj, aL_pt hj, cl1_s, cl1_n, cl1_i, nul_n, nul_s, nm, dv2, dv3, dv4, dv5, dv8, dv10, dv20, dv40, bo, mI_pt hj, mT_pt hj, mZ_pt, tn0, tn1, tn2, tn3, tn4, tn5, tn6, h1, c1, c2, up2_rowS, rowS_rowS, rowS_at, ii0, ii1, ii2, ii3, ii4, if_true, if_false, ne_eq, not_false_eq_true, not_true_eq_false, true_and, and_true, false_and, and_false, and_self, true_or, or_true, false_or, or_false, or_self, Nat.reduceAdd, Nat.reduceLT, Nat.reduceLeDiff, Nat.succ_ne_zero, reduceIte, reduceCtorEq]
      congr 4; funext k; rcases (show k = 3 ∨ k = 7 ∨ k = 8 ∨ (k ≠ 3 ∧ k ≠ 7 ∧ k ≠ 8) by omega) with rfl | rfl | rfl | ⟨k1, k2, k3⟩ <;> simp [hs, *]
    · by_cases c3 : I a 3 ≤ I a 1
      · simp (config := {decide := true}) only [b_X1_heatMinute_46, b_X1_heatMinute_0, f_X1_heatMinute, b_X1_isDried_19, b_X1_isDried_0, f_X1_isDried, gI_pt hj, gR_pt hj, ob_pt hj, pI_pt hj, pB_pt hj, pR_pt hj, aI_pt hj, aR_pt hj, wI_pt hj, aL_pt hj, cl1_s, cl1_n, cl1_i, nul_n, nul_s, nm, dv2, dv3, dv4, dv5, dv8, dv10, dv20, dv40, bo, mI_pt hj, mT_pt hj, mZ_pt, tn0, tn1, tn2, tn3, tn4, tn5, tn6, h1, c1, c2, c3, up2_rowS, rowS_rowS, rowS_at, ii0, ii1, ii2, ii3, ii4, if_true, if_false, ne_eq, not_false_eq_true, not_true_eq_false, true_and, and_true, false_and, and_false, and_self, true_or, or_true, false_or, or_false, or_self, Nat.reduceAdd, Nat.reduceLT, Nat.reduceLeDiff, Nat.succ_ne_zero, reduceIte, reduceCtorEq]
        congr 4; funext k; rcases (show k = 3 ∨ k = 7 ∨ k = 8 ∨ (k ≠ 3 ∧ k ≠ 7 ∧ k ≠ 8) by omega) with rfl | rfl | rfl | ⟨k1, k2, k3⟩ <;> simp [hs, *]
      · simp (config := {decide := true}) only [b_X1_heatMinute_46, b_X1_heatMinute_0, f_X1_heatMinute, b_X1_isDried_19, b_X1_isDried_0, f_X1_isDried, gI_pt hj, gR_pt hj, ob_pt hj, pI_pt hj, pB_pt hj, pR_pt hj, aI_pt hj, aR_pt hj, wI_pt hj, aL_pt hj, cl1_s, cl1_n, cl1_i, nul_n, nul_s, nm, dv2, dv3, dv4, dv5, dv8, dv10, dv20, dv40, bo, mI_pt hj, mT_pt hj, mZ_pt, tn0, tn1, tn2, tn3, tn4, tn5, tn6, h1, c1, c2, c3, up2_rowS, rowS_rowS, rowS_at, ii0, ii1, ii2, ii3, ii4, if_true, if_false, ne_eq, not_false_eq_true, not_true_eq_false, true_and, and_true, false_and, and_false, and_self, true_or, or_true, false_or, or_false, or_self, Nat.reduceAdd, Nat.reduceLT, Nat.reduceLeDiff, Nat.succ_ne_zero, reduceIte, reduceCtorEq]
        congr 4; funext k; rcases (show k = 3 ∨ k = 7 ∨ k = 8 ∨ (k ≠ 3 ∧ k ≠ 7 ∧ k ≠ 8) by omega) with rfl | rfl | rfl | ⟨k1, k2, k3⟩ <;> simp [hs, *]
  · simp (config := {decide := true}) only [b_X1_heatMinute_46, b_X1_heatMinute_0, f_X1_heatMinute, b_X1_isDried_19, b_X1_isDried_0, f_X1_isDried, gI_pt hj, gR_pt hj, ob_pt hj, pI_pt hj, pB_pt hj, pR_pt hj, aI_pt hj, aR_pt hj, wI_pt hj, aL_pt hj, cl1_s, cl1_n, cl1_i, nul_n, nul_s, nm, dv2, dv3, dv4, dv5, dv8, dv10, dv20, dv40, bo, mI_pt hj, mT_pt hj, mZ_pt, tn0, tn1, tn2, tn3, tn4, tn5, tn6, h1, c1, up2_rowS, rowS_rowS, rowS_at, ii0, ii1, ii2, ii3, ii4, if_true, if_false, ne_eq, not_false_eq_true, not_true_eq_false, true_and, and_true, false_and, and_false, and_self, true_or, or_true, false_or, or_false, or_self, Nat.reduceAdd, Nat.reduceLT, Nat.reduceLeDiff, Nat.succ_ne_zero, reduceIte, reduceCtorEq]
    congr 4; funext k; rcases (show k = 3 ∨ k = 7 ∨ k = 8 ∨ (k ≠ 3 ∧ k ≠ 7 ∧ k ≠ 8) by omega) with rfl | rfl | rfl | ⟨k1, k2, k3⟩ <;> simp [hs, *]
end L2


section L4
variable {φ : Nat → Nat} {T : Nat → Nat × Nat} {R : Nat → Nat → Option Nat} {τ : Mem} {v w a : Nat} {h d : Int32}
theorem hs1 {x : Nat → Int32} : hs h d x 1 = x 1 := by simp [hs]
theorem ws1 {x : Nat → Int32} : ws h d x 1 = x 1 := by simp [ws]
theorem x_fireL (hj : Inj φ T) (h1 : T a = (2, 0)) (m : Nat) (hm : m ≤ 30) : ∀ (q j fuel : Nat) (I : Nat → Nat → Int32), j + q = m → q < fuel →
    l_X4_fire_40 fuel h (Int32.ofNat m) (some (φ a)) (Int32.ofNat j) (pt φ T I R τ) =
      (if I a 1 < 20 * itn (hs h (I a 1)) q (I a) 3 then some ((itn (hs h (I a 1)) q (I a) 3), pt φ T (rowS I a (itn (hs h (I a 1)) q (I a))) R τ)
       else some ((itn (hs h (I a 1)) q (I a) 3), pt φ T (up2 (rowS I a (itn (hs h (I a 1)) q (I a))) a 0 2) R τ)) := by
  intro q
  induction q with
  | zero =>
    intro j fuel I e hf
    obtain ⟨fuel, rfl⟩ : ∃ f, fuel = f + 1 := ⟨fuel - 1, by omega⟩
    have c0 : Int32.ofNat m ≤ Int32.ofNat j := (oN_le (by omega) (by omega)).mpr (by omega)
    have e0 : rowS I a (itn (hs h (I a 1)) 0 (I a)) = I := rowS_self rfl
    rw [e0]
    by_cases c1 : I a 1 < 20 * I a 3
    · simp (config := {decide := true}) only [l_X4_fire_40, itr_succ, b_X4_fire_40, b_X1_isDried_19, b_X1_isDried_0, f_X1_isDried, b_X4_fire_72, gI_pt hj, gR_pt hj, ob_pt hj, pI_pt hj, pB_pt hj, pR_pt hj, aI_pt hj, aR_pt hj, wI_pt hj, aL_pt hj, cl1_s, cl1_n, cl1_i, nul_n, nul_s, nm, dv2, dv3, dv4, dv5, dv8, dv10, dv20, dv40, bo, mI_pt hj, mT_pt hj, mZ_pt, tn0, tn1, tn2, tn3, tn4, tn5, tn6, h1, c0, c1, itn, ii0, ii1, ii2, ii3, ii4, if_true, if_false, ne_eq, not_false_eq_true, not_true_eq_false, true_and, and_true, false_and, and_false, and_self, true_or, or_true, false_or, or_false, or_self, Nat.reduceAdd, Nat.reduceLT, Nat.reduceLeDiff, Nat.succ_ne_zero, reduceIte, reduceCtorEq]
    · simp (config := {decide := true}) only [l_X4_fire_40, itr_succ, b_X4_fire_40, b_X1_isDried_19, b_X1_isDried_0, f_X1_isDried, b_X4_fire_72, gI_pt hj, gR_pt hj, ob_pt hj, pI_pt hj, pB_pt hj, pR_pt hj, aI_pt hj, aR_pt hj, wI_pt hj, aL_pt hj, cl1_s, cl1_n, cl1_i, nul_n, nul_s, nm, dv2, dv3, dv4, dv5, dv8, dv10, dv20, dv40, bo, mI_pt hj, mT_pt hj, mZ_pt, tn0, tn1, tn2, tn3, tn4, tn5, tn6, h1, c0, c1, itn, up2, ii0, ii1, ii2, ii3, ii4, if_true, if_false, ne_eq, not_false_eq_true, not_true_eq_false, true_and, and_true, false_and, and_false, and_self, true_or, or_true, false_or, or_false, or_self, Nat.reduceAdd, Nat.reduceLT, Nat.reduceLeDiff, Nat.succ_ne_zero, reduceIte, reduceCtorEq]
  | succ q ih =>
    intro j fuel I e hf
    obtain ⟨fuel, rfl⟩ : ∃ f, fuel = f + 1 := ⟨fuel - 1, by omega⟩
    have c0 : ¬ Int32.ofNat m ≤ Int32.ofNat j := fun z => by have := (oN_le (by omega) (by omega)).mp z; omega
    have := ih (j + 1) fuel (rowS I a (hs h (I a 1) (I a))) (by omega) (by omega)
    rw [rowS_at, hs1, rowS_rowS] at this
    simp (config := {decide := true}) only [l_X4_fire_40, itr_succ, b_X4_fire_40, x_heat hj h1, gI_pt hj, gR_pt hj, ob_pt hj, pI_pt hj, pB_pt hj, pR_pt hj, aI_pt hj, aR_pt hj, wI_pt hj, aL_pt hj, cl1_s, cl1_n, cl1_i, nul_n, nul_s, nm, dv2, dv3, dv4, dv5, dv8, dv10, dv20, dv40, bo, mI_pt hj, mT_pt hj, mZ_pt, tn0, tn1, tn2, tn3, tn4, tn5, tn6, h1, c0, oN_s, itn, ii0, ii1, ii2, ii3, ii4, if_true, if_false, ne_eq, not_false_eq_true, not_true_eq_false, true_and, and_true, false_and, and_false, and_self, true_or, or_true, false_or, or_false, or_self, Nat.reduceAdd, Nat.reduceLT, Nat.reduceLeDiff, Nat.succ_ne_zero, reduceIte, reduceCtorEq]
    exact this
end L4


section L5
variable {φ : Nat → Nat} {T : Nat → Nat × Nat} {R : Nat → Nat → Option Nat} {τ : Mem} {v w a l e c n : Nat} {h d p : Int32}
theorem ws_up {I : Nat → Nat → Int32} : up2 (up2 I a 3 (if I a 1 < I a 3 - (I a 3 * h + 9) / 10 then I a 3 - (I a 3 * h + 9) / 10 else I a 1)) a 4 (I a 4 + 1) = rowS I a (ws h (I a 1) (I a)) := by
  rw [up2_rowS, up2_rowS, rowS_rowS, rowS_at]
  refine congrArg (rowS I a) ?_
  funext k
  by_cases k3 : k = 3
  · subst k3; rw [if_neg (by decide), if_pos rfl]; simp only [ws, if_true]
  · by_cases k4 : k = 4
    · subst k4; rw [if_pos rfl]; simp only [ws, if_neg k3, if_true]
    · simp only [ws, if_neg k3, if_neg k4]
theorem x_with1 {I : Nat → Nat → Int32} {k : Int32 → Int32 → Option Nat → Int32 → Mem → Option (Int32 × Mem)} {m j : Int32} (hj : Inj φ T) (h1 : T a = (2, 0)) (c0 : ¬ m ≤ j) : b_X4_wither_47 k m h (some (φ a)) j (pt φ T I R τ) = k m h (some (φ a)) (j + 1) (pt φ T (up2 (up2 I a 3 (if I a 1 < I a 3 - (I a 3 * h + 9) / 10 then I a 3 - (I a 3 * h + 9) / 10 else I a 1)) a 4 (I a 4 + 1)) R τ) := by
  have h2 : (T a).1 = 1 + 1 := by rw [h1]
  rw [b_X4_wither_47, if_neg c0, gI_pt hj h2, gI_pt hj h2, gI_pt hj h2, nm, nm, dv10, nm, nm, pI_pt hj h2, gI_pt hj h2, nm, pI_pt hj h2, nm, up2_k (show 4 ≠ 3 by decide)]
theorem x_withL (hj : Inj φ T) (h1 : T a = (2, 0)) (m : Nat) (hm : m ≤ 30) : ∀ (q j fuel : Nat) (I : Nat → Nat → Int32), j + q = m → q < fuel →
    l_X4_wither_47 fuel (Int32.ofNat m) h (some (φ a)) (Int32.ofNat j) (pt φ T I R τ) = some ((itn (ws h (I a 1)) q (I a) 3), pt φ T (rowS I a (itn (ws h (I a 1)) q (I a))) R τ) := by
  intro q
  induction q with
  | zero =>
    intro j fuel I e hf
    obtain ⟨fuel, rfl⟩ : ∃ f, fuel = f + 1 := ⟨fuel - 1, by omega⟩
    have c0 : Int32.ofNat m ≤ Int32.ofNat j := (oN_le (by omega) (by omega)).mpr (by omega)
    have e0 : rowS I a (itn (ws h (I a 1)) 0 (I a)) = I := rowS_self rfl
    rw [e0]
    unfold l_X4_wither_47
    rw [itr_succ, b_X4_wither_47, if_pos c0, gI_pt hj (by rw [h1]), itn]
  | succ q ih =>
    intro j fuel I e hf
    obtain ⟨fuel, rfl⟩ : ∃ f, fuel = f + 1 := ⟨fuel - 1, by omega⟩
    have c0 : ¬ Int32.ofNat m ≤ Int32.ofNat j := fun z => by have := (oN_le (by omega) (by omega)).mp z; omega
    have := ih (j + 1) fuel (rowS I a (ws h (I a 1) (I a))) (by omega) (by omega)
    rw [rowS_at, ws1, rowS_rowS] at this
    unfold l_X4_wither_47
    rw [itr_succ, x_with1 hj h1 c0, ws_up, oN_s, itn]
    exact this
end L5
section L7
variable {φ : Nat → Nat} {T : Nat → Nat × Nat} {R : Nat → Nat → Option Nat} {τ : Mem} {v w c n m : Nat} {h d p : Int32} {x y : Nat → Int32}
theorem wsK {k : Nat} (h3 : k ≠ 3) (h4 : k ≠ 4) : ∀ (q : Nat) (x : Nat → Int32), itn (ws h d) q x k = x k := by
  intro q; induction q with
  | zero => intro x; rfl
  | succ q ih => intro x; rw [itn, ih]; simp only [ws, if_neg h3, if_neg h4]
theorem wsE : ∀ (q : Nat) (x y : Nat → Int32), x 3 = y 3 → x 4 = y 4 → itn (ws h d) q x 3 = itn (ws h d) q y 3 ∧ itn (ws h d) q x 4 = itn (ws h d) q y 4 := by
  intro q; induction q with
  | zero => intro x y h3 h4; exact ⟨h3, h4⟩
  | succ q ih =>
    intro x y h3 h4
    rw [itn, itn]
    exact ih _ _ (by simp only [ws, if_true, h3]) (by simp [ws, h4])
theorem hsK {k : Nat} (h3 : k ≠ 3) (h7 : k ≠ 7) (h8 : k ≠ 8) : ∀ (q : Nat) (x : Nat → Int32), itn (hs h d) q x k = x k := by
  intro q; induction q with
  | zero => intro x; rfl
  | succ q ih => intro x; rw [itn, ih]; simp only [hs, if_neg h3, if_neg h7, if_neg h8]
theorem hsE : ∀ (q : Nat) (x y : Nat → Int32), x 3 = y 3 → x 7 = y 7 → x 8 = y 8 → itn (hs h d) q x 3 = itn (hs h d) q y 3 ∧ itn (hs h d) q x 7 = itn (hs h d) q y 7 ∧ itn (hs h d) q x 8 = itn (hs h d) q y 8 := by
  intro q; induction q with
  | zero => intro x y h3 h7 h8; exact ⟨h3, h7, h8⟩
  | succ q ih =>
    intro x y h3 h7 h8
    rw [itn, itn]
    exact ih _ _ (by simp only [hs, if_true, h3]) (by simp [hs, h3, h7]) (by simp [hs, h3, h8])
theorem x_withX {a : Nat} (hj : Inj φ T) (h1 : T a = (2, 0)) (hm : m ≤ 30) {I : Nat → Nat → Int32} : l_X4_wither_47 40 (Int32.ofNat m) h (some (φ a)) 0 (pt φ T I R τ) = some ((itn (ws h (I a 1)) m (I a) 3), pt φ T (rowS I a (itn (ws h (I a 1)) m (I a))) R τ) :=
  x_withL hj h1 m hm m 0 40 I (by omega) (by omega)
theorem x_fireX {a : Nat} (hj : Inj φ T) (h1 : T a = (2, 0)) (hm : m ≤ 30) {I : Nat → Nat → Int32} : l_X4_fire_40 40 h (Int32.ofNat m) (some (φ a)) 0 (pt φ T I R τ) =
      (if I a 1 < 20 * itn (hs h (I a 1)) m (I a) 3 then some ((itn (hs h (I a 1)) m (I a) 3), pt φ T (rowS I a (itn (hs h (I a 1)) m (I a))) R τ)
       else some ((itn (hs h (I a 1)) m (I a) 3), pt φ T (up2 (rowS I a (itn (hs h (I a 1)) m (I a))) a 0 2) R τ)) :=
  x_fireL hj h1 m hm m 0 40 I (by omega) (by omega)
end L7

