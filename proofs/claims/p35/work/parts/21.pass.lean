section PLM
variable {a b : Int32}
/-! A DAY of a section -/
def mn (a b : Int32) : Int32 := if a < b then a else b
theorem mnT {a b : Int32} : (mn a b).toInt = if a.toInt < b.toInt then a.toInt else b.toInt := by
  by_cases c : a < b
  · rw [mn, if_pos c, if_pos (ltT c)]
  · rw [mn, if_neg c, if_neg (fun q => c (Int32.lt_iff_toInt_lt.mpr q))]
theorem mnE {a b : Int32} : (if a < b then a else b) = mn a b := rfl
theorem mn_b {a b : Int32} : (mn a b).toInt ≤ a.toInt ∧ (mn a b).toInt ≤ b.toInt ∧ ((mn a b).toInt = a.toInt ∨ (mn a b).toInt = b.toInt) := by
  rw [mnT]; split <;> omega
end PLM
/-! A DAY of a section -/
def mx0 (x : Int32) : Int32 := if 0 < x then x else 0
def flF (f : Nat → Int32) (k : Nat) : Int32 := if k = 2 then f 2 - 5 else if k = 6 then f 6 + f 10 else if k = 10 then f 9 else if k = 9 then f 8 else if k = 8 then f 7 else if k = 7 then (if f 4 < 3 then 2 * f 0 else f 0) else f k
def d1F (f : Nat → Int32) (k : Nat) : Int32 := if k = 5 then (if f 5 ≤ 0 then f 5 else f 5 - 1) else f k
def d2F (w e : Int32) (f : Nat → Int32) (k : Nat) : Int32 := if k = 4 then (if e + f 1 < 5 then mx0 (f 4 - 1) else f 4 + 1) else if k = 2 then f 2 + (mx0 (w - f 1) + mn e 3) else f k
def d3F (f : Nat → Int32) (k : Nat) : Int32 := if k = 3 then f 3 - 1 else f k
def flN (f : Nat → Int32) : Int32 × (Nat → Int32) := if f 2 < 5 then (0, f) else if f 2 < 10 then (1, flF f) else (2, flF (flF f))
def dayF (w e : Int32) (f : Nat → Int32) : Int32 × (Nat → Int32) := if d1F f 3 ≤ 0 then flN (d2F w e (d1F f)) else (0, d3F (d1F f))
def SXr (J : Nat → Nat → Int32) (a b : Nat) (f : Nat → Int32) : Prop := (∀ k, k ≤ 6 → J a k = f k) ∧ (∀ k, k < 4 → J b k = f (k + 7))
section DY
variable {φ : Nat → Nat} {T : Nat → Nat × Nat} {I J : Nat → Nat → Int32} {R : Nat → Nat → Option Nat} {τ : Mem} {a b q k : Nat} {w e : Int32} {f : Nat → Int32}
theorem mx0E {x : Int32} : (if 0 < x then x else 0) = mx0 x := rfl
theorem le6 {k : Nat} (h : k ≤ 6) : k = 0 ∨ k = 1 ∨ k = 2 ∨ k = 3 ∨ k = 4 ∨ k = 5 ∨ k = 6 := by omega
theorem lt4 {k : Nat} (h : k < 4) : k = 0 ∨ k = 1 ∨ k = 2 ∨ k = 3 := by omega
theorem x_flush (hj : Inj φ T) (ta : T a = (3, 0)) (ra : R a 7 = some (φ b)) (tb : T b = (100, 4)) (hab : a ≠ b) (h : SXr J a b f) : ∃ J', f_X2_flushOnce (φ a) (pt φ T J R τ) = some ((), pt φ T J' R τ) ∧ SXr J' a b (flF f) ∧ ∀ v, v ≠ a → v ≠ b → J' v = J v := by
  obtain ⟨h1, h2⟩ := h
  have a0 := h1 0 (by omega)
  have a2 := h1 2 (by omega)
  have a4 := h1 4 (by omega)
  have a6 := h1 6 (by omega)
  have b0 := h2 0 (by omega)
  have b1 := h2 1 (by omega)
  have b2 := h2 2 (by omega)
  have b3 := h2 3 (by omega)
  have hba : b ≠ a := Ne.symm hab
  simp only [Nat.reduceAdd] at b0 b1 b2 b3
  refine ⟨up2 (up2 (up2 (up2 (up2 (up2 J a 2 (f 2 - 5)) a 6 (f 6 + f 10)) b 3 (f 9)) b 2 (f 8)) b 1 (f 7)) b 0 (if f 4 < 3 then 2 * f 0 else f 0), ?_, ⟨fun k hk => ?_, fun k hk => ?_⟩, fun v y1 y2 => by simp only [up2_row y1, up2_row y2]⟩
  · by_cases c : f 4 < 3
    · rw [if_pos c]
      simp (config := {decide := true}) only [b_X2_flushOnce_87, b_X2_flushOnce_0, f_X2_flushOnce, gI_pt hj, gR_pt hj, ob_pt hj, pI_pt hj, pB_pt hj, pR_pt hj, aI_pt hj, aR_pt hj, wI_pt hj, aL_pt hj, cl1_s, cl1_n, cl1_i, nul_n, nul_s, nm, dv2, dv3, dv4, dv5, dv8, dv10, dv20, dv40, bo, mI_pt hj, mT_pt hj, mZ_pt, tn0, tn1, tn2, tn3, tn4, tn5, tn6, ta, ra, tb, a0, a2, a4, a6, b0, b1, b2, b3, up2_row hab, up2_row hba, up2_k, up2_at, c, ii0, ii1, ii2, ii3, ii4, if_true, if_false, ne_eq, not_false_eq_true, not_true_eq_false, true_and, and_true, false_and, and_false, and_self, true_or, or_true, false_or, or_false, or_self, Nat.reduceAdd, Nat.reduceLT, Nat.reduceLeDiff, Nat.succ_ne_zero, reduceIte, reduceCtorEq]
    · rw [if_neg c]
      simp (config := {decide := true}) only [b_X2_flushOnce_87, b_X2_flushOnce_0, f_X2_flushOnce, gI_pt hj, gR_pt hj, ob_pt hj, pI_pt hj, pB_pt hj, pR_pt hj, aI_pt hj, aR_pt hj, wI_pt hj, aL_pt hj, cl1_s, cl1_n, cl1_i, nul_n, nul_s, nm, dv2, dv3, dv4, dv5, dv8, dv10, dv20, dv40, bo, mI_pt hj, mT_pt hj, mZ_pt, tn0, tn1, tn2, tn3, tn4, tn5, tn6, ta, ra, tb, a0, a2, a4, a6, b0, b1, b2, b3, up2_row hab, up2_row hba, up2_k, up2_at, c, ii0, ii1, ii2, ii3, ii4, if_true, if_false, ne_eq, not_false_eq_true, not_true_eq_false, true_and, and_true, false_and, and_false, and_self, true_or, or_true, false_or, or_false, or_self, Nat.reduceAdd, Nat.reduceLT, Nat.reduceLeDiff, Nat.succ_ne_zero, reduceIte, reduceCtorEq]
  · rw [up2_row hab, up2_row hab, up2_row hab, up2_row hab]
    rcases le6 hk with rfl | rfl | rfl | rfl | rfl | rfl | rfl <;> simp (config := {decide := true}) only [up2, flF, and_false, and_true, if_true, if_false, h1, Nat.reduceLeDiff]
  · rcases lt4 hk with rfl | rfl | rfl | rfl <;> simp (config := {decide := true}) only [up2, flF, and_false, and_true, if_true, if_false]
theorem dv5v {s : Int32} (h0 : 0 ≤ s.toInt) : (s / 5).toInt = s.toInt / 5 := by
  have z5 : (5 : Int32).toInt = 5 := rfl
  have hs := Int32.toInt_lt s
  rw [Int32.toInt_div, z5, Int.tdiv_eq_ediv_of_nonneg h0]
  exact Int.bmod_eq_of_le (by omega) (by omega)
theorem x_fl (hj : Inj φ T) (ta : T a = (3, 0)) (ra : R a 7 = some (φ b)) (tb : T b = (100, 4)) (hab : a ≠ b) (h : SXr J a b f) (s0 : 0 ≤ (f 2).toInt) (s1 : (f 2).toInt ≤ 14) : ∃ J', l_X2_growDay_94 40 (φ a) (f 2 / 5) 0 (pt φ T J R τ) = some ((flN f).1, pt φ T J' R τ) ∧ SXr J' a b (flN f).2 ∧ ∀ v, v ≠ a → v ≠ b → J' v = J v := by
  have z5 : (5 : Int32).toInt = 5 := rfl
  have z10 : (10 : Int32).toInt = 10 := rfl
  have dv := dv5v s0
  have ta1 : (T a).1 = 2 + 1 := by rw [ta]
  by_cases c1 : f 2 < 5
  · have c1' := ltT c1
    have e : f 2 / 5 = 0 := Int32.toInt_inj.mp (by rw [dv, show (0 : Int32).toInt = 0 from rfl]; omega)
    refine ⟨J, ?_, ?_, fun _ _ _ => rfl⟩
    · rw [e, flN, if_pos c1]
      simp (config := {decide := true}) only [l_X2_growDay_94, itr_40, b_X2_growDay_94, ii0, ii1, ii2, ii3, ii4, if_true, if_false, ne_eq, not_false_eq_true, not_true_eq_false, true_and, and_true, false_and, and_false, and_self, true_or, or_true, false_or, or_false, or_self, Nat.reduceAdd, Nat.reduceLT, Nat.reduceLeDiff, Nat.succ_ne_zero, reduceIte, reduceCtorEq]
    · rw [flN, if_pos c1]; exact h
  · have c1' := leT (Int32.not_lt.mp c1)
    obtain ⟨J1, F1, F2, F3⟩ := x_flush (τ := τ) hj ta ra tb hab h
    by_cases c2 : f 2 < 10
    · have c2' := ltT c2
      have e : f 2 / 5 = 1 := Int32.toInt_inj.mp (by rw [dv, show (1 : Int32).toInt = 1 from rfl]; omega)
      refine ⟨J1, ?_, ?_, F3⟩
      · rw [e, flN, if_neg c1, if_pos c2]
        simp (config := {decide := true}) only [l_X2_growDay_94, itr_40, itr_39, b_X2_growDay_94, F1, gI_pt hj, gR_pt hj, ob_pt hj, pI_pt hj, pB_pt hj, pR_pt hj, aI_pt hj, aR_pt hj, wI_pt hj, aL_pt hj, cl1_s, cl1_n, cl1_i, nul_n, nul_s, nm, dv2, dv3, dv4, dv5, dv8, dv10, dv20, dv40, bo, mI_pt hj, mT_pt hj, mZ_pt, tn0, tn1, tn2, tn3, tn4, tn5, tn6, ta, ii0, ii1, ii2, ii3, ii4, if_true, if_false, ne_eq, not_false_eq_true, not_true_eq_false, true_and, and_true, false_and, and_false, and_self, true_or, or_true, false_or, or_false, or_self, Nat.reduceAdd, Nat.reduceLT, Nat.reduceLeDiff, Nat.succ_ne_zero, reduceIte, reduceCtorEq]
      · rw [flN, if_neg c1, if_pos c2]; exact F2
    · have c2' := leT (Int32.not_lt.mp c2)
      have e : f 2 / 5 = 2 := Int32.toInt_inj.mp (by rw [dv, show (2 : Int32).toInt = 2 from rfl]; omega)
      obtain ⟨J2, G1, G2, G3⟩ := x_flush (τ := τ) hj ta ra tb hab F2
      refine ⟨J2, ?_, ?_, fun v y1 y2 => by rw [G3 v y1 y2, F3 v y1 y2]⟩
      · rw [e, flN, if_neg c1, if_neg c2]
        simp (config := {decide := true}) only [l_X2_growDay_94, itr_40, itr_39, itr_38, b_X2_growDay_94, F1, G1, gI_pt hj, gR_pt hj, ob_pt hj, pI_pt hj, pB_pt hj, pR_pt hj, aI_pt hj, aR_pt hj, wI_pt hj, aL_pt hj, cl1_s, cl1_n, cl1_i, nul_n, nul_s, nm, dv2, dv3, dv4, dv5, dv8, dv10, dv20, dv40, bo, mI_pt hj, mT_pt hj, mZ_pt, tn0, tn1, tn2, tn3, tn4, tn5, tn6, ta, ii0, ii1, ii2, ii3, ii4, if_true, if_false, ne_eq, not_false_eq_true, not_true_eq_false, true_and, and_true, false_and, and_false, and_self, true_or, or_true, false_or, or_false, or_self, Nat.reduceAdd, Nat.reduceLT, Nat.reduceLeDiff, Nat.succ_ne_zero, reduceIte, reduceCtorEq]
      · rw [flN, if_neg c1, if_neg c2]; exact G2
/-- the bounds of a section's numbers -/
def Bd (f : Nat → Int32) (H : Nat) : Prop := (1 ≤ (f 0).toInt ∧ (f 0).toInt ≤ 9) ∧ (0 ≤ (f 1).toInt ∧ (f 1).toInt ≤ 2) ∧ (0 ≤ (f 2).toInt ∧ (f 2).toInt ≤ 4) ∧ (0 ≤ (f 3).toInt ∧ (f 3).toInt ≤ 4) ∧ (∀ k, k < 4 → 0 ≤ (f (k + 7)).toInt ∧ (f (k + 7)).toInt ≤ 18) ∧ (0 ≤ (f 6).toInt ∧ (f 6).toInt ≤ H)
theorem mx0_b {x : Int32} : 0 ≤ (mx0 x).toInt ∧ ((mx0 x).toInt = x.toInt ∨ (mx0 x).toInt = 0) := by
  have z : (0 : Int32).toInt = 0 := rfl
  rw [mx0]; split
  · rename_i h
    have := ltT h; rw [z] at this; exact ⟨by omega, Or.inl rfl⟩
  · exact ⟨by omega, Or.inr rfl⟩
theorem sap_b {H : Nat} (h : Bd f H) (hw : 0 ≤ w.toInt ∧ w.toInt ≤ 6) (he : 0 ≤ e.toInt ∧ e.toInt ≤ 6) : (d2F w e (d1F f) 2).toInt = (f 2).toInt + ((mx0 (w - f 1)).toInt + (mn e 3).toInt) ∧ 0 ≤ (d2F w e (d1F f) 2).toInt ∧ (d2F w e (d1F f) 2).toInt ≤ 14 := by
  obtain ⟨-, ⟨s1, s2⟩, ⟨p1, p2⟩, -⟩ := h
  have z3 : (3 : Int32).toInt = 3 := rfl
  have m1 := mx0_b (x := w - f 1)
  have ws : (w - f 1).toInt = w.toInt - (f 1).toInt := tSub (by omega) (by omega)
  have m2 := mn_b (a := e) (b := 3)
  have e1 : (mx0 (w - f 1) + mn e 3).toInt = (mx0 (w - f 1)).toInt + (mn e 3).toInt := tAdd (by omega) (by omega)
  have e2 : d2F w e (d1F f) 2 = f 2 + (mx0 (w - f 1) + mn e 3) := rfl
  have e3 : (f 2 + (mx0 (w - f 1) + mn e 3)).toInt = (f 2).toInt + ((mx0 (w - f 1)).toInt + (mn e 3).toInt) := by rw [tAdd (by omega) (by omega), e1]
  rw [e2, e3]
  refine ⟨rfl, by omega, by omega⟩
theorem fl_b {H : Nat} (h0 : 1 ≤ (f 0).toInt ∧ (f 0).toInt ≤ 9) (h7 : ∀ k, k < 4 → 0 ≤ (f (k + 7)).toInt ∧ (f (k + 7)).toInt ≤ 18) (h6 : 0 ≤ (f 6).toInt ∧ (f 6).toInt ≤ H) (hH : H ≤ 1000000) : (∀ k, k < 4 → 0 ≤ (flF f (k + 7)).toInt ∧ (flF f (k + 7)).toInt ≤ 18) ∧ 0 ≤ (flF f 6).toInt ∧ (flF f 6).toInt ≤ ((H + 18 : Nat) : Int) := by
  have z2 : (2 : Int32).toInt = 2 := rfl
  have f0 := h7 0 (by omega)
  have f1 := h7 1 (by omega)
  have f2 := h7 2 (by omega)
  have f3 := h7 3 (by omega)
  simp only [Nat.reduceAdd] at f0 f1 f2 f3
  have e6 : (flF f 6).toInt = (f 6).toInt + (f 10).toInt := tAdd (by omega) (by omega)
  refine ⟨fun k hk => ?_, by rw [e6]; omega, by rw [e6]; omega⟩
  rcases lt4 hk with rfl | rfl | rfl | rfl
  · show 0 ≤ (if f 4 < 3 then 2 * f 0 else f 0).toInt ∧ (if f 4 < 3 then 2 * f 0 else f 0).toInt ≤ 18
    split
    · have : (2 * f 0).toInt = 2 * (f 0).toInt := by rw [tMul (by rw [z2]; omega) (by rw [z2]; omega), z2]
      omega
    · omega
  · exact f0
  · exact f1
  · exact f2
theorem day_b {H : Nat} (h : Bd f H) (hH : H ≤ 900000) (hw : 0 ≤ w.toInt ∧ w.toInt ≤ 6) (he : 0 ≤ e.toInt ∧ e.toInt ≤ 6) : Bd (dayF w e f).2 (H + 36) := by
  have SB := sap_b h hw he
  obtain ⟨a0, a1, a2, a3, a7, a6⟩ := h
  have z5 : (5 : Int32).toInt = 5 := rfl
  have z10 : (10 : Int32).toInt = 10 := rfl
  have z0 : (0 : Int32).toInt = 0 := rfl
  have z1 : (1 : Int32).toInt = 1 := rfl
  rw [dayF]
  split
  · rename_i hr
    obtain ⟨f', hf'⟩ : ∃ f', f' = d2F w e (d1F f) := ⟨_, rfl⟩
    rw [← hf'] at SB ⊢
    obtain ⟨-, s0, s1⟩ := SB
    have g0 : f' 0 = f 0 := by rw [hf']; rfl
    have g1 : f' 1 = f 1 := by rw [hf']; rfl
    have g3 : f' 3 = f 3 := by rw [hf']; rfl
    have g6 : f' 6 = f 6 := by rw [hf']; rfl
    have g7 : ∀ k, k < 4 → f' (k + 7) = f (k + 7) := fun k hk => by rw [hf']; rcases lt4 hk with rfl | rfl | rfl | rfl <;> rfl
    have b0 : 1 ≤ (f' 0).toInt ∧ (f' 0).toInt ≤ 9 := by rw [g0]; exact a0
    have b7 : ∀ k, k < 4 → 0 ≤ (f' (k + 7)).toInt ∧ (f' (k + 7)).toInt ≤ 18 := fun k hk => by rw [g7 k hk]; exact a7 k hk
    have b6 : 0 ≤ (f' 6).toInt ∧ (f' 6).toInt ≤ H := by rw [g6]; exact a6
    obtain ⟨c1, c2, c3⟩ := fl_b b0 b7 b6 (by omega)
    rw [flN]
    split
    · rename_i y; have := ltT y
      show Bd f' (H + 36)
      exact ⟨b0, by rw [g1]; exact a1, ⟨s0, by omega⟩, by rw [g3]; exact a3, b7, ⟨b6.1, by have := b6.2; omega⟩⟩
    · rename_i y; have y' := leT (Int32.not_lt.mp y)
      have e1 : (f' 2 - 5).toInt = (f' 2).toInt - 5 := by rw [tSub (by omega) (by omega), z5]
      split
      · rename_i x; have := ltT x
        show Bd (flF f') (H + 36)
        exact ⟨b0, by rw [show flF f' 1 = f' 1 from rfl, g1]; exact a1, ⟨by rw [show flF f' 2 = f' 2 - 5 from rfl, e1]; omega, by rw [show flF f' 2 = f' 2 - 5 from rfl, e1]; omega⟩, by rw [show flF f' 3 = f' 3 from rfl, g3]; exact a3, c1, ⟨c2, by omega⟩⟩
      · rename_i x; have x' := leT (Int32.not_lt.mp x)
        have e2 : (f' 2 - 5 - 5).toInt = (f' 2).toInt - 10 := by rw [tSub (by omega) (by omega), e1, z5]; omega
        obtain ⟨k1, k2, k3⟩ := fl_b (f := flF f') (H := H + 18) b0 c1 ⟨c2, c3⟩ (by omega)
        show Bd (flF (flF f')) (H + 36)
        exact ⟨b0, by rw [show flF (flF f') 1 = f' 1 from rfl, g1]; exact a1, ⟨by rw [show flF (flF f') 2 = f' 2 - 5 - 5 from rfl, e2]; omega, by rw [show flF (flF f') 2 = f' 2 - 5 - 5 from rfl, e2]; omega⟩, by rw [show flF (flF f') 3 = f' 3 from rfl, g3]; exact a3, k1, ⟨k2, by omega⟩⟩
  · rename_i hr
    have hr' := ltT (Int32.not_le.mp hr)
    have e3 : d1F f 3 = f 3 := rfl
    rw [e3, z0] at hr'
    have e4 : (f 3 - 1).toInt = (f 3).toInt - 1 := by rw [tSub (by omega) (by omega), z1]
    refine ⟨a0, a1, a2, ⟨by show 0 ≤ (f 3 - 1).toInt; omega, by show (f 3 - 1).toInt ≤ 4; omega⟩, fun k hk => ?_, ⟨a6.1, by have := a6.2; show (f 6).toInt ≤ _; omega⟩⟩
    have := a7 k hk
    rcases lt4 hk with rfl | rfl | rfl | rfl <;> exact this
theorem SXr.set {g : Nat → Int32} {x : Int32} {j : Nat} (h : SXr J a b f) (hab : a ≠ b) (hj6 : j ≤ 6) (hg : ∀ k, g k = if k = j then x else f k) : SXr (up2 J a j x) a b g := by
  refine ⟨fun k hk => ?_, fun k hk => ?_⟩
  · rw [hg]
    by_cases c : k = j
    · rw [c, up2_at, if_pos rfl]
    · rw [up2_k c, if_neg c]; exact h.1 k hk
  · rw [up2_row (Ne.symm hab), hg, if_neg (by omega)]; exact h.2 k hk
theorem x_d17 (hj : Inj φ T) (ta : T a = (3, 0)) (ra : R a 7 = some (φ b)) (tb : T b = (100, 4)) (hab : a ≠ b) (h : SXr J a b f) (s0 : 0 ≤ (d2F w e f 2).toInt) (s1 : (d2F w e f 2).toInt ≤ 14) : ∃ J', b_X2_growDay_17 (φ a) w e (pt φ T J R τ) = some ((if f 3 ≤ 0 then flN (d2F w e f) else (0, d3F f)).1, pt φ T J' R τ) ∧ SXr J' a b (if f 3 ≤ 0 then flN (d2F w e f) else (0, d3F f)).2 ∧ ∀ v, v ≠ a → v ≠ b → J' v = J v := by
  have a1 := h.1 1 (by omega)
  have a2 := h.1 2 (by omega)
  have a3 := h.1 3 (by omega)
  have a4 := h.1 4 (by omega)
  by_cases c : f 3 ≤ 0
  · simp only [if_pos c]
    have core : ∀ y, y = d2F w e f 4 → ∃ J', b_X2_growDay_66 (φ a) w e y (some (φ a)) (pt φ T J R τ) = some ((flN (d2F w e f)).1, pt φ T J' R τ) ∧ SXr J' a b (flN (d2F w e f)).2 ∧ ∀ v, v ≠ a → v ≠ b → J' v = J v := by
      intro y hy
      have S1 := h.set (x := y) (j := 4) (g := fun k => if k = 4 then y else f k) hab (by omega) (fun _ => rfl)
      have S2 := S1.set (x := f 2 + (mx0 (w - f 1) + mn e 3)) (j := 2) (g := d2F w e f) hab (by omega) (fun k => by
        by_cases k2 : k = 2
        · rw [k2, if_pos rfl]; rfl
        · by_cases k4 : k = 4
          · rw [k4, if_neg (by decide), if_pos rfl, hy]
          · rw [if_neg k2, if_neg k4, d2F, if_neg k4, if_neg k2])
      obtain ⟨J', L1, L2, L3⟩ := x_fl (τ := τ) hj ta ra tb hab S2 s0 s1
      refine ⟨J', ?_, L2, fun v y1 y2 => by rw [L3 v y1 y2, up2_row y1, up2_row y1]⟩
      have L1' : l_X2_growDay_94 40 (φ a) ((f 2 + (mx0 (w - f 1) + mn e 3)) / 5) 0 (pt φ T (up2 (up2 J a 4 y) a 2 (f 2 + (mx0 (w - f 1) + mn e 3))) R τ) = some ((flN (d2F w e f)).1, pt φ T J' R τ) := L1
      simp (config := {decide := true}) only [b_X2_growDay_66, b_X2_sapOfDay_0, f_X2_sapOfDay, gI_pt hj, gR_pt hj, ob_pt hj, pI_pt hj, pB_pt hj, pR_pt hj, aI_pt hj, aR_pt hj, wI_pt hj, aL_pt hj, cl1_s, cl1_n, cl1_i, nul_n, nul_s, nm, dv2, dv3, dv4, dv5, dv8, dv10, dv20, dv40, bo, mI_pt hj, mT_pt hj, mZ_pt, tn0, tn1, tn2, tn3, tn4, tn5, tn6, ta, a1, a2, up2_k, up2_at, mx0E, mnE, L1', ii0, ii1, ii2, ii3, ii4, if_true, if_false, ne_eq, not_false_eq_true, not_true_eq_false, true_and, and_true, false_and, and_false, and_self, true_or, or_true, false_or, or_false, or_self, Nat.reduceAdd, Nat.reduceLT, Nat.reduceLeDiff, Nat.succ_ne_zero, reduceIte, reduceCtorEq]
    by_cases c2 : e + f 1 < 5
    · obtain ⟨J', L1, L2, L3⟩ := core (mx0 (f 4 - 1)) (by rw [d2F, if_pos rfl, if_pos c2])
      refine ⟨J', ?_, L2, L3⟩
      simp (config := {decide := true}) only [b_X2_growDay_17, gI_pt hj, gR_pt hj, ob_pt hj, pI_pt hj, pB_pt hj, pR_pt hj, aI_pt hj, aR_pt hj, wI_pt hj, aL_pt hj, cl1_s, cl1_n, cl1_i, nul_n, nul_s, nm, dv2, dv3, dv4, dv5, dv8, dv10, dv20, dv40, bo, mI_pt hj, mT_pt hj, mZ_pt, tn0, tn1, tn2, tn3, tn4, tn5, tn6, ta, a1, a3, a4, c, c2, mx0E, L1, ii0, ii1, ii2, ii3, ii4, if_true, if_false, ne_eq, not_false_eq_true, not_true_eq_false, true_and, and_true, false_and, and_false, and_self, true_or, or_true, false_or, or_false, or_self, Nat.reduceAdd, Nat.reduceLT, Nat.reduceLeDiff, Nat.succ_ne_zero, reduceIte, reduceCtorEq]
    · obtain ⟨J', L1, L2, L3⟩ := core (f 4 + 1) (by rw [d2F, if_pos rfl, if_neg c2])
      refine ⟨J', ?_, L2, L3⟩
      simp (config := {decide := true}) only [b_X2_growDay_17, gI_pt hj, gR_pt hj, ob_pt hj, pI_pt hj, pB_pt hj, pR_pt hj, aI_pt hj, aR_pt hj, wI_pt hj, aL_pt hj, cl1_s, cl1_n, cl1_i, nul_n, nul_s, nm, dv2, dv3, dv4, dv5, dv8, dv10, dv20, dv40, bo, mI_pt hj, mT_pt hj, mZ_pt, tn0, tn1, tn2, tn3, tn4, tn5, tn6, ta, a1, a3, a4, c, c2, L1, ii0, ii1, ii2, ii3, ii4, if_true, if_false, ne_eq, not_false_eq_true, not_true_eq_false, true_and, and_true, false_and, and_false, and_self, true_or, or_true, false_or, or_false, or_self, Nat.reduceAdd, Nat.reduceLT, Nat.reduceLeDiff, Nat.succ_ne_zero, reduceIte, reduceCtorEq]
  · simp only [if_neg c]
    refine ⟨up2 J a 3 (f 3 - 1), ?_, h.set hab (by omega) (fun k => rfl), fun v y1 y2 => up2_row y1⟩
    simp (config := {decide := true}) only [b_X2_growDay_17, gI_pt hj, gR_pt hj, ob_pt hj, pI_pt hj, pB_pt hj, pR_pt hj, aI_pt hj, aR_pt hj, wI_pt hj, aL_pt hj, cl1_s, cl1_n, cl1_i, nul_n, nul_s, nm, dv2, dv3, dv4, dv5, dv8, dv10, dv20, dv40, bo, mI_pt hj, mT_pt hj, mZ_pt, tn0, tn1, tn2, tn3, tn4, tn5, tn6, ta, a3, c, ii0, ii1, ii2, ii3, ii4, if_true, if_false, ne_eq, not_false_eq_true, not_true_eq_false, true_and, and_true, false_and, and_false, and_self, true_or, or_true, false_or, or_false, or_self, Nat.reduceAdd, Nat.reduceLT, Nat.reduceLeDiff, Nat.succ_ne_zero, reduceIte, reduceCtorEq]
theorem d1F_p (c : f 5 ≤ 0) : d1F f = f := by
  funext k
  by_cases k5 : k = 5
  · rw [k5, d1F, if_pos rfl, if_pos c]
  · rw [d1F, if_neg k5]
theorem x_day {H : Nat} (hj : Inj φ T) (ta : T a = (3, 0)) (ra : R a 7 = some (φ b)) (tb : T b = (100, 4)) (hab : a ≠ b) (h : SXr J a b f) (hB : Bd f H) (hw : 0 ≤ w.toInt ∧ w.toInt ≤ 6) (he : 0 ≤ e.toInt ∧ e.toInt ≤ 6) : ∃ J', f_X2_growDay (φ a) w e (pt φ T J R τ) = some ((dayF w e f).1, pt φ T J' R τ) ∧ SXr J' a b (dayF w e f).2 ∧ ∀ v, v ≠ a → v ≠ b → J' v = J v := by
  obtain ⟨-, s0, s1⟩ := sap_b hB hw he
  have a5 := h.1 5 (by omega)
  by_cases c : f 5 ≤ 0
  · rw [d1F_p c] at s0 s1
    obtain ⟨J', L1, L2, L3⟩ := x_d17 (τ := τ) hj ta ra tb hab h s0 s1
    refine ⟨J', ?_, by rw [dayF, d1F_p c]; exact L2, L3⟩
    rw [dayF, d1F_p c, ← L1]
    simp (config := {decide := true}) only [f_X2_growDay, b_X2_growDay_0, gI_pt hj, gR_pt hj, ob_pt hj, pI_pt hj, pB_pt hj, pR_pt hj, aI_pt hj, aR_pt hj, wI_pt hj, aL_pt hj, cl1_s, cl1_n, cl1_i, nul_n, nul_s, nm, dv2, dv3, dv4, dv5, dv8, dv10, dv20, dv40, bo, mI_pt hj, mT_pt hj, mZ_pt, tn0, tn1, tn2, tn3, tn4, tn5, tn6, ta, a5, c, ii0, ii1, ii2, ii3, ii4, if_true, if_false, ne_eq, not_false_eq_true, not_true_eq_false, true_and, and_true, false_and, and_false, and_self, true_or, or_true, false_or, or_false, or_self, Nat.reduceAdd, Nat.reduceLT, Nat.reduceLeDiff, Nat.succ_ne_zero, reduceIte, reduceCtorEq]
  · have S1 := h.set (x := f 5 - 1) (j := 5) (g := d1F f) hab (by omega) (fun k => by rw [d1F, if_neg c])
    obtain ⟨J', L1, L2, L3⟩ := x_d17 (τ := τ) hj ta ra tb hab S1 s0 s1
    refine ⟨J', ?_, by rw [dayF]; exact L2, fun v y1 y2 => by rw [L3 v y1 y2, up2_row y1]⟩
    rw [dayF, ← L1]
    simp (config := {decide := true}) only [f_X2_growDay, b_X2_growDay_0, gI_pt hj, gR_pt hj, ob_pt hj, pI_pt hj, pB_pt hj, pR_pt hj, aI_pt hj, aR_pt hj, wI_pt hj, aL_pt hj, cl1_s, cl1_n, cl1_i, nul_n, nul_s, nm, dv2, dv3, dv4, dv5, dv8, dv10, dv20, dv40, bo, mI_pt hj, mT_pt hj, mZ_pt, tn0, tn1, tn2, tn3, tn4, tn5, tn6, ta, a5, c, ii0, ii1, ii2, ii3, ii4, if_true, if_false, ne_eq, not_false_eq_true, not_true_eq_false, true_and, and_true, false_and, and_false, and_self, true_or, or_true, false_or, or_false, or_self, Nat.reduceAdd, Nat.reduceLT, Nat.reduceLeDiff, Nat.succ_ne_zero, reduceIte, reduceCtorEq]
end DY

section PS
variable {φ : Nat → Nat} {T : Nat → Nat × Nat} {I J : Nat → Nat → Int32} {R : Nat → Nat → Option Nat} {τ : Mem} {nS nL n z : Nat}
variable {a b q k i j : Nat} {p r w e : Int32} {f : Nat → Int32} {τ0 τ1 : Mem}
def scF (I : Nat → Nat → Int32) (i k : Nat) : Int32 := if k ≤ 6 then I (2 * i + 11) k else I (2 * i + 12) (k - 7)
def stF (w e : Int32) (F : Nat → Nat → Int32) : Nat → Nat → Nat → Int32
  | 0 => F
  | d + 1 => fun i => (dayF w e (stF w e F d i)).2
def ctF (w e : Int32) (F : Nat → Nat → Int32) (d i : Nat) : Int32 := (dayF w e (stF w e F d i)).1
def acS (g : Nat → Int32) (a : Int32) : Nat → Int32
  | 0 => a
  | i + 1 => acS g a i + g i
def acD (w e : Int32) (F : Nat → Nat → Int32) (nS : Nat) : Nat → Int32
  | 0 => 0
  | d + 1 => acS (ctF w e F d) (acD w e F nS d) nS
theorem Cx.sx (h : Cx φ T I R z nS nL n) (hi : i < nS) : SXr I (2 * i + 11) (2 * i + 12) (scF I i) := by
  refine ⟨fun k hk => by rw [scF, if_pos hk], fun k hk => by rw [scF, if_neg (by omega)]; rfl⟩
theorem Cx.sb (h : Cx φ T I R z nS nL n) (hi : i < nS) : Bd (scF I i) (1080 * n) := by
  obtain ⟨b0, b1, b2, b3, b4, sh, hb⟩ := h.sr hi
  refine ⟨b0, b1, b2, ⟨by show 0 ≤ (I (2 * i + 11) 3).toInt; rw [b3]; decide, by show (I (2 * i + 11) 3).toInt ≤ 4; rw [b3]; decide⟩, fun k hk => ?_, ?_⟩
  · rw [scF, if_neg (by omega)]; exact sh k hk
  · rw [scF, if_pos (by omega)]; exact ⟨hb.1, by have := hb.2; omega⟩
theorem st_b {F : Nat → Nat → Int32} {H : Nat} (h : ∀ i, i < nS → Bd (F i) H) (hw : 0 ≤ w.toInt ∧ w.toInt ≤ 6) (he : 0 ≤ e.toInt ∧ e.toInt ≤ 6) : ∀ d, H + 36 * d ≤ 900000 → ∀ i, i < nS → Bd (stF w e F d i) (H + 36 * d) := by
  intro d
  induction d with
  | zero => intro _ i hi; exact h i hi
  | succ d ih =>
    intro hH i hi
    have := day_b (ih (by omega) i hi) (by omega) hw he
    rw [show H + 36 * (d + 1) = H + 36 * d + 36 by omega]; exact this
theorem x_passS (h : Cx φ T I R z nS nL n) {F : Nat → Nat → Int32} {H : Nat} (hB : ∀ i, i < nS → Bd (F i) H) (hw : 0 ≤ w.toInt ∧ w.toInt ≤ 6) (he : 0 ≤ e.toInt ∧ e.toInt ≤ 6) (h01 : J 0 1 = Int32.ofNat nS) (hS : ∀ i, i < nS → SXr J (2 * i + 11) (2 * i + 12) (F i)) (k27 : Nat → Int32 → Int32 → Int32 → Int32 → Int32 → Mem → Option (Int32 × Mem)) (days acc day : Int32) :
    ∃ J', l_X4_pass_46 k27 40 (φ 0) w e days acc day 0 (pt φ T J R τ) = k27 (φ 0) w e days (acS (fun i => (dayF w e (F i)).1) acc nS) (day + 1) (pt φ T J' R τ) ∧ (∀ v, (v < 11 ∨ 2 * nS + 11 ≤ v) → J' v = J v) ∧ (∀ i, i < nS → SXr J' (2 * i + 11) (2 * i + 12) (dayF w e (F i)).2) := by
  have hj := h.hj
  have hx0 := h.m.2.2.2.2.2.2.2
  have hS4 := h.m.2.2.2.2.2.1
  have L := itr_loop (fun m (s' : Int32 × Int32 × Mem) => l_X4_pass_46 k27 m (φ 0) w e days s'.1 day s'.2.1 s'.2.2) (fun k s' => s'.1 = acS (fun i => (dayF w e (F i)).1) acc k ∧ s'.2.1 = Int32.ofNat k ∧ ∃ J', s'.2.2 = pt φ T J' R τ ∧ (∀ v, (v < 11 ∨ 2 * nS + 11 ≤ v) → J' v = J v) ∧ (∀ i, i < k → SXr J' (2 * i + 11) (2 * i + 12) (dayF w e (F i)).2) ∧ (∀ i, k ≤ i → i < nS → SXr J' (2 * i + 11) (2 * i + 12) (F i))) nS (by
    rintro m k ⟨ac, x, σ⟩ hk ⟨h1, h2, J1, h3, h4, h5, h6⟩
    simp only at h1 h2 h3
    subst h1 h2 h3
    have c1 : ¬ Int32.ofNat nS ≤ Int32.ofNat k := by rw [kN_le (by omega) (by omega)]; omega
    have c2 := kN_nn (a := k) (by omega)
    have c3 := tnK (k := k) (by omega)
    have c4 : k < 4 := by omega
    have j01 : J1 0 1 = Int32.ofNat nS := by rw [h4 0 (by omega)]; exact h01
    obtain ⟨hj, hl, hx, ⟨hm22, hm23⟩, hr⟩ := h; obtain ⟨hx0, hx1, hx2, hx3, hx4, hx5, hx6, hx7, hx8, hx9, hx10, hx11, hx12, hx13, hx14, hx15, hx16, hx17, hx18, hx19, hx20, hx21, hx22, hx23, hx24, hx25, hx26, hx27⟩ := hx; obtain ⟨⟨g1, g2⟩, r1, r2, r3, r4, r5, r6, r7⟩ := hr
    obtain ⟨J2, D1, D2, D3⟩ := x_day (τ := τ) hj (hx11 k c4) (hx12 k c4) (hx13 k c4) (by omega) (h6 k (Nat.le_refl _) hk) (hB k hk) hw he
    refine ⟨(acS (fun i => (dayF w e (F i)).1) acc (k + 1), Int32.ofNat (k + 1), pt φ T J2 R τ), ⟨rfl, rfl, J2, rfl, fun v hv => by rw [D3 v (by omega) (by omega), h4 v hv], fun i hi => ?_, fun i hi hi2 => ?_⟩, ?_⟩
    · by_cases c : i = k
      · subst c; exact D2
      · obtain ⟨y1, y2⟩ := h5 i (by omega)
        exact ⟨fun k hk => by rw [D3 _ (by omega) (by omega)]; exact y1 k hk, fun k hk => by rw [D3 _ (by omega) (by omega)]; exact y2 k hk⟩
    · obtain ⟨y1, y2⟩ := h6 i (by omega) hi2
      exact ⟨fun k hk => by rw [D3 _ (by omega) (by omega)]; exact y1 k hk, fun k hk => by rw [D3 _ (by omega) (by omega)]; exact y2 k hk⟩
    · simp (config := {decide := true}) only [l_X4_pass_46, itr_succ, b_X4_pass_46, D1, gI_pt hj, gR_pt hj, ob_pt hj, pI_pt hj, pB_pt hj, pR_pt hj, aI_pt hj, aR_pt hj, wI_pt hj, aL_pt hj, cl1_s, cl1_n, cl1_i, nul_n, nul_s, nm, dv2, dv3, dv4, dv5, dv8, dv10, dv20, dv40, bo, mI_pt hj, mT_pt hj, mZ_pt, tn0, tn1, tn2, tn3, tn4, tn5, tn6, hx0, hx1, hx6, hx10 k c4, hx11 k c4, j01, c1, c2, c3, c4, kN_s, acS, ii0, ii1, ii2, ii3, ii4, if_true, if_false, ne_eq, not_false_eq_true, not_true_eq_false, true_and, and_true, false_and, and_false, and_self, true_or, or_true, false_or, or_false, or_self, Nat.reduceAdd, Nat.reduceLT, Nat.reduceLeDiff, Nat.succ_ne_zero, reduceIte, reduceCtorEq])
  obtain ⟨⟨ac, x, σ⟩, ⟨h1, h2, J1, h3, h4, h5, h6⟩, hL⟩ := L nS 0 40 (acc, 0, pt φ T J R τ) (by omega) (by omega) ⟨rfl, rfl, J, rfl, fun _ _ => rfl, fun i hi => by omega, fun i _ hi => hS i hi⟩
  simp only at h1 h2 h3
  subst h1 h2 h3
  refine ⟨J1, ?_, h4, fun i hi => h5 i hi⟩
  obtain ⟨m, hm⟩ : ∃ m, 40 - nS = m + 1 := ⟨39 - nS, by omega⟩
  simp only [hm] at hL
  rw [hL]
  have c1 : Int32.ofNat nS ≤ Int32.ofNat nS := Int32.le_refl _
  have j01 : J1 0 1 = Int32.ofNat nS := by rw [h4 0 (by omega)]; exact h01
  have t0 : (T 0).1 = 4 + 1 := by rw [hx0]
  rw [l_X4_pass_46, itr_succ, b_X4_pass_46, gI_pt hj t0, j01, if_pos c1]; rfl
theorem x_pass (h : Cx φ T I R z nS nL n) (hn : n < 600) (hw : 0 ≤ w.toInt ∧ w.toInt ≤ 6) (he : 0 ≤ e.toInt ∧ e.toInt ≤ 6) {D : Nat} (hD : D ≤ 30) : ∃ J', l_X4_pass_27 40 (φ 0) w e (Int32.ofNat D) 0 0 (pt φ T I R τ) = some ((acD w e (scF I) nS D), pt φ T J' R τ) ∧ (∀ v, v ≠ 0 → (v < 11 ∨ 2 * nS + 11 ≤ v) → J' v = I v) ∧ J' 0 2 = I 0 2 + Int32.ofNat D ∧ (∀ k, k ≠ 2 → J' 0 k = I 0 k) ∧ (∀ i, i < nS → SXr J' (2 * i + 11) (2 * i + 12) (stF w e (scF I) D i)) := by
  have hj := h.hj
  have hx0 := h.m.2.2.2.2.2.2.2
  have hS4 := h.m.2.2.2.2.2.1
  have t0 : (T 0).1 = 4 + 1 := by rw [hx0]
  have SB := st_b (F := scF I) (H := 1080 * n) (fun i hi => h.sb hi) hw he
  have g1 : I 0 1 = Int32.ofNat nS := h.2.2.2.2.1.1
  have L := itr_loop (fun m (s' : Int32 × Int32 × Mem) => l_X4_pass_27 m (φ 0) w e (Int32.ofNat D) s'.1 s'.2.1 s'.2.2) (fun d s' => s'.1 = acD w e (scF I) nS d ∧ s'.2.1 = Int32.ofNat d ∧ ∃ J', s'.2.2 = pt φ T J' R τ ∧ (∀ v, v ≠ 0 → (v < 11 ∨ 2 * nS + 11 ≤ v) → J' v = I v) ∧ J' 0 2 = I 0 2 + Int32.ofNat d ∧ (∀ k, k ≠ 2 → J' 0 k = I 0 k) ∧ (∀ i, i < nS → SXr J' (2 * i + 11) (2 * i + 12) (stF w e (scF I) d i))) D (by
    rintro m d ⟨ac, x, σ⟩ hd ⟨h1, h2, J1, h3, h4, h5, h6, h7⟩
    simp only at h1 h2 h3
    subst h1 h2 h3
    have c1 : ¬ Int32.ofNat D ≤ Int32.ofNat d := by rw [kN_le (by omega) (by omega)]; omega
    obtain ⟨J2, P1, P2, P3⟩ := x_passS (J := up2 J1 0 2 (J1 0 2 + 1)) (τ := τ) h (SB d (by omega)) hw he (by rw [up2_k (by decide), h6 1 (by decide)]; exact g1) (fun i hi => by
      obtain ⟨y1, y2⟩ := h7 i hi
      exact ⟨fun k hk => by rw [up2_row (by omega)]; exact y1 k hk, fun k hk => by rw [up2_row (by omega)]; exact y2 k hk⟩) (l_X4_pass_27 m) (Int32.ofNat D) (acD w e (scF I) nS d) (Int32.ofNat d)
    refine ⟨(acD w e (scF I) nS (d + 1), Int32.ofNat (d + 1), pt φ T J2 R τ), ⟨rfl, rfl, J2, rfl, fun v hv hv2 => by rw [P2 v hv2, up2_row hv, h4 v hv hv2], by rw [P2 0 (by omega), up2_at, h5, Int32.add_assoc, kN_s], fun k hk => by rw [P2 0 (by omega), up2_k hk, h6 k hk], fun i hi => P3 i hi⟩, ?_⟩
    rw [kN_s] at P1
    show l_X4_pass_27 (m + 1) _ _ _ _ _ _ _ = l_X4_pass_27 m _ _ _ _ _ _ _
    rw [l_X4_pass_27, itr_succ, b_X4_pass_27, if_neg c1, gI_pt hj t0, nm, pI_pt hj t0]
    exact P1)
  obtain ⟨⟨ac, x, σ⟩, ⟨h1, h2, J1, h3, h4, h5, h6, h7⟩, hL⟩ := L D 0 40 (0, 0, pt φ T I R τ) (by omega) (by omega) ⟨rfl, rfl, I, rfl, fun _ _ _ => rfl, (Int32.add_zero _).symm, fun _ _ => rfl, fun i hi => h.sx hi⟩
  simp only at h1 h2 h3
  subst h1 h2 h3
  refine ⟨J1, ?_, h4, h5, h6, h7⟩
  obtain ⟨m, hm⟩ : ∃ m, 40 - D = m + 1 := ⟨39 - D, by omega⟩
  simp only [hm] at hL
  rw [hL]
  have c1 : Int32.ofNat D ≤ Int32.ofNat D := Int32.le_refl _
  rw [l_X4_pass_27, itr_succ, b_X4_pass_27, if_pos c1]
/-- the rest, the blight -/
def Bb (f : Nat → Int32) (B : Nat) : Prop := f 3 = 0 ∧ 0 ≤ (f 4).toInt ∧ (f 4).toInt ≤ B
theorem flN_k {k : Nat} (h : k = 0 ∨ k = 1 ∨ k = 3 ∨ k = 4 ∨ k = 5) : (flN f).2 k = f k := by
  unfold flN
  split
  · rfl
  · split <;> rcases h with rfl | rfl | rfl | rfl | rfl <;> rfl
theorem day_bb {B : Nat} (h : Bb f B) (hB : B ≤ 900000) : Bb (dayF w e f).2 (B + 1) := by
  obtain ⟨h3, h4, h5⟩ := h
  have z1 : (1 : Int32).toInt = 1 := rfl
  have c : d1F f 3 ≤ 0 := by rw [show d1F f 3 = f 3 from rfl, h3]; decide
  rw [dayF, if_pos c]
  refine ⟨?_, ?_⟩
  · rw [flN_k (by omega)]; exact h3
  · rw [flN_k (by omega)]
    show 0 ≤ (if e + f 1 < 5 then mx0 (f 4 - 1) else f 4 + 1).toInt ∧ (if e + f 1 < 5 then mx0 (f 4 - 1) else f 4 + 1).toInt ≤ ((B + 1 : Nat) : Int)
    split
    · have m := mx0_b (x := f 4 - 1)
      have s : (f 4 - 1).toInt = (f 4).toInt - 1 := by rw [tSub (by omega) (by omega), z1]
      omega
    · rw [tAdd (by omega) (by omega), z1]; omega
theorem st_bb {F : Nat → Nat → Int32} {B : Nat} (h : ∀ i, i < nS → Bb (F i) B) : ∀ d, B + d ≤ 900000 → ∀ i, i < nS → Bb (stF w e F d i) (B + d) := by
  intro d
  induction d with
  | zero => intro _ i hi; exact h i hi
  | succ d ih =>
    intro hH i hi
    have := day_bb (w := w) (e := e) (ih (by omega) i hi) (by omega)
    rw [show B + (d + 1) = B + d + 1 by omega]; exact this
theorem Cx.bb (h : Cx φ T I R z nS nL n) (hi : i < nS) : Bb (scF I i) (30 * n) := by
  obtain ⟨b0, b1, b2, b3, b4, sh, hb⟩ := h.sr hi
  exact ⟨b3, b4.1, by show (I (2 * i + 11) 4).toInt ≤ _; have := b4.2; omega⟩
theorem sx_eq (h1 : SXr J (2 * i + 11) (2 * i + 12) f) (h3 : Bd f (1080 * n)) (h4 : Bb f (30 * n)) : SecR (J (2 * i + 11)) (J (2 * i + 12)) n := by
  obtain ⟨a1, a2⟩ := h1
  obtain ⟨c0, c1, c2, c3, c7, c6⟩ := h3
  obtain ⟨d3, d4, d5⟩ := h4
  unfold SecR
  rw [a1 0 (by omega), a1 1 (by omega), a1 2 (by omega), a1 3 (by omega), a1 4 (by omega), a1 6 (by omega)]
  exact ⟨c0, c1, c2, d3, ⟨d4, by omega⟩, fun k hk => by rw [a2 k hk]; exact c7 k hk, c6.1, by have := c6.2; omega⟩
theorem x_passF (h : Cx φ T I R (mZ τ) nS nL n) (hn : n < 600) (hw : 0 ≤ w ∧ w ≤ 6) (he : 0 ≤ e ∧ e ≤ 6) {D : Nat} (hD1 : 1 ≤ D) (hD : D ≤ 30) : ∃ J', f_X4_pass (φ 0) w e (Int32.ofNat D) (pt φ T I R τ) = some (acD w e (scF I) nS D, pt φ T J' R τ) ∧ Cx φ T J' R (mZ τ) nS nL (n + 1) ∧ (∀ v, v ≠ 0 → (v < 11 ∨ 2 * nS + 11 ≤ v) → J' v = I v) ∧ (∀ k, k ≠ 2 → J' 0 k = I 0 k) ∧ ∀ i, i < nS → ∀ k, k ≤ 10 → scF J' i k = stF w e (scF I) D i k := by
  have z6 : (6 : Int32).toInt = 6 := rfl
  have z0 : (0 : Int32).toInt = 0 := rfl
  have w1 : 0 ≤ w.toInt ∧ w.toInt ≤ 6 := ⟨by have := leT hw.1; omega, by have := leT hw.2; omega⟩
  have e1 : 0 ≤ e.toInt ∧ e.toInt ≤ 6 := ⟨by have := leT he.1; omega, by have := leT he.2; omega⟩
  obtain ⟨J', P1, P2, P3, P4, P5⟩ := x_pass (τ := τ) h hn w1 e1 hD
  have q1 : (1 : Int32) ≤ Int32.ofNat D := (kN_le (a := 1) (by omega) (by omega)).mpr hD1
  have q2 : Int32.ofNat D ≤ (30 : Int32) := (kN_le (b := 30) (by omega) (by omega)).mpr hD
  have SB := st_b (F := scF I) (H := 1080 * n) (fun i hi => h.sb hi) w1 e1 D (by omega)
  have BB := st_bb (w := w) (e := e) (F := scF I) (B := 30 * n) (fun i hi => h.bb hi) D (by omega)
  have hS4 := h.m.2.2.2.2.2.1
  have hL := h.m.2.2.2.2.1
  have Bm : ∀ i, i < nS → Bd (stF w e (scF I) D i) (1080 * (n + 1)) := fun i hi => by
    obtain ⟨y1, y2, y3, y4, y5, y6⟩ := SB i hi
    exact ⟨y1, y2, y3, y4, y5, y6.1, by have := y6.2; omega⟩
  have Bn : ∀ i, i < nS → Bb (stF w e (scF I) D i) (30 * (n + 1)) := fun i hi => by
    obtain ⟨y1, y2, y3⟩ := BB i hi
    exact ⟨y1, y2, by omega⟩
  refine ⟨J', ?_, h.of (Nat.le_refl _) (h.2.2.2.2.same (Nat.le_succ _) hS4 hL ⟨P4 1 (by decide), P4 4 (by decide), P4 10 (by decide), P4 11 (by decide)⟩ (fun i hi => ?_) (fun i y1 y2 => ?_) (fun i hi => sx_eq (P5 i hi) (Bm i hi) (Bn i hi)) (fun i y1 y2 => ?_) (fun i hi => ?_) ?_), P2, P4, fun i hi k hk => ?_⟩
  · rw [f_X4_pass, b_X4_pass_0, x_req _ hw.1 hw.2, cl1_s, x_req _ he.1 he.2, cl1_s, x_req _ q1 q2, cl1_s]
    exact P1
  · rw [P2 (6 * i + 19) (by omega) (by omega), P2 (6 * i + 20) (by omega) (by omega), P2 (6 * i + 21) (by omega) (by omega), P2 (6 * i + 22) (by omega) (by omega), P2 (6 * i + 23) (by omega) (by omega)]
    exact ⟨(h.lr hi).mono (by omega), rfl⟩
  · exact ⟨P2 _ (by omega) (by omega), P2 _ (by omega) (by omega), P2 _ (by omega) (by omega), P2 _ (by omega) (by omega), P2 _ (by omega) (by omega)⟩
  · exact ⟨P2 _ (by omega) (by omega), P2 _ (by omega) (by omega)⟩
  · rw [P2 (i + 3) (by omega) (by omega)]; exact (h.tr hi).mono (by omega)
  · rw [P2 115 (by omega) (by omega)]; exact ⟨rfl, rfl⟩
  · obtain ⟨y1, y2⟩ := P5 i hi
    rw [scF]
    by_cases c : k ≤ 6
    · rw [if_pos c]; exact y1 k c
    · rw [if_neg c, y2 (k - 7) (by omega)]; congr 1; omega
/-! how often it flushes -/
theorem flN_1 : 0 ≤ (flN f).1.toInt ∧ (flN f).1.toInt ≤ 2 := by
  have e0 : 0 ≤ (0 : Int32).toInt ∧ (0 : Int32).toInt ≤ 2 := by decide
  have e1 : 0 ≤ (1 : Int32).toInt ∧ (1 : Int32).toInt ≤ 2 := by decide
  have e2 : 0 ≤ (2 : Int32).toInt ∧ (2 : Int32).toInt ≤ 2 := by decide
  unfold flN
  split
  · exact e0
  · split
    · exact e1
    · exact e2
theorem day_1 : 0 ≤ (dayF w e f).1.toInt ∧ (dayF w e f).1.toInt ≤ 2 := by
  have e0 : 0 ≤ (0 : Int32).toInt ∧ (0 : Int32).toInt ≤ 2 := by decide
  unfold dayF
  split
  · exact flN_1
  · exact e0
theorem acS_b {g : Nat → Int32} {a : Int32} (hg : ∀ i, 0 ≤ (g i).toInt ∧ (g i).toInt ≤ 2) (h0 : 0 ≤ a.toInt) (h1 : a.toInt ≤ 100000) : ∀ n, n ≤ 1000 → a.toInt ≤ (acS g a n).toInt ∧ (acS g a n).toInt ≤ a.toInt + 2 * n ∧ ∀ i, i < n → (g i).toInt ≤ (acS g a n).toInt := by
  intro n
  induction n with
  | zero => intro _; exact ⟨Int.le_refl _, by simp [acS], fun i hi => by omega⟩
  | succ n ih =>
    intro hn
    obtain ⟨i1, i2, i3⟩ := ih (by omega)
    have gn := hg n
    have e : (acS g a (n + 1)).toInt = (acS g a n).toInt + (g n).toInt := tAdd (by omega) (by omega)
    rw [e]
    refine ⟨by omega, by omega, fun i hi => ?_⟩
    by_cases c : i = n
    · subst c; omega
    · have := i3 i (by omega); omega
theorem acD_b {F : Nat → Nat → Int32} (hS : nS ≤ 4) : ∀ d, d ≤ 30 → 0 ≤ (acD w e F nS d).toInt ∧ (acD w e F nS d).toInt ≤ 8 * d := by
  intro d
  induction d with
  | zero => intro _; exact ⟨Int.le_refl _, Int.le_refl _⟩
  | succ d ih =>
    intro hd
    obtain ⟨i1, i2⟩ := ih (by omega)
    obtain ⟨b1, b2, -⟩ := acS_b (g := ctF w e F d) (a := acD w e F nS d) (fun i => day_1) i1 (by omega) nS (by omega)
    rw [acD]
    exact ⟨by omega, by omega⟩
end PS
section FI
variable {φ : Nat → Nat} {T : Nat → Nat × Nat} {I J : Nat → Nat → Int32} {R : Nat → Nat → Option Nat} {τ : Mem} {nS nL n z : Nat}
variable {a b q k i j : Nat} {p r w e : Int32} {f : Nat → Int32} {τ0 τ1 : Mem}
def fiV (w e rest shade : Int32) : Nat → Nat → Int32 → Int32
  | 0, _, _ => -1
  | m + 1, d, sap => if (if Int32.ofNat (d + 1) ≤ rest then sap else sap + (mx0 (w - shade) + mn e 3)) < 5 then fiV w e rest shade m (d + 1) (if Int32.ofNat (d + 1) ≤ rest then sap else sap + (mx0 (w - shade) + mn e 3)) else Int32.ofNat (d + 1)
def FI (I : Nat → Nat → Int32) (i : Nat) (w e : Int32) : Int32 := fiV w e (I (2 * i + 11) 3) (I (2 * i + 11) 1) 30 0 (I (2 * i + 11) 2)
theorem x_sap (hj : Inj φ T) (ta : T a = (3, 0)) : f_X2_sapOfDay (φ a) w e (pt φ T I R τ) = some (mx0 (w - I a 1) + mn e 3, pt φ T I R τ) := by
  simp (config := {decide := true}) only [b_X2_sapOfDay_0, f_X2_sapOfDay, gI_pt hj, gR_pt hj, ob_pt hj, pI_pt hj, pB_pt hj, pR_pt hj, aI_pt hj, aR_pt hj, wI_pt hj, aL_pt hj, cl1_s, cl1_n, cl1_i, nul_n, nul_s, nm, dv2, dv3, dv4, dv5, dv8, dv10, dv20, dv40, bo, mI_pt hj, mT_pt hj, mZ_pt, tn0, tn1, tn2, tn3, tn4, tn5, tn6, ta, mx0E, mnE, ii0, ii1, ii2, ii3, ii4, if_true, if_false, ne_eq, not_false_eq_true, not_true_eq_false, true_and, and_true, false_and, and_false, and_self, true_or, or_true, false_or, or_false, or_self, Nat.reduceAdd, Nat.reduceLT, Nat.reduceLeDiff, Nat.succ_ne_zero, reduceIte, reduceCtorEq]
theorem x_fiL (hj : Inj φ T) (ta : T a = (3, 0)) : ∀ m d sap fl, d + m = 30 → m + 1 ≤ fl → l_X4_flushIn_31 fl w e (some (φ a)) sap (Int32.ofNat (d + 1)) (pt φ T I R τ) = some ((fiV w e (I a 3) (I a 1) m d sap), pt φ T I R τ) := by
  have S := x_sap (I := I) (R := R) (τ := τ) (w := w) (e := e) hj ta
  have t1 : (T a).1 = 2 + 1 := by rw [ta]
  intro m
  induction m with
  | zero =>
    intro d sap fl h1 h2
    obtain ⟨fl', rfl⟩ : ∃ x, fl = x + 1 := ⟨fl - 1, by omega⟩
    have c1 : (30 : Int32) < Int32.ofNat (d + 1) := (kN_lt (a := 30) (by omega) (by omega)).mpr (by omega)
    rw [l_X4_flushIn_31, itr_succ, b_X4_flushIn_31, if_pos c1]; rfl
  | succ m ih =>
    intro d sap fl h1 h2
    obtain ⟨fl', rfl⟩ : ∃ x, fl = x + 1 := ⟨fl - 1, by omega⟩
    have c1 : ¬ (30 : Int32) < Int32.ofNat (d + 1) := by
      rw [show (30 : Int32) = Int32.ofNat 30 from rfl, kN_lt (by omega) (by omega)]; omega
    have IH := fun s => ih (d + 1) s fl' (by omega) (by omega)
    rw [l_X4_flushIn_31, itr_succ, b_X4_flushIn_31, if_neg c1, gI_pt hj t1]
    by_cases c2 : Int32.ofNat (d + 1) ≤ I a 3
    · rw [if_pos c2, b_X4_flushIn_60, fiV]
      simp only [if_pos c2]
      by_cases c3 : sap < 5
      · rw [if_pos c3, if_pos c3, nm, kN_s]; exact IH sap
      · rw [if_neg c3, if_neg c3]
    · rw [if_neg c2, ob_pt hj t1, S, cl1_s, nm, b_X4_flushIn_60, fiV]
      simp only [if_neg c2]
      by_cases c3 : sap + (mx0 (w - I a 1) + mn e 3) < 5
      · rw [if_pos c3, if_pos c3, nm, kN_s]; exact IH _
      · rw [if_neg c3, if_neg c3]
theorem x_flushIn (h : Cx φ T I R (mZ τ) nS nL n) (hp : InN p nS) (hi : p.toNatClampNeg = i) (hw : 0 ≤ w ∧ w ≤ 6) (he : 0 ≤ e ∧ e ≤ 6) : f_X4_flushIn (φ 0) p w e (pt φ T I R τ) = some ((FI I i w e), pt φ T I R τ) := by
  have iL : i < nS := hi ▸ (idx (show nS ≤ 16 by have := h.m.2.2.2.2.2.1; omega) hp.1 hp.2).2.2.2.2
  have hS4 := h.m.2.2.2.2.2.1
  have hj := h.hj
  have hx0 := h.m.2.2.2.2.2.2.2
  have t0 : (T 0).1 = 4 + 1 := by rw [hx0]
  have t5 := h.t5 (show i < 4 by omega)
  have L := x_fiL (I := I) (R := R) (τ := τ) (w := w) (e := e) hj t5 30 0 (I (2 * i + 11) 2) 40 (by omega) (by omega)
  rw [f_X4_flushIn, b_X4_flushIn_0, ob_pt hj t0, x_secAt h hp hi, cl1_s, x_req _ hw.1 hw.2, cl1_s, x_req _ he.1 he.2, cl1_s, gI_pt hj (by rw [t5])]
  exact L
/-! a flush comes when it would -/
def inc (w e shade : Int32) : Int32 := mx0 (w - shade) + mn e 3
theorem fi_s {shade sap : Int32} {m d : Nat} (hd : d ≤ 100) : fiV w e 0 shade (m + 1) d sap = if sap + inc w e shade < 5 then fiV w e 0 shade m (d + 1) (sap + inc w e shade) else Int32.ofNat (d + 1) := by
  have c : ¬ Int32.ofNat (d + 1) ≤ 0 := by rw [show (0 : Int32) = Int32.ofNat 0 from rfl, kN_le (by omega) (by omega)]; omega
  rw [fiV]
  simp only [if_neg c]
  rfl
theorem fi_c {shade : Int32} : ∀ m d sap, d + m ≤ 100 → fiV w e 0 shade m d sap = -1 ∨ ∃ q, q < m ∧ fiV w e 0 shade m d sap = Int32.ofNat (d + q + 1) := by
  intro m
  induction m with
  | zero => intro d sap _; exact Or.inl rfl
  | succ m ih =>
    intro d sap hd
    rw [fi_s (by omega)]
    split
    · rcases ih (d + 1) (sap + inc w e shade) (by omega) with h | ⟨q, h1, h2⟩
      · exact Or.inl h
      · exact Or.inr ⟨q + 1, by omega, by rw [h2]; congr 1; omega⟩
    · exact Or.inr ⟨0, by omega, rfl⟩
theorem d2_2 : d2F w e (d1F f) 2 = f 2 + inc w e (f 1) := rfl
/-- a day without a flush, one with -/
theorem day_n (h3 : f 3 = 0) (hc : f 2 + inc w e (f 1) < 5) : (dayF w e f).1 = 0 ∧ (dayF w e f).2 2 = f 2 + inc w e (f 1) ∧ ∀ k, (k = 0 ∨ k = 1 ∨ k = 3 ∨ (6 ≤ k ∧ k ≤ 10)) → (dayF w e f).2 k = f k := by
  have c : d1F f 3 ≤ 0 := by rw [show d1F f 3 = f 3 from rfl, h3]; decide
  rw [dayF, if_pos c, flN, if_pos (by rw [d2_2]; exact hc)]
  refine ⟨rfl, rfl, fun k hk => ?_⟩
  rcases (show k = 0 ∨ k = 1 ∨ k = 3 ∨ k = 6 ∨ k = 7 ∨ k = 8 ∨ k = 9 ∨ k = 10 by omega) with rfl | rfl | rfl | rfl | rfl | rfl | rfl | rfl <;> rfl
theorem day_y {H : Nat} (hB : Bd f H) (hH : H ≤ 900000) (hw : 0 ≤ w.toInt ∧ w.toInt ≤ 6) (he : 0 ≤ e.toInt ∧ e.toInt ≤ 6) (h3 : f 3 = 0) (hc : ¬ f 2 + inc w e (f 1) < 5) : 0 < (dayF w e f).1.toInt ∧ ((f 10).toInt + (f 6).toInt ≤ ((dayF w e f).2 10).toInt + ((dayF w e f).2 6).toInt) := by
  have c : d1F f 3 ≤ 0 := by rw [show d1F f 3 = f 3 from rfl, h3]; decide
  obtain ⟨b0, b1, b2, b3, b7, b6⟩ := hB
  have q0 := b7 0 (by omega); have q1 := b7 1 (by omega); have q2 := b7 2 (by omega); have q3 := b7 3 (by omega)
  simp only [Nat.reduceAdd] at q0 q1 q2 q3
  rw [dayF, if_pos c, flN, if_neg (by rw [d2_2]; exact hc)]
  have e6 : (f 6 + f 10).toInt = (f 6).toInt + (f 10).toInt := tAdd (by omega) (by omega)
  have p1 : 0 < (1 : Int32).toInt := by decide
  have p2 : 0 < (2 : Int32).toInt := by decide
  split
  · refine ⟨p1, ?_⟩
    show _ ≤ (f 9).toInt + (f 6 + f 10).toInt
    omega
  · refine ⟨p2, ?_⟩
    show _ ≤ (f 8).toInt + (f 6 + f 10 + f 9).toInt
    rw [tAdd (a := f 6 + f 10) (by omega) (by omega)]
    omega
/-- d days without a flush, and the next one with -/
theorem fi_run {F : Nat → Nat → Int32} : ∀ q m d, d + m ≤ 100 → q < m → F i 3 = 0 → fiV w e 0 (F i 1) m d (F i 2) = Int32.ofNat (d + q + 1) → (∀ k, (k = 0 ∨ k = 1 ∨ k = 3 ∨ (6 ≤ k ∧ k ≤ 10)) → stF w e F q i k = F i k) ∧ ¬ stF w e F q i 2 + inc w e (F i 1) < 5 := by
  intro q
  induction q generalizing F with
  | zero =>
    intro m d h1 h2 h3 h4
    obtain ⟨m, rfl⟩ : ∃ x, m = x + 1 := ⟨m - 1, by omega⟩
    refine ⟨fun _ _ => rfl, fun hc => ?_⟩
    have hc' : F i 2 + inc w e (F i 1) < 5 := hc
    rw [fi_s (by omega), if_pos hc'] at h4
    rcases fi_c (w := w) (e := e) (shade := F i 1) m (d + 1) (F i 2 + inc w e (F i 1)) (by omega) with g | ⟨q', g1, g2⟩
    · rw [g] at h4; exact oN_neg (by omega) h4.symm
    · rw [g2, kN_eq (by omega) (by omega)] at h4; omega
  | succ q ih =>
    intro m d h1 h2 h3 h4
    obtain ⟨m, rfl⟩ : ∃ x, m = x + 1 := ⟨m - 1, by omega⟩
    by_cases hc : F i 2 + inc w e (F i 1) < 5
    · rw [fi_s (by omega), if_pos hc] at h4
      obtain ⟨n1, n2, n3⟩ := day_n (w := w) (e := e) h3 hc
      have key : ∀ q, stF w e F (q + 1) i = stF w e (fun _ => (dayF w e (F i)).2) q i := by
        intro q
        induction q with
        | zero => rfl
        | succ q ihq => show (dayF w e (stF w e F (q + 1) i)).2 = (dayF w e (stF w e (fun _ => (dayF w e (F i)).2) q i)).2; rw [ihq]
      have s1 := n3 1 (by omega)
      obtain ⟨g1, g2⟩ := ih (F := fun _ => (dayF w e (F i)).2) m (d + 1) (by omega) (by omega) (by show (dayF w e (F i)).2 3 = 0; rw [n3 3 (by omega)]; exact h3) (by
        show fiV w e 0 ((dayF w e (F i)).2 1) m (d + 1) ((dayF w e (F i)).2 2) = _
        rw [s1, n2, h4]; congr 1; omega)
      rw [key]
      refine ⟨fun k hk => ?_, ?_⟩
      · rw [g1 k hk]; exact n3 k hk
      · have g2' : ¬ stF w e (fun _ => (dayF w e (F i)).2) q i 2 + inc w e ((dayF w e (F i)).2 1) < 5 := g2
        rw [s1] at g2'; exact g2'
    · rw [fi_s (by omega), if_neg hc, kN_eq (by omega) (by omega)] at h4; omega
theorem fi_none {F : Nat → Nat → Int32} {m d : Nat} (h1 : d + m ≤ 100) (hm : 0 < m) (h4 : fiV w e 0 (F i 1) m d (F i 2) = -1) : F i 2 + inc w e (F i 1) < 5 := by
  obtain ⟨m, rfl⟩ : ∃ x, m = x + 1 := ⟨m - 1, by omega⟩
  by_cases hc : F i 2 + inc w e (F i 1) < 5
  · exact hc
  · rw [fi_s (by omega), if_neg hc] at h4; exact absurd h4 (oN_neg (by omega))
theorem fi_one {shade sap : Int32} {m : Nat} (hm : 0 < m) (hc : ¬ sap + inc w e shade < 5) : fiV w e 0 shade m 0 sap = 1 := by
  obtain ⟨m, rfl⟩ : ∃ x, m = x + 1 := ⟨m - 1, by omega⟩
  rw [fi_s (by omega), if_neg hc]; rfl
end FI
