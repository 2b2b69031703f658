/-! BESTFIRE -/
section BF
variable {φ : Nat → Nat} {T : Nat → Nat × Nat} {I J : Nat → Nat → Int32} {R : Nat → Nat → Option Nat} {τ : Mem} {nS nL n z : Nat}
variable {a b w q k i j t : Nat} {p r d : Int32} {x y zf y' : Nat → Int32} {τ1 : Mem}
def bfN (y : Nat → Int32) (k : Nat) : Int32 := leafT y (10 * y 2 / y 1) k
def bfS (y : Nat → Int32) : Int32 := bfN y 0 + bfN y 1 + bfN y 2
def bfU (h : Int32) (t : Nat) (y : Nat → Int32) (p : Int32 × Int32) : Int32 × Int32 := if y 1 < 20 * y 3 then p else if p.2 < bfS y then (100 * h + Int32.ofNat t, bfS y) else p
def bfW (h : Int32) : Nat → Nat → (Nat → Int32) → Int32 × Int32 → Int32 × Int32
  | 0, _, _, p => p
  | m + 1, t, y, p => bfW h m (t + 1) (hs h (y 1) y) (bfU h t (hs h (y 1) y) p)
def bfH (x : Nat → Int32) : Nat → Nat → Int32 × Int32 → Int32 × Int32
  | 0, _, p => p
  | m + 1, h, p => bfH x m (h + 1) (bfW (Int32.ofNat h) 30 1 x p)
def Ag (y zf : Nat → Int32) : Prop := ∀ k, 1 ≤ k → k ≤ 11 → y k = zf k
theorem ag_hs {h : Int32} (e : Ag y zf) : Ag (hs h (y 1) y) (hs h (zf 1) zf) := by
  intro k h1 h2
  have e1 := e 1 (by omega) (by omega)
  have e3 := e 3 (by omega) (by omega)
  have e7 := e 7 (by omega) (by omega)
  have e8 := e 8 (by omega) (by omega)
  have ek := e k h1 h2
  simp only [hs, e1, e3, e7, e8, ek]
theorem ag_N (e : Ag y zf) : bfN y k = bfN zf k := by
  unfold bfN
  rw [e 1 (by omega) (by omega), e 2 (by omega) (by omega)]
  exact leafT_eq (e 4 (by omega) (by omega)) (e 5 (by omega) (by omega)) (e 6 (by omega) (by omega)) (e 7 (by omega) (by omega)) (e 8 (by omega) (by omega)) (e 9 (by omega) (by omega)) (e 10 (by omega) (by omega)) (e 11 (by omega) (by omega))
theorem ag_S (e : Ag y zf) : bfS y = bfS zf := by
  unfold bfS; rw [ag_N e, ag_N e, ag_N e]
theorem bfN_b : 0 ≤ (bfN y k).toInt ∧ (bfN y k).toInt ≤ 9 := by
  unfold bfN leafT
  split
  · exact hld_b _
  · split <;> exact hld_b _
theorem bfS_b : 0 ≤ (bfS y).toInt ∧ (bfS y).toInt ≤ 27 := by
  have h0 := bfN_b (y := y) (k := 0)
  have h1 := bfN_b (y := y) (k := 1)
  have h2 := bfN_b (y := y) (k := 2)
  have e1 : (bfN y 0 + bfN y 1).toInt = (bfN y 0).toInt + (bfN y 1).toInt := tAdd (by omega) (by omega)
  unfold bfS
  rw [tAdd (by omega) (by omega), e1]; omega
def bfG (p : Int32 × Int32) : Prop := p.2 = -1 ∨ 0 ≤ p.2.toInt
theorem bfU_g {h : Int32} {p : Int32 × Int32} (g : bfG p) : bfG (bfU h t y p) := by
  unfold bfU
  split
  · exact g
  · split
    · exact Or.inr bfS_b.1
    · exact g
theorem bfG_le {p : Int32 × Int32} (g : bfG p) : (-1 : Int32) ≤ p.2 := by
  rw [Int32.le_iff_toInt_le]
  have : ((-1 : Int32)).toInt = -1 := rfl
  rcases g with g | g
  · rw [g]; exact Int.le_refl _
  · omega
theorem nvX_leaf {xn : Nat → Int32} (h12 : y 12 = 0) (h1 : ¬ y 1 ≤ 0) : nvX y xn k = bfN y k := by
  rw [nvX, if_pos h12, if_neg h1, bfN]
theorem pos_n {v : Int32} (h : 0 < v.toInt) : ¬ v ≤ 0 ∧ v ≠ 0 := by
  have z : (0 : Int32).toInt = 0 := rfl
  exact ⟨fun y => by have := leT y; omega, fun y => by rw [y] at h; omega⟩
def snX (x xn : Nat → Int32) : Int32 := nvX x xn 0 + nvX x xn 1 + nvX x xn 2
theorem x_sum (hj : Inj φ T) (h : T a = (2, 0)) (h2 : I a 12 ≠ 0 → R a 14 = some (φ w) ∧ T w = (100, 3)) : f_X1_sumOfNotes (φ a) (pt φ T I R τ) = some (snX (I a) (I w), pt φ T I R τ) := by
  have t1 : (T a).1 = 1 + 1 := by rw [h]
  have N0 : f_X1_noteOf (φ a) 0 (pt φ T I R τ) = some (nvX (I a) (I w) 0, pt φ T I R τ) := x_noteOf (k := 0) hj h h2 (by decide)
  have N1 : f_X1_noteOf (φ a) 1 (pt φ T I R τ) = some (nvX (I a) (I w) 1, pt φ T I R τ) := x_noteOf (k := 1) hj h h2 (by decide)
  have N2 : f_X1_noteOf (φ a) 2 (pt φ T I R τ) = some (nvX (I a) (I w) 2, pt φ T I R τ) := x_noteOf (k := 2) hj h h2 (by decide)
  have e1 : (0 : Int32) + 1 = 1 := rfl
  have e2 : (1 : Int32) + 1 = 2 := rfl
  have e3 : (2 : Int32) + 1 = 3 := rfl
  rw [f_X1_sumOfNotes, b_X1_sumOfNotes_0, show (40 : Nat) = 36 + 1 + 1 + 1 + 1 from rfl, l_X1_sumOfNotes_4, itr_succ, b_X1_sumOfNotes_4, if_neg (by decide), ob_pt hj t1, N0, cl1_s, nm, nm, itr_succ, b_X1_sumOfNotes_4, e1, if_neg (by decide), ob_pt hj t1, N1, cl1_s, nm, nm, itr_succ, b_X1_sumOfNotes_4, e2, if_neg (by decide), ob_pt hj t1, N2, cl1_s, nm, nm, itr_succ, b_X1_sumOfNotes_4, e3, if_pos (by decide), Int32.zero_add]; rfl
theorem x_dr0 (hj : Inj φ T) (h : T a = (2, 0)) (c : I a 1 < 20 * I a 3) : f_X1_isDried (φ a) (pt φ T I R τ) = some (0, pt φ T I R τ) := by
  simp (config := {decide := true}) only [b_X1_isDried_19, b_X1_isDried_0, f_X1_isDried, gI_pt hj, gR_pt hj, ob_pt hj, pI_pt hj, pB_pt hj, pR_pt hj, aI_pt hj, aR_pt hj, wI_pt hj, aL_pt hj, cl1_s, cl1_n, cl1_i, nul_n, nul_s, nm, dv2, dv3, dv4, dv5, dv8, dv10, dv20, dv40, bo, mI_pt hj, mT_pt hj, mZ_pt, tn0, tn1, tn2, tn3, tn4, tn5, tn6, h, c, ii0, ii1, ii2, ii3, ii4, if_true, if_false, ne_eq, not_false_eq_true, not_true_eq_false, true_and, and_true, false_and, and_false, and_self, true_or, or_true, false_or, or_false, or_self, Nat.reduceAdd, Nat.reduceLT, Nat.reduceLeDiff, Nat.succ_ne_zero, reduceIte, reduceCtorEq]
theorem x_dr1 (hj : Inj φ T) (h : T a = (2, 0)) (c : ¬ I a 1 < 20 * I a 3) : f_X1_isDried (φ a) (pt φ T I R τ) = some (1, pt φ T I R τ) := by
  simp (config := {decide := true}) only [b_X1_isDried_19, b_X1_isDried_0, f_X1_isDried, gI_pt hj, gR_pt hj, ob_pt hj, pI_pt hj, pB_pt hj, pR_pt hj, aI_pt hj, aR_pt hj, wI_pt hj, aL_pt hj, cl1_s, cl1_n, cl1_i, nul_n, nul_s, nm, dv2, dv3, dv4, dv5, dv8, dv10, dv20, dv40, bo, mI_pt hj, mT_pt hj, mZ_pt, tn0, tn1, tn2, tn3, tn4, tn5, tn6, h, c, ii0, ii1, ii2, ii3, ii4, if_true, if_false, ne_eq, not_false_eq_true, not_true_eq_false, true_and, and_true, false_and, and_false, and_self, true_or, or_true, false_or, or_false, or_self, Nat.reduceAdd, Nat.reduceLT, Nat.reduceLeDiff, Nat.succ_ne_zero, reduceIte, reduceCtorEq]
theorem hsC {h d : Int32} (h3 : k ≠ 3) (h7 : k ≠ 7) (h8 : k ≠ 8) : hs h d y k = y k := by
  simp only [hs, if_neg h3, if_neg h7, if_neg h8]
theorem x_bfL (hj : Inj φ T) (t0 : T 0 = (5, 0)) (r5 : R 0 5 = some (φ 115)) (t4 : T 115 = (2, 0)) {h : Nat} (hh : h ≤ 5) {lot : Option Nat} {k30 : Nat → Option Nat → Int32 → Int32 → Int32 → Mem → Option (Int32 × Mem)} : ∀ m t p fl (J : Nat → Nat → Int32) (y : Nat → Int32), t + m = 31 → m + 1 ≤ fl → Ag (J 115) y → J 115 12 = 0 → 0 < (y 1).toInt → bfG p → ∃ J', l_X4_bestFire_47 k30 fl (φ 0) lot p.1 p.2 (Int32.ofNat h) (Int32.ofNat t) (pt φ T J R τ) = k30 (φ 0) lot (bfW (Int32.ofNat h) m t y p).1 (bfW (Int32.ofNat h) m t y p).2 (Int32.ofNat (h + 1)) (pt φ T J' R τ) ∧ (∀ v, v ≠ 115 → J' v = J v) ∧ J' 115 9 = J 115 9 ∧ J' 115 12 = 0 ∧ bfG (bfW (Int32.ofNat h) m t y p) := by
  have q0 : (T 0).1 = 4 + 1 := by rw [t0]
  have q4 : (T 115).1 = 1 + 1 := by rw [t4]
  intro m
  induction m with
  | zero =>
    intro t p fl J y h1 h2 h3 h4 h5 h6
    obtain ⟨fl', rfl⟩ : ∃ x, fl = x + 1 := ⟨fl - 1, by omega⟩
    have c1 : (30 : Int32) < Int32.ofNat t := (kN_lt (a := 30) (by omega) (by omega)).mpr (by omega)
    refine ⟨J, ?_, fun _ _ => rfl, rfl, h4, h6⟩
    rw [l_X4_bestFire_47, itr_succ, b_X4_bestFire_47, if_pos c1, nm, kN_s]; rfl
  | succ m ih =>
    intro t p fl J y h1 h2 h3 h4 h5 h6
    obtain ⟨fl', rfl⟩ : ∃ x, fl = x + 1 := ⟨fl - 1, by omega⟩
    have c1 : ¬ (30 : Int32) < Int32.ofNat t := by
      rw [show (30 : Int32) = Int32.ofNat 30 from rfl, kN_lt (by omega) (by omega)]; omega
    obtain ⟨J1, hJ1⟩ : ∃ J1, J1 = rowS J 115 (hs (Int32.ofNat h) (J 115 1) (J 115)) := ⟨_, rfl⟩
    have H1 := x_heat (I := J) (R := R) (τ := τ) (h := Int32.ofNat h) hj t4
    rw [← hJ1] at H1
    have J15 : J1 115 = hs (Int32.ofNat h) (J 115 1) (J 115) := by rw [hJ1, rowS_at]
    have A1 : Ag (J1 115) (hs (Int32.ofNat h) (y 1) y) := by rw [J15]; exact ag_hs h3
    have B1 : J1 115 12 = 0 := by rw [J15, hsC (by decide) (by decide) (by decide)]; exact h4
    have y1 : hs (Int32.ofNat h) (y 1) y 1 = y 1 := hs1
    have P1 : 0 < (hs (Int32.ofNat h) (y 1) y 1).toInt := by rw [y1]; exact h5
    have e1 := A1 1 (by omega) (by omega)
    have e3 := A1 3 (by omega) (by omega)
    have JK : ∀ v, v ≠ 115 → J1 v = J v := fun v hv => by rw [hJ1, rowS_ne hv]
    have J9 : J1 115 9 = J 115 9 := by rw [J15, hsC (by decide) (by decide) (by decide)]
    have SM1 := x_sum (I := J1) (R := R) (τ := τ) (w := 0) hj t4 (fun q => absurd B1 q)
    have np := pos_n (by rw [e1]; exact P1 : 0 < (J1 115 1).toInt)
    have sE : snX (J1 115) (J1 0) = bfS (hs (Int32.ofNat h) (y 1) y) := by
      rw [snX, nvX_leaf B1 np.1, nvX_leaf B1 np.1, nvX_leaf B1 np.1, ← ag_S A1]; rfl
    rw [sE] at SM1
    have IH := fun p' g => ih (t + 1) p' fl' J1 _ (by omega) (by omega) A1 B1 P1 g
    have fin : ∀ p', p' = bfU (Int32.ofNat h) t (hs (Int32.ofNat h) (y 1) y) p → bfG p' → ∃ J', l_X4_bestFire_47 k30 fl' (φ 0) lot p'.1 p'.2 (Int32.ofNat h) (Int32.ofNat (t + 1)) (pt φ T J1 R τ) = k30 (φ 0) lot (bfW (Int32.ofNat h) (m + 1) t y p).1 (bfW (Int32.ofNat h) (m + 1) t y p).2 (Int32.ofNat (h + 1)) (pt φ T J' R τ) ∧ (∀ v, v ≠ 115 → J' v = J v) ∧ J' 115 9 = J 115 9 ∧ J' 115 12 = 0 ∧ bfG (bfW (Int32.ofNat h) (m + 1) t y p) := by
      intro p' hp' g
      obtain ⟨J2, i1, i2, i3, i4, i5⟩ := IH p' g
      rw [bfW, ← hp']
      exact ⟨J2, i1, fun v hv => by rw [i2 v hv, JK v hv], by rw [i3, J9], i4, i5⟩
    rw [l_X4_bestFire_47, itr_succ, b_X4_bestFire_47, if_neg c1, gR_pt hj q0, r5, ob_pt hj q4, H1, cl1_s, gR_pt hj q0, r5, ob_pt hj q4]
    by_cases c2 : hs (Int32.ofNat h) (y 1) y 1 < 20 * hs (Int32.ofNat h) (y 1) y 3
    · rw [x_dr0 hj t4 (by rw [e1, e3]; exact c2), cl1_s, if_pos rfl, b_X4_bestFire_84, if_pos (bfG_le h6), b_X4_bestFire_106, nm, kN_s]
      exact fin p (by rw [bfU, if_pos c2]) h6
    · rw [x_dr1 hj t4 (by rw [e1, e3]; exact c2), cl1_s, if_neg (by decide), gR_pt hj q0, r5, ob_pt hj q4, SM1, cl1_s, b_X4_bestFire_84]
      by_cases c3 : p.2 < bfS (hs (Int32.ofNat h) (y 1) y)
      · rw [if_neg (Int32.not_le.mpr c3), nm, nm, b_X4_bestFire_106, nm, kN_s]
        exact fin (100 * Int32.ofNat h + Int32.ofNat t, bfS (hs (Int32.ofNat h) (y 1) y)) (by rw [bfU, if_neg c2, if_pos c3]) (Or.inr bfS_b.1)
      · rw [if_pos (Int32.not_lt.mp c3), b_X4_bestFire_106, nm, kN_s]
        exact fin p (by rw [bfU, if_neg c2, if_neg c3]) h6
theorem x_copyL (hj : Inj φ T) (ta : T a = (2, 0)) (tb : T b = (2, 0)) (hab : a ≠ b) (b10 : J a 10 = 0 ∨ J a 10 = 1) (b11 : J a 11 = 0 ∨ J a 11 = 1) : ∃ y, f_X1_copyLeaf (φ b) (some (φ a)) (pt φ T J R τ) = some ((), pt φ T (rowS J b y) R τ) ∧ (∀ k, 1 ≤ k → k ≤ 11 → k ≠ 9 → y k = J a k) ∧ (∀ k, (k = 0 ∨ k = 9 ∨ 12 ≤ k) → y k = J b k) := by
  refine ⟨fun k => if k = 11 then J a 11 else if k = 10 then J a 10 else if k = 8 then J a 8 else if k = 7 then J a 7 else if k = 6 then J a 6 else if k = 5 then J a 5 else if k = 4 then J a 4 else if k = 3 then J a 3 else if k = 2 then J a 2 else if k = 1 then J a 1 else J b k, ?_, ?_, ?_⟩
  · simp (config := {decide := true}) only [b_X1_copyLeaf_0, f_X1_copyLeaf, gI_pt hj, gR_pt hj, ob_pt hj, pI_pt hj, pB_pt hj, pR_pt hj, aI_pt hj, aR_pt hj, wI_pt hj, aL_pt hj, cl1_s, cl1_n, cl1_i, nul_n, nul_s, nm, dv2, dv3, dv4, dv5, dv8, dv10, dv20, dv40, bo, mI_pt hj, mT_pt hj, mZ_pt, tn0, tn1, tn2, tn3, tn4, tn5, tn6, ta, tb, b10, b11, up2_rowS, rowS_rowS, rowS_at, rowS_ne hab, ii0, ii1, ii2, ii3, ii4, if_true, if_false, ne_eq, not_false_eq_true, not_true_eq_false, true_and, and_true, false_and, and_false, and_self, true_or, or_true, false_or, or_false, or_self, Nat.reduceAdd, Nat.reduceLT, Nat.reduceLeDiff, Nat.succ_ne_zero, reduceIte, reduceCtorEq]
  · intro k h1 h2 h3
    rcases (show k = 1 ∨ k = 2 ∨ k = 3 ∨ k = 4 ∨ k = 5 ∨ k = 6 ∨ k = 7 ∨ k = 8 ∨ k = 10 ∨ k = 11 by omega) with rfl | rfl | rfl | rfl | rfl | rfl | rfl | rfl | rfl | rfl <;> rfl
  · intro k hk
    show (if k = 11 then _ else _) = _
    repeat rw [if_neg (by omega)]
theorem x_bfH (hj : Inj φ T) (t0 : T 0 = (5, 0)) (r5 : R 0 5 = some (φ 115)) (t4 : T 115 = (2, 0)) (ta : T a = (2, 0)) (na : a ≠ 115) (b10 : I a 10 = 0 ∨ I a 10 = 1) (b11 : I a 11 = 0 ∨ I a 11 = 1) (b9 : I a 9 = -1) (b1 : 0 < (I a 1).toInt) : ∀ m h p fl (J : Nat → Nat → Int32), h + m = 6 → m + 1 ≤ fl → J a = I a → J 115 9 = -1 → J 115 12 = 0 → bfG p → ∃ J', l_X4_bestFire_30 fl (φ 0) (some (φ a)) p.1 p.2 (Int32.ofNat h) (pt φ T J R τ) = some ((bfH (I a) m h p).1, pt φ T J' R τ) ∧ (∀ v, v ≠ 115 → J' v = J v) ∧ J' 115 9 = -1 ∧ J' 115 12 = 0 := by
  have q0 : (T 0).1 = 4 + 1 := by rw [t0]
  have q4 : (T 115).1 = 1 + 1 := by rw [t4]
  intro m
  induction m with
  | zero =>
    intro h p fl J h1 h2 h3 h4 h5 h6
    obtain ⟨fl', rfl⟩ : ∃ x, fl = x + 1 := ⟨fl - 1, by omega⟩
    have c1 : (5 : Int32) < Int32.ofNat h := (kN_lt (a := 5) (by omega) (by omega)).mpr (by omega)
    refine ⟨J, ?_, fun _ _ => rfl, h4, h5⟩
    rw [l_X4_bestFire_30, itr_succ, b_X4_bestFire_30, if_pos c1]; rfl
  | succ m ih =>
    intro h p fl J h1 h2 h3 h4 h5 h6
    obtain ⟨fl', rfl⟩ : ∃ x, fl = x + 1 := ⟨fl - 1, by omega⟩
    have c1 : ¬ (5 : Int32) < Int32.ofNat h := by
      rw [show (5 : Int32) = Int32.ofNat 5 from rfl, kN_lt (by omega) (by omega)]; omega
    obtain ⟨y, w1, w2, w3⟩ := x_copyL (J := J) (R := R) (τ := τ) hj ta t4 na (by rw [h3]; exact b10) (by rw [h3]; exact b11)
    have A : Ag (rowS J 115 y 115) (I a) := by
      rw [rowS_at]
      intro k k1 k2
      by_cases k9 : k = 9
      · subst k9; rw [w3 9 (by omega), h4, b9]
      · rw [w2 k k1 k2 k9, h3]
    obtain ⟨J2, i1, i2, i3, i4, i5⟩ := x_bfL (R := R) (τ := τ) (lot := some (φ a)) (k30 := l_X4_bestFire_30 fl') hj t0 r5 t4 (show h ≤ 5 by omega) 30 1 p 40 (rowS J 115 y) (I a) (by omega) (by omega) A (by rw [rowS_at, w3 12 (by omega), h5]) b1 h6
    obtain ⟨J3, k1, k2, k3, k4⟩ := ih (h + 1) _ fl' J2 (by omega) (by omega) (by rw [i2 a na, rowS_ne na, h3]) (by rw [i3, rowS_at, w3 9 (by omega), h4]) i4 i5
    refine ⟨J3, ?_, fun v hv => by rw [k2 v hv, i2 v hv, rowS_ne hv], k3, k4⟩
    rw [l_X4_bestFire_30, itr_succ, b_X4_bestFire_30, if_neg c1, gR_pt hj q0, r5, ob_pt hj q4, w1, cl1_s]
    exact i1.trans k1
def BFV (I : Nat → Nat → Int32) (i : Nat) : Int32 := (bfH (I (6 * i + 19)) 5 1 (-1, -1)).1
theorem x_bestFire (h : Cx φ T I R (mZ τ) nS nL n) (hp : InN p nL) (hi : p.toNatClampNeg = i) (hs : I (6 * i + 19) 0 = 1) : ∃ J', f_X4_bestFire (φ 0) p (pt φ T I R τ) = some ((BFV I i), pt φ T J' R τ) ∧ (∀ v, v ≠ 115 → J' v = I v) ∧ J' 115 9 = -1 ∧ J' 115 12 = 0 := by
  have iL : i < nL := hi ▸ (idx h.m.2.2.2.2.1 hp.1 hp.2).2.2.2.2
  have hN := h.m.2.2.2.2.1
  have hj := h.hj
  have X := x_lotAt h hp hi
  have LR := h.lr iL
  have t4 := h.t4 (show i < 17 by omega)
  have t15 : T 115 = (2, 0) := h.t4 (i := 16) (by omega)
  obtain ⟨t0, r5, m4⟩ : T 0 = (5, 0) ∧ R 0 5 = some (φ 115) ∧ (I 115 9 = -1 ∧ I 115 12 = 0) := by
    obtain ⟨hj, hl, hx, ⟨hm22, hm23⟩, hr⟩ := h; obtain ⟨hx0, hx1, hx2, hx3, hx4, hx5, hx6, hx7, hx8, hx9, hx10, hx11, hx12, hx13, hx14, hx15, hx16, hx17, hx18, hx19, hx20, hx21, hx22, hx23, hx24, hx25, hx26, hx27⟩ := hx; obtain ⟨⟨g1, g2⟩, r1, r2, r3, r4, r5, r6, r7⟩ := hr
    exact ⟨hx0, hx3, r6⟩
  obtain ⟨-, ⟨b10, b11, -⟩, -, ⟨-, b1⟩, -, -, -, ⟨-, b9⟩, -⟩ := LR
  obtain ⟨J', e1, e2, e3, e4⟩ := x_bfH (R := R) (τ := τ) hj t0 r5 t15 t4 (show 6 * i + 19 ≠ 115 by omega) b10 b11 (b9 (Or.inr hs)) (b1 (by rw [hs]; decide)) 5 1 (-1, -1) 40 I (by omega) (by omega) rfl m4.1 m4.2 (Or.inl rfl)
  refine ⟨J', ?_, e2, e3, e4⟩
  rw [f_X4_bestFire, b_X4_bestFire_0, ob_pt hj (by rw [t0]), X, cl1_s, gI_pt hj (by rw [t4]), hs, if_pos rfl, b_X4_bestFire_19, x_st1, cl1_s]
  exact e1
/-- what it says is a fire behind which it is made -/
def bfGd (x : Nat → Int32) (v : Int32) : Prop := v = -1 ∨ ∃ h m, (1 ≤ h ∧ h ≤ 5) ∧ (1 ≤ m ∧ m ≤ 30) ∧ v = 100 * Int32.ofNat h + Int32.ofNat m ∧ ¬ x 1 < 20 * itn (hs (Int32.ofNat h) (x 1)) m x 3
theorem itn_1 {h d : Int32} : ∀ (q : Nat) (x : Nat → Int32), itn (hs h d) q x 1 = x 1 := fun q x => hsK (by decide) (by decide) (by decide) q x
theorem bfW_gd {h : Nat} (hh : 1 ≤ h ∧ h ≤ 5) : ∀ m t p, t + m ≤ 30 → bfGd x p.1 → bfGd x (bfW (Int32.ofNat h) m (t + 1) (itn (hs (Int32.ofNat h) (x 1)) t x) p).1 := by
  intro m
  induction m with
  | zero => intro t p _ g; exact g
  | succ m ih =>
    intro t p ht g
    rw [bfW]
    have e : hs (Int32.ofNat h) (itn (hs (Int32.ofNat h) (x 1)) t x 1) (itn (hs (Int32.ofNat h) (x 1)) t x) = itn (hs (Int32.ofNat h) (x 1)) (t + 1) x := by rw [itn_1, itn_s]
    rw [e]
    refine ih (t + 1) _ (by omega) ?_
    unfold bfU
    rw [itn_1]
    split
    · exact g
    · rename_i c
      split
      · exact Or.inr ⟨h, t + 1, hh, ⟨by omega, by omega⟩, rfl, c⟩
      · exact g
theorem bfH_gd : ∀ m h p, 1 ≤ h → h + m ≤ 6 → bfGd x p.1 → bfGd x (bfH x m h p).1 := by
  intro m
  induction m with
  | zero => intro h p _ _ g; exact g
  | succ m ih =>
    intro h p h1 h2 g
    rw [bfH]
    exact ih (h + 1) _ (by omega) (by omega) (bfW_gd (h := h) ⟨h1, by omega⟩ 30 0 p (by omega) g)
theorem BFV_gd : bfGd (I (6 * i + 19)) (BFV I i) := bfH_gd 5 1 _ (by omega) (by omega) (Or.inl rfl)
theorem x_bestF (h : Cx φ T I R (mZ τ) nS nL n) (iL : i < nL) (s0 : I (6 * i + 19) 0 = 1) : ∃ J', f_X4_bestFire (φ 0) (Int32.ofNat i) (pt φ T I R τ) = some (BFV I i, pt φ T J' R τ) ∧ (∀ v, v ≠ 115 → J' v = I v) ∧ Cx φ T J' R (mZ τ) nS nL n := by
  have hN := h.m.2.2.2.2.1
  have hS4 := h.m.2.2.2.2.2.1
  obtain ⟨J', e1, e2, e3, e4⟩ := x_bestFire h (InN.of iL (by omega)) (tnK (by omega)) s0
  refine ⟨J', e1, e2, h.of (Nat.le_refl _) (h.2.2.2.2.same (Nat.le_refl _) h.m.2.2.2.2.2.1 hN ?_ (fun j hj => ?_) (fun j y1 y2 => ?_) (fun j hj => ?_) (fun j y1 y2 => ?_) (fun j hj => ?_) ?_)⟩
  · rw [e2 0 (by omega)]; exact ⟨rfl, rfl, rfl, rfl⟩
  · rw [e2 (6 * j + 19) (by omega), e2 (6 * j + 20) (by omega), e2 (6 * j + 21) (by omega), e2 (6 * j + 22) (by omega), e2 (6 * j + 23) (by omega)]
    exact ⟨h.lr hj, rfl⟩
  · exact ⟨e2 _ (by omega), e2 _ (by omega), e2 _ (by omega), e2 _ (by omega), e2 _ (by omega)⟩
  · rw [e2 (2 * j + 11) (by omega), e2 (2 * j + 12) (by omega)]; exact h.sr hj
  · exact ⟨e2 _ (by omega), e2 _ (by omega)⟩
  · rw [e2 (j + 3) (by omega)]; exact h.tr hj
  · have := h.2.2.2.2.2.2.2.2.2.2.1
    exact ⟨e3.trans this.1.symm, e4.trans this.2.symm⟩
end BF
/-! SECTIONS, TASTERS, PURSES, OFFERS, BIDS -/
section K2
variable {φ : Nat → Nat} {T : Nat → Nat × Nat} {I J : Nat → Nat → Int32} {R : Nat → Nat → Option Nat} {τ : Mem} {nS nL n z : Nat}
variable {i k j q w : Nat} {p c f more : Int32} {x y : Nat → Int32} {d h0 : Int32}
theorem x_sprayF (h : Cx φ T I R (mZ τ) nS nL n) (sL : i < nS) : ∃ J', f_X4_spray (φ 0) (Int32.ofNat i) (pt φ T I R τ) = some (I (2 * i + 11) 4, pt φ T J' R τ) ∧ 0 ≤ I (2 * i + 11) 4 ∧ J' (2 * i + 11) 4 = 0 ∧ J' (2 * i + 11) 5 = 3 ∧ Cx φ T J' R (mZ τ) nS nL (n + 1) ∧ J' 0 = I 0 ∧ J' 10 = I 10 := by
  have hS4 := h.m.2.2.2.2.2.1
  have hN := h.m.2.2.2.2.1
  have hj := h.hj
  have hx0 := h.m.2.2.2.2.2.2.2
  have A := x_secAt h (InN.of sL (by omega)) (tnK (by omega))
  have T5 := h.t5 (show i < 4 by omega)
  obtain ⟨b0, b1, b2, b3, b4, sh, hb⟩ := h.sr sL
  have z0 : (0 : Int32).toInt = 0 := rfl
  refine ⟨up2 (up2 I (2 * i + 11) 4 0) (2 * i + 11) 5 3, ?_, Int32.le_iff_toInt_le.mpr (by rw [z0]; exact b4.1), ?_, up2_at, h.of (Nat.le_refl _) (h.2.2.2.2.sec (Nat.le_succ _) hS4 hN i sL (fun v hv => by rw [up2_row (by omega), up2_row (by omega)]) ?_), ?_, ?_⟩
  · simp (config := {decide := true}) only [b_X4_spray_0, f_X4_spray, A, gI_pt hj, gR_pt hj, ob_pt hj, pI_pt hj, pB_pt hj, pR_pt hj, aI_pt hj, aR_pt hj, wI_pt hj, aL_pt hj, cl1_s, cl1_n, cl1_i, nul_n, nul_s, nm, dv2, dv3, dv4, dv5, dv8, dv10, dv20, dv40, bo, mI_pt hj, mT_pt hj, mZ_pt, tn0, tn1, tn2, tn3, tn4, tn5, tn6, hx0, T5, up2_k, up2_at, ii0, ii1, ii2, ii3, ii4, if_true, if_false, ne_eq, not_false_eq_true, not_true_eq_false, true_and, and_true, false_and, and_false, and_self, true_or, or_true, false_or, or_false, or_self, Nat.reduceAdd, Nat.reduceLT, Nat.reduceLeDiff, Nat.succ_ne_zero, reduceIte, reduceCtorEq]
  · rw [up2_k (by decide), up2_at]
  · unfold SecR
    simp (disch := omega) only [up2_row, up2_k, up2_at]
    exact ⟨b0, b1, b2, b3, ⟨by decide, by omega⟩, sh, hb.1, by have := hb.2; omega⟩
  · rw [up2_row (by omega), up2_row (by omega)]
  · rw [up2_row (by omega), up2_row (by omega)]
theorem x_purseF (h : Cx φ T I R (mZ τ) nS nL n) {P : Int} (hM : Mon I P n) (hn : n < 600) (hw : w < 4) (hm : 1 ≤ more ∧ more ≤ 200) : ∃ J', f_X4_purse (φ 0) (Int32.ofNat w) more (pt φ T I R τ) = some (J' 10 w, pt φ T J' R τ) ∧ Cx φ T J' R (mZ τ) nS nL (n + 1) ∧ Mon J' (P + more.toInt) (n + 1) ∧ (∀ v, v ≠ 10 → J' v = I v) := by
  have hS4 := h.m.2.2.2.2.2.1
  have hN := h.m.2.2.2.2.1
  have Q1 : f_X4_requireIndex (Int32.ofNat w) 4 (pt φ T I R τ) = some ((), pt φ T I R τ) := x_reqI (N := 4) _ (by omega) (InN.of hw (by omega))
  have z1 : (1 : Int32).toInt = 1 := rfl
  have z2 : (200 : Int32).toInt = 200 := rfl
  have m1 := leT hm.1; have m2 := leT hm.2
  have Q2 := x_req (p := more) (a := 1) (b := 9999) (pt φ T I R τ) hm.1 (Int32.le_iff_toInt_le.mpr (by rw [show (9999 : Int32).toInt = 9999 from rfl]; omega))
  obtain ⟨hm1, hm2, hm3⟩ := hM
  have hw1 := hm1 w hw
  have e : (I 10 w + more).toInt = (I 10 w).toInt + more.toInt := tAdd (by omega) (by omega)
  have c4 := kN_nn (a := w) (by omega)
  have c5 := tnK (k := w) (by omega)
  refine ⟨up2 I 10 w (I 10 w + more), ?_, h.of (Nat.le_refl _) (h.2.2.2.2.pur (Nat.le_succ _) hS4 hN (fun v h1 _ _ => up2_row h1) ?_ ?_), ⟨fun k hk => ?_, ?_, by omega⟩, fun v hv => up2_row hv⟩
  · rw [up2_at]
    obtain ⟨hj, hl, hx, ⟨hm22, hm23⟩, hr⟩ := h; obtain ⟨hx0, hx1, hx2, hx3, hx4, hx5, hx6, hx7, hx8, hx9, hx10, hx11, hx12, hx13, hx14, hx15, hx16, hx17, hx18, hx19, hx20, hx21, hx22, hx23, hx24, hx25, hx26, hx27⟩ := hx; obtain ⟨⟨g1, g2⟩, r1, r2, r3, r4, r5, r6, r7⟩ := hr
    simp (config := {decide := true}) only [b_X4_purse_0, f_X4_purse, Q1, Q2, gI_pt hj, gR_pt hj, ob_pt hj, pI_pt hj, pB_pt hj, pR_pt hj, aI_pt hj, aR_pt hj, wI_pt hj, aL_pt hj, cl1_s, cl1_n, cl1_i, nul_n, nul_s, nm, dv2, dv3, dv4, dv5, dv8, dv10, dv20, dv40, bo, mI_pt hj, mT_pt hj, mZ_pt, tn0, tn1, tn2, tn3, tn4, tn5, tn6, hx0, hx5, hx9, c4, c5, hw, up2_at, ii0, ii1, ii2, ii3, ii4, if_true, if_false, ne_eq, not_false_eq_true, not_true_eq_false, true_and, and_true, false_and, and_false, and_self, true_or, or_true, false_or, or_false, or_self, Nat.reduceAdd, Nat.reduceLT, Nat.reduceLeDiff, Nat.succ_ne_zero, reduceIte, reduceCtorEq]
  · rw [up2_row (by omega)]; exact ⟨rfl, rfl, rfl, rfl⟩
  · rw [up2_row (by omega)]; exact ⟨rfl, rfl⟩
  · by_cases ck : k = w
    · subst ck; rw [up2_at, e]; omega
    · rw [up2_k ck]; have := hm1 k hk; omega
  · rw [up2_row (by omega)]
    rcases (show w = 0 ∨ w = 1 ∨ w = 2 ∨ w = 3 by omega) with rfl | rfl | rfl | rfl <;> simp (disch := omega) only [up2_at, up2_k, e] <;> omega
theorem x_leanF (h : Cx φ T I R (mZ τ) nS nL n) (hj3 : j < 3) (hc : -2 ≤ c ∧ c ≤ 2) : ∃ J', f_X4_lean (φ 0) (Int32.ofNat j) c (pt φ T I R τ) = some (I (j + 3) 0, pt φ T J' R τ) ∧ ¬ I (j + 3) 0 < -2 ∧ Cx φ T J' R (mZ τ) nS nL (n + 1) ∧ (∀ v, v ≠ j + 3 → J' v = I v) := by
  have hS4 := h.m.2.2.2.2.2.1
  have hN := h.m.2.2.2.2.1
  have hj := h.hj
  have hx0 := h.m.2.2.2.2.2.2.2
  have A := x_tasAt h (InN.of hj3 (by omega)) (tnK (by omega))
  have Q := x_req (pt φ T I R τ) hc.1 hc.2
  obtain ⟨b0, b2, b1⟩ := h.tr hj3
  have zn : (-2 : Int32).toInt = -2 := rfl
  have z2 : (2 : Int32).toInt = 2 := rfl
  have c1 := leT hc.1; have c2 := leT hc.2
  have T6 : T (j + 3) = (4, 0) := by
    obtain ⟨hj, hl, hx, ⟨hm22, hm23⟩, hr⟩ := h; obtain ⟨hx0, hx1, hx2, hx3, hx4, hx5, hx6, hx7, hx8, hx9, hx10, hx11, hx12, hx13, hx14, hx15, hx16, hx17, hx18, hx19, hx20, hx21, hx22, hx23, hx24, hx25, hx26, hx27⟩ := hx; obtain ⟨⟨g1, g2⟩, r1, r2, r3, r4, r5, r6, r7⟩ := hr
    exact hx27 j hj3
  refine ⟨up2 I (j + 3) 0 c, ?_, fun q => by have := ltT q; omega, h.of (Nat.le_refl _) (h.2.2.2.2.tas (Nat.le_succ _) hS4 hN j hj3 (fun v hv => up2_row hv) ?_), fun v hv => up2_row hv⟩
  · simp (config := {decide := true}) only [b_X4_lean_0, f_X4_lean, A, Q, gI_pt hj, gR_pt hj, ob_pt hj, pI_pt hj, pB_pt hj, pR_pt hj, aI_pt hj, aR_pt hj, wI_pt hj, aL_pt hj, cl1_s, cl1_n, cl1_i, nul_n, nul_s, nm, dv2, dv3, dv4, dv5, dv8, dv10, dv20, dv40, bo, mI_pt hj, mT_pt hj, mZ_pt, tn0, tn1, tn2, tn3, tn4, tn5, tn6, hx0, T6, ii0, ii1, ii2, ii3, ii4, if_true, if_false, ne_eq, not_false_eq_true, not_true_eq_false, true_and, and_true, false_and, and_false, and_self, true_or, or_true, false_or, or_false, or_self, Nat.reduceAdd, Nat.reduceLT, Nat.reduceLeDiff, Nat.succ_ne_zero, reduceIte, reduceCtorEq]
  · unfold TasR
    simp (disch := omega) only [up2_k, up2_at]
    exact ⟨⟨by omega, by omega⟩, ⟨b2.1, by omega⟩, b1⟩
/-- a guess is near -/
theorem gs_b {s r : Int32} (h1 : 0 ≤ r.toInt) (h2 : r.toInt ≤ 1000) (h3 : -6 * r.toInt ≤ s.toInt) (h4 : s.toInt ≤ 6 * r.toInt) : -2 ≤ (gs s r).toInt ∧ (gs s r).toInt ≤ 2 := by
  obtain ⟨e3, e6⟩ := r3 h1 h2
  have z0 : (0 : Int32).toInt = 0 := rfl
  have z2 : (2 : Int32).toInt = 2 := rfl
  unfold gs
  split
  · rename_i hp
    have hp := ltT hp
    rw [e3, z0] at hp
    have key : ∀ a : Int32, 0 ≤ a.toInt → a.toInt ≤ 6 * r.toInt → 0 ≤ ((2 * a + 3 * r) / (2 * (3 * r))).toInt ∧ ((2 * a + 3 * r) / (2 * (3 * r))).toInt ≤ 2 := by
      intro a a1 a2
      have f1 : (2 * a).toInt = 2 * a.toInt := by rw [tMul (by rw [z2]; omega) (by rw [z2]; omega), z2]
      have f2 : (2 * a + 3 * r).toInt = 2 * a.toInt + 3 * r.toInt := by rw [tAdd (by omega) (by omega), f1, e3]
      rw [divP (z := 6 * r.toInt) _ e6 (by omega) (by omega), f2]
      refine ⟨Int.ediv_nonneg (by omega) (by omega), ?_⟩
      have : (2 * a.toInt + 3 * r.toInt) / (6 * r.toInt) < 3 := Int.ediv_lt_of_lt_mul (by omega) (by omega)
      omega
    by_cases c : 0 ≤ s
    · rw [if_pos c, if_pos c]
      have c' := leT c
      have := key s (by omega) (by omega)
      omega
    · rw [if_neg c, if_neg c]
      have c' := ltT (Int32.not_le.mp c)
      have e : (0 - s).toInt = 0 - s.toInt := by rw [tSub (by omega) (by omega), z0]
      have := key (0 - s) (by omega) (by omega)
      generalize (2 * (0 - s) + 3 * r) / (2 * (3 * r)) = v at this
      have ev : (-v).toInt = -v.toInt := by
        rw [Int32.toInt_neg]; exact Int.bmod_eq_of_le (by omega) (by omega)
      omega
  · omega
theorem dfV_b {x l : Int32} (hx : 0 ≤ x.toInt ∧ x.toInt ≤ 9) (hl : -2 ≤ l.toInt ∧ l.toInt ≤ 2) : -2 ≤ (dfV x l).toInt ∧ (dfV x l).toInt ≤ 2 := by
  have z9 : (9 : Int32).toInt = 9 := rfl
  have z0 : (0 : Int32).toInt = 0 := rfl
  have e : (x + l).toInt = x.toInt + l.toInt := tAdd (by omega) (by omega)
  have b := hld_b (x + l)
  have f : (dfV x l).toInt = (hld (x + l)).toInt - x.toInt := tSub (by omega) (by omega)
  rw [f]
  have g : (hld (x + l)).toInt = (x + l).toInt ∨ ((hld (x + l)).toInt = 9 ∧ 9 ≤ (x + l).toInt) ∨ ((hld (x + l)).toInt = 0 ∧ (x + l).toInt ≤ 0) := by
    unfold hld
    by_cases c1 : x + l < 9
    · rw [if_pos c1]
      by_cases c2 : 0 < x + l
      · rw [if_pos c2]; exact Or.inl rfl
      · rw [if_neg c2]; have := leT (Int32.not_lt.mp c2); exact Or.inr (Or.inr ⟨rfl, by omega⟩)
    · rw [if_neg c1, if_pos (by decide)]; have := leT (Int32.not_lt.mp c1); exact Or.inr (Or.inl ⟨rfl, by omega⟩)
  omega
theorem x_repeatF (h : Cx φ T I R (mZ τ) nS nL n) (hn : n < 600) (iL : i < nL) (s0 : I (6 * i + 19) 0 = 2) (hj3 : j < 3) : ∃ g J', f_X4_repeat (φ 0) (Int32.ofNat j) (Int32.ofNat i) (pt φ T I R τ) = some (g, pt φ T J' R τ) ∧ (-2 ≤ g ∧ g ≤ 2) ∧ gs (J' (j + 3) 1) (J' (j + 3) 2) = g ∧ J' (j + 3) 2 = I (j + 3) 2 + 1 ∧ Cx φ T J' R (mZ τ) nS nL (n + 1) ∧ (∀ v, v ≠ j + 3 → J' v = I v) := by
  have hS4 := h.m.2.2.2.2.2.1
  have hN := h.m.2.2.2.2.1
  have hj := h.hj
  have hx0 := h.m.2.2.2.2.2.2.2
  have T4 := h.t4 (show i < 17 by omega)
  have A := x_tasAt h (InN.of hj3 (by omega)) (tnK (by omega))
  have B := x_lotAt h (InN.of iL (by omega)) (tnK (by omega))
  have L := x_repLoop (i := i) (j := j) (τ := τ) h (by omega) (by omega) hj3
  obtain ⟨b0, b2, b1⟩ := h.tr hj3
  have z1 : (1 : Int32).toInt = 1 := rfl
  have n0 := dfV_b (NV_b h iL (show 0 < 3 by omega)) b0
  have n1 := dfV_b (NV_b h iL (show 1 < 3 by omega)) b0
  have n2 := dfV_b (NV_b h iL (show 2 < 3 by omega)) b0
  have e1 : (I (j + 3) 1 + dfV (NV I i 0) (I (j + 3) 0)).toInt = (I (j + 3) 1).toInt + (dfV (NV I i 0) (I (j + 3) 0)).toInt := tAdd (by omega) (by omega)
  have e2 : (I (j + 3) 1 + dfV (NV I i 0) (I (j + 3) 0) + dfV (NV I i 1) (I (j + 3) 0)).toInt = (I (j + 3) 1).toInt + (dfV (NV I i 0) (I (j + 3) 0)).toInt + (dfV (NV I i 1) (I (j + 3) 0)).toInt := by rw [tAdd (by omega) (by omega), e1]
  have e3 : (RS I i j).toInt = (I (j + 3) 1).toInt + (dfV (NV I i 0) (I (j + 3) 0)).toInt + (dfV (NV I i 1) (I (j + 3) 0)).toInt + (dfV (NV I i 2) (I (j + 3) 0)).toInt := by
    unfold RS; rw [tAdd (by omega) (by omega), e2]
  have e4 : (I (j + 3) 2 + 1).toInt = (I (j + 3) 2).toInt + 1 := by rw [tAdd (by omega) (by omega), z1]
  have G := gs_b (s := RS I i j) (r := I (j + 3) 2 + 1) (by omega) (by omega) (by omega) (by omega)
  refine ⟨gs (RS I i j) (I (j + 3) 2 + 1), up2 (up2 I (j + 3) 1 (RS I i j)) (j + 3) 2 (I (j + 3) 2 + 1), ?_, ⟨Int32.le_iff_toInt_le.mpr (by rw [show (-2 : Int32).toInt = -2 from rfl]; exact G.1), Int32.le_iff_toInt_le.mpr (by rw [show (2 : Int32).toInt = 2 from rfl]; exact G.2)⟩, ?_, up2_at, h.of (Nat.le_refl _) (h.2.2.2.2.tas (Nat.le_succ _) hS4 hN j hj3 (fun v hv => by rw [up2_row hv, up2_row hv]) ?_), fun v hv => by rw [up2_row hv, up2_row hv]⟩
  · simp (config := {decide := true}) only [b_X4_repeat_16, b_X4_repeat_0, f_X4_repeat, b_X4_madeLotAt_19, b_X4_madeLotAt_0, f_X4_madeLotAt, A, B, L, x_st1, s0, gI_pt hj, gR_pt hj, ob_pt hj, pI_pt hj, pB_pt hj, pR_pt hj, aI_pt hj, aR_pt hj, wI_pt hj, aL_pt hj, cl1_s, cl1_n, cl1_i, nul_n, nul_s, nm, dv2, dv3, dv4, dv5, dv8, dv10, dv20, dv40, bo, mI_pt hj, mT_pt hj, mZ_pt, tn0, tn1, tn2, tn3, tn4, tn5, tn6, hx0, T4, ii0, ii1, ii2, ii3, ii4, if_true, if_false, ne_eq, not_false_eq_true, not_true_eq_false, true_and, and_true, false_and, and_false, and_self, true_or, or_true, false_or, or_false, or_self, Nat.reduceAdd, Nat.reduceLT, Nat.reduceLeDiff, Nat.succ_ne_zero, reduceIte, reduceCtorEq]
  · rw [up2_at, u21, up2_at]
  · unfold TasR
    rw [up2_at, u20, u10, u21, up2_at, e3, e4]
    exact ⟨b0, ⟨by omega, by omega⟩, by omega, by omega⟩
theorem td3 {s : Int} : (0 ≤ s → s.tdiv 3 = s / 3) ∧ (s < 0 → s.tdiv 3 = -((-s) / 3)) := by
  refine ⟨fun h => Int.tdiv_eq_ediv_of_nonneg h, fun h => ?_⟩
  have e : s = -(-s) := by omega
  rw [e, Int.neg_tdiv, Int.tdiv_eq_ediv_of_nonneg (by omega)]; simp
theorem TV_near (h : Cx φ T I R z nS nL n) (hn : n < 600) {v : Int32} (hv : 0 ≤ v.toInt ∧ v.toInt ≤ 9) : -4 ≤ (TV I v).toInt - v.toInt ∧ (TV I v).toInt - v.toInt ≤ 4 := by
  have one : ∀ j, j < 3 → -4 ≤ (tlV I v j).toInt - v.toInt ∧ (tlV I v j).toInt - v.toInt ≤ 4 := by
    intro j hj3
    obtain ⟨b0, b2, b1⟩ := h.tr hj3
    have d := dfV_b hv b0
    have g := gs_b b2.1 (by omega) b1.1 b1.2
    have b := hld_b (v + I (j + 3) 0)
    have e1 : (dfV v (I (j + 3) 0)).toInt = (hld (v + I (j + 3) 0)).toInt - v.toInt := tSub (by omega) (by omega)
    have e2 : (tlV I v j).toInt = (hld (v + I (j + 3) 0)).toInt - (gs (I (j + 3) 1) (I (j + 3) 2)).toInt := tSub (by omega) (by omega)
    omega
  have h0 := one 0 (by omega)
  have h1 := one 1 (by omega)
  have h2 := one 2 (by omega)
  have z9 : (9 : Int32).toInt = 9 := rfl
  have z0 : (0 : Int32).toInt = 0 := rfl
  have z3 : (3 : Int32).toInt = 3 := rfl
  have e1 : (0 + tlV I v 0 + tlV I v 1).toInt = (tlV I v 0).toInt + (tlV I v 1).toInt := by rw [Int32.zero_add, tAdd (by omega) (by omega)]
  have e2 : (0 + tlV I v 0 + tlV I v 1 + tlV I v 2).toInt = (tlV I v 0).toInt + (tlV I v 1).toInt + (tlV I v 2).toInt := by rw [tAdd (by omega) (by omega), e1]
  generalize hs : 0 + tlV I v 0 + tlV I v 1 + tlV I v 2 = s at e2
  have e3 : (s / 3).toInt = s.toInt.tdiv 3 := by
    rw [Int32.toInt_div, z3]
    have := td3 (s := s.toInt)
    exact Int.bmod_eq_of_le (by omega) (by omega)
  have td := td3 (s := s.toInt)
  have g : (TV I v).toInt = (s / 3).toInt ∨ ((TV I v).toInt = 9 ∧ 9 ≤ (s / 3).toInt) ∨ ((TV I v).toInt = 0 ∧ (s / 3).toInt ≤ 0) := by
    unfold TV hld
    rw [hs]
    by_cases c1 : s / 3 < 9
    · rw [if_pos c1]
      by_cases c2 : 0 < s / 3
      · rw [if_pos c2]; exact Or.inl rfl
      · rw [if_neg c2]; have := leT (Int32.not_lt.mp c2); exact Or.inr (Or.inr ⟨rfl, by omega⟩)
    · rw [if_neg c1, if_pos (by decide)]; have := leT (Int32.not_lt.mp c1); exact Or.inr (Or.inl ⟨rfl, by omega⟩)
  omega
theorem sm_op {J : Nat → Nat → Int32} (hi : i < nL) (ho : ¬ J (6 * i + 22) 0 ≤ 0) : ∀ m, m ≤ 16 → 0 ≤ (sm (opX J) m).toInt ∧ (sm (opX J) m).toInt ≤ m ∧ (i < m → 1 ≤ (sm (opX J) m).toInt) := by
  intro m
  induction m with
  | zero => intro _; exact ⟨Int.le_refl _, Int.le_refl _, fun q => by omega⟩
  | succ m ih =>
    intro hm
    obtain ⟨i1, i2, i3⟩ := ih (by omega)
    have o : 0 ≤ (opX J m).toInt ∧ (opX J m).toInt ≤ 1 := by
      have p0 : 0 ≤ (0 : Int32).toInt ∧ (0 : Int32).toInt ≤ 1 := by decide
      have p1 : 0 ≤ (1 : Int32).toInt ∧ (1 : Int32).toInt ≤ 1 := by decide
      unfold opX; split
      · exact p0
      · exact p1
    have e : (sm (opX J) (m + 1)).toInt = (sm (opX J) m).toInt + (opX J m).toInt := tAdd (by omega) (by omega)
    rw [e]
    refine ⟨by omega, by omega, fun q => ?_⟩
    by_cases c : i = m
    · subst c
      have : (opX J i).toInt = 1 := by unfold opX; rw [if_neg ho]; rfl
      omega
    · have := i3 (by omega); omega
theorem x_offerF (h : Cx φ T I R (mZ τ) nS nL n) (iL : i < nL) (s0 : I (6 * i + 19) 0 = 2) (hc : 1 ≤ c ∧ c ≤ 99) : ∃ v J', f_X4_offer (φ 0) (Int32.ofNat i) c (pt φ T I R τ) = some (v, pt φ T J' R τ) ∧ ¬ v < 1 ∧ Cx φ T J' R (mZ τ) nS nL (n + 1) ∧ J' (6 * i + 22) 0 = c ∧ J' (6 * i + 19) = I (6 * i + 19) ∧ J' 0 = I 0 ∧ J' 10 = I 10 := by
  have hN := h.m.2.2.2.2.1
  have hj := h.hj
  have hx0 := h.m.2.2.2.2.2.2.2
  have T4 := h.t4 (show i < 17 by omega)
  have A := x_lotAt h (InN.of iL (by omega)) (tnK (by omega))
  have Q := x_req (pt φ T I R τ) hc.1 hc.2
  have z1 : (1 : Int32).toInt = 1 := rfl
  have z99 : (99 : Int32).toInt = 99 := rfl
  have z0 : (0 : Int32).toInt = 0 := rfl
  have c1 := leT hc.1; have c2 := leT hc.2
  obtain ⟨R15, T3⟩ : R (6 * i + 19) 15 = some (φ (6 * i + 22)) ∧ T (6 * i + 22) = (1, 0) := by
    obtain ⟨hj, hl, hx, ⟨hm22, hm23⟩, hr⟩ := h; obtain ⟨hx0, hx1, hx2, hx3, hx4, hx5, hx6, hx7, hx8, hx9, hx10, hx11, hx12, hx13, hx14, hx15, hx16, hx17, hx18, hx19, hx20, hx21, hx22, hx23, hx24, hx25, hx26, hx27⟩ := hx; obtain ⟨⟨g1, g2⟩, r1, r2, r3, r4, r5, r6, r7⟩ := hr
    exact ⟨hx18 i (by omega), hx21 i (by omega)⟩
  have XL := x_offL (τ := τ) (J := up2 I (6 * i + 22) 0 c) h (up2_row (by omega))
  have SB := sm_op (J := up2 I (6 * i + 22) 0 c) iL (by rw [up2_at]; exact fun q => by have := leT q; omega) nL hN
  obtain ⟨q1, q2, q3, q4, q5, q6, q7, q8, q9, q10, q11⟩ := h.lr iL
  refine ⟨sm (opX (up2 I (6 * i + 22) 0 c)) nL, up2 I (6 * i + 22) 0 c, ?_, fun q => ?_, h.lot (Nat.le_succ _) iL (fun v hv => up2_row (by omega)) ?_ ?_, up2_at, up2_row (by omega), up2_row (by omega), up2_row (by omega)⟩
  · simp (config := {decide := true}) only [b_X4_offer_71, b_X4_offer_43, b_X4_offer_26, b_X4_offer_0, f_X4_offer, A, Q, x_st1, s0, T4, R15, T3, XL, gI_pt hj, gR_pt hj, ob_pt hj, pI_pt hj, pB_pt hj, pR_pt hj, aI_pt hj, aR_pt hj, wI_pt hj, aL_pt hj, cl1_s, cl1_n, cl1_i, nul_n, nul_s, nm, dv2, dv3, dv4, dv5, dv8, dv10, dv20, dv40, bo, mI_pt hj, mT_pt hj, mZ_pt, tn0, tn1, tn2, tn3, tn4, tn5, tn6, hx0, ii0, ii1, ii2, ii3, ii4, if_true, if_false, ne_eq, not_false_eq_true, not_true_eq_false, true_and, and_true, false_and, and_false, and_self, true_or, or_true, false_or, or_false, or_self, Nat.reduceAdd, Nat.reduceLT, Nat.reduceLeDiff, Nat.succ_ne_zero, reduceIte, reduceCtorEq]
  · have := ltT q; have := SB.2.2 iL; omega
  · rw [up2_row (show 6 * i + 19 ≠ 6 * i + 22 by omega), up2_row (show 6 * i + 20 ≠ 6 * i + 22 by omega), up2_row (show 6 * i + 21 ≠ 6 * i + 22 by omega), up2_row (show 6 * i + 23 ≠ 6 * i + 22 by omega)]
    refine LotR.mono (Nat.le_succ n) ⟨q1, q2, q3, q4, q5, q6, q7, q8, q9, ?_, ?_⟩
    · rw [up2_at]; exact ⟨by omega, by omega, fun _ => s0⟩
    · rw [up2_at]; exact fun k hk => ⟨(q11 k hk).1, (q11 k hk).2.1, fun q => by rw [q, z0] at c1; omega⟩
  · rw [up2_row (by omega)]
theorem cnB_4 {f : Nat → Int32} : ∀ k, cnB f k ≤ k := by
  intro k
  induction k with
  | zero => exact Nat.le_refl _
  | succ k ih => simp only [cnB]; split <;> omega
theorem x_bidF (h : Cx φ T I R (mZ τ) nS nL n) (iL : i < nL) (ho : ¬ I (6 * i + 22) 0 ≤ 0) (hw : w < 4) (hc : 1 ≤ c ∧ c ≤ 99) : ∃ v J', f_X4_bid (φ 0) (Int32.ofNat w) (Int32.ofNat i) c (pt φ T I R τ) = some (v, pt φ T J' R τ) ∧ ¬ 4 < v ∧ Cx φ T J' R (mZ τ) nS nL (n + 1) ∧ J' (6 * i + 23) w = c ∧ J' 0 = I 0 ∧ J' 10 = I 10 := by
  have hN := h.m.2.2.2.2.1
  have hj := h.hj
  have hx0 := h.m.2.2.2.2.2.2.2
  have T4 := h.t4 (show i < 17 by omega)
  have Q1 : f_X4_requireIndex (Int32.ofNat w) 4 (pt φ T I R τ) = some ((), pt φ T I R τ) := x_reqI (N := 4) _ (by omega) (InN.of hw (by omega))
  have A := x_lotAt h (InN.of iL (by omega)) (tnK (by omega))
  have Q := x_req (pt φ T I R τ) hc.1 hc.2
  have z1 : (1 : Int32).toInt = 1 := rfl
  have z99 : (99 : Int32).toInt = 99 := rfl
  have z0 : (0 : Int32).toInt = 0 := rfl
  have c1 := leT hc.1; have c2 := leT hc.2
  obtain ⟨R15, T3⟩ : R (6 * i + 19) 15 = some (φ (6 * i + 22)) ∧ T (6 * i + 22) = (1, 0) := by
    obtain ⟨hj, hl, hx, ⟨hm22, hm23⟩, hr⟩ := h; obtain ⟨hx0, hx1, hx2, hx3, hx4, hx5, hx6, hx7, hx8, hx9, hx10, hx11, hx12, hx13, hx14, hx15, hx16, hx17, hx18, hx19, hx20, hx21, hx22, hx23, hx24, hx25, hx26, hx27⟩ := hx; obtain ⟨⟨g1, g2⟩, r1, r2, r3, r4, r5, r6, r7⟩ := hr
    exact ⟨hx18 i (by omega), hx21 i (by omega)⟩
  have O := x_isOpen (I := I) (R := R) (τ := τ) hj T3
  rw [if_neg ho] at O
  have PL := x_place (J := I) (τ := τ) (pr := c) h (show i < 17 by omega) hw
  generalize hJ : up2 (up2 (up2 I (6 * i + 22) 1 (I (6 * i + 22) 1 + 1)) (6 * i + 23) w c) (6 * i + 24) w (I (6 * i + 22) 1 + 1) = J' at PL
  have CB := x_countB (J := J') (τ := τ) h (show i < 17 by omega)
  have k1 : ∀ v, v ≠ 6 * i + 22 → v ≠ 6 * i + 23 → v ≠ 6 * i + 24 → J' v = I v := fun v h1 h2 h3 => by rw [← hJ, up2_row h3, up2_row h2, up2_row h1]
  have k2 : J' (6 * i + 22) 0 = I (6 * i + 22) 0 := by rw [← hJ, up2_row (by omega), up2_row (by omega), up2_k (by decide)]
  have k3 : J' (6 * i + 23) w = c := by rw [← hJ, up2_row (by omega), up2_at]
  have k4 : ∀ k, k ≠ w → J' (6 * i + 23) k = I (6 * i + 23) k := fun k hk => by rw [← hJ, up2_row (by omega), up2_k hk, up2_row (by omega)]
  obtain ⟨q1, q2, q3, q4, q5, q6, q7, q8, q9, q10, q11⟩ := h.lr iL
  refine ⟨Int32.ofNat (cnB (J' (6 * i + 23)) 4), J', ?_, fun q => ?_, h.lot (Nat.le_succ _) iL (fun v hv => k1 v (by omega) (by omega) (by omega)) ?_ ?_, k3, k1 0 (by omega) (by omega) (by omega), k1 10 (by omega) (by omega) (by omega)⟩
  · simp (config := {decide := true}) only [b_X4_bid_0, f_X4_bid, Q1, A, Q, O, x_st1, T4, R15, T3, PL, CB, gI_pt hj, gR_pt hj, ob_pt hj, pI_pt hj, pB_pt hj, pR_pt hj, aI_pt hj, aR_pt hj, wI_pt hj, aL_pt hj, cl1_s, cl1_n, cl1_i, nul_n, nul_s, nm, dv2, dv3, dv4, dv5, dv8, dv10, dv20, dv40, bo, mI_pt hj, mT_pt hj, mZ_pt, tn0, tn1, tn2, tn3, tn4, tn5, tn6, hx0, ii0, ii1, ii2, ii3, ii4, if_true, if_false, ne_eq, not_false_eq_true, not_true_eq_false, true_and, and_true, false_and, and_false, and_self, true_or, or_true, false_or, or_false, or_self, Nat.reduceAdd, Nat.reduceLT, Nat.reduceLeDiff, Nat.succ_ne_zero, reduceIte, reduceCtorEq]
  · rw [show (4 : Int32) = Int32.ofNat 4 from rfl, kN_lt (by omega) (by have := cnB_4 (f := J' (6 * i + 23)) 4; omega)] at q
    have := cnB_4 (f := J' (6 * i + 23)) 4; omega
  · rw [k1 (6 * i + 19) (by omega) (by omega) (by omega), k1 (6 * i + 20) (by omega) (by omega) (by omega), k1 (6 * i + 21) (by omega) (by omega) (by omega)]
    refine LotR.mono (Nat.le_succ n) ⟨q1, q2, q3, q4, q5, q6, q7, q8, q9, ?_, ?_⟩
    · rw [k2]; exact q10
    · rw [k2]; intro k hk
      by_cases ck : k = w
      · subst ck; rw [k3]; exact ⟨by omega, by omega, fun q => by rw [q] at ho; exact absurd (Int32.le_refl 0) ho⟩
      · rw [k4 k ck]; exact q11 k hk
  · rw [k1 _ (by omega) (by omega) (by omega)]
end K2
