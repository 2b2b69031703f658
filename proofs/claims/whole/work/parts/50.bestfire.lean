/-! BESTFIRE: what both reckon -/
section BF
variable {φ : Nat → Nat} {T : Nat → Nat × Nat} {I : Nat → Nat → Int32} {R : Nat → Nat → Option Nat} {τ : Mem} {e0 nS nL cS cL n z : Nat} {mx : Nat → Int32} {cB : Nat → Nat} {bl : Nat → List (Nat × Int32)}
variable {mi a b w q k i j t : Nat} {J : Nat → Nat → Int32} {p r d : Int32} {x y zf y' : Nat → Int32} {τ1 : Mem}
def bfN (y : Nat → Int32) (k : Nat) : Int32 := leafT y (10 * y 2 / y 1) k
def bfS (y : Nat → Int32) : Int32 := bfN y 0 + bfN y 1 + bfN y 2
def bfU (h : Int32) (t : Nat) (y : Nat → Int32) (p : Int32 × Int32) : Int32 × Int32 := if y 1 < 20 * y 3 then p else if p.2 < bfS y then (100 * h + Int32.ofNat t, bfS y) else p
def bfW (h : Int32) : Nat → Nat → (Nat → Int32) → Int32 × Int32 → Int32 × Int32
  | 0, _, _, p => p
  | m + 1, t, y, p => bfW h m (t + 1) (hs h (y 1) y) (bfU h t (hs h (y 1) y) p)
def bfH (x : Nat → Int32) : Nat → Nat → Int32 × Int32 → Int32 × Int32
  | 0, _, p => p
  | m + 1, h, p => bfH x m (h + 1) (bfW (Int32.ofNat h) 30 1 x p)
def Ag (y zf : Nat → Int32) : Prop := ∀ k, 1 ≤ k → k ≤ 11 → y k = zf k
theorem ag_hs {h : Int32} (e : Ag y zf) : Ag (hs h (y 1) y) (hs h (zf 1) zf) := by
  intro k h1 h2
  have e1 := e 1 (by omega) (by omega)
  have e3 := e 3 (by omega) (by omega)
  have e7 := e 7 (by omega) (by omega)
  have e8 := e 8 (by omega) (by omega)
  have ek := e k h1 h2
  simp only [hs, e1, e3, e7, e8, ek]
theorem ag_N (e : Ag y zf) : bfN y k = bfN zf k := by
  unfold bfN
  rw [e 1 (by omega) (by omega), e 2 (by omega) (by omega)]
  exact leafT_eq (e 4 (by omega) (by omega)) (e 5 (by omega) (by omega)) (e 6 (by omega) (by omega)) (e 7 (by omega) (by omega)) (e 8 (by omega) (by omega)) (e 9 (by omega) (by omega)) (e 10 (by omega) (by omega)) (e 11 (by omega) (by omega))
theorem ag_S (e : Ag y zf) : bfS y = bfS zf := by
  unfold bfS; rw [ag_N e, ag_N e, ag_N e]
theorem bfN_b : 0 ≤ (bfN y k).toInt ∧ (bfN y k).toInt ≤ 9 := by
  unfold bfN leafT
  split
  · exact hld_b _
  · split <;> exact hld_b _
theorem bfS_b : 0 ≤ (bfS y).toInt ∧ (bfS y).toInt ≤ 27 := by
  have h0 := bfN_b (y := y) (k := 0)
  have h1 := bfN_b (y := y) (k := 1)
  have h2 := bfN_b (y := y) (k := 2)
  have e1 : (bfN y 0 + bfN y 1).toInt = (bfN y 0).toInt + (bfN y 1).toInt := tAdd (by omega) (by omega)
  unfold bfS
  rw [tAdd (by omega) (by omega), e1]; omega
def bfG (p : Int32 × Int32) : Prop := p.2 = -1 ∨ 0 ≤ p.2.toInt
theorem bfU_g {h : Int32} {p : Int32 × Int32} (g : bfG p) : bfG (bfU h t y p) := by
  unfold bfU
  split
  · exact g
  · split
    · exact Or.inr bfS_b.1
    · exact g
theorem bfG_le {p : Int32 × Int32} (g : bfG p) : (-1 : Int32) ≤ p.2 := by
  rw [Int32.le_iff_toInt_le]
  have : ((-1 : Int32)).toInt = -1 := rfl
  rcases g with g | g
  · rw [g]; exact Int.le_refl _
  · omega
theorem nvX_leaf {xn : Nat → Int32} (h12 : y 12 = 0) (h1 : ¬ y 1 ≤ 0) : nvX y xn k = bfN y k := by
  rw [nvX, if_pos h12, if_neg h1, bfN]
theorem pos_n {v : Int32} (h : 0 < v.toInt) : ¬ v ≤ 0 ∧ v ≠ 0 := by
  have z : (0 : Int32).toInt = 0 := rfl
  exact ⟨fun y => by have := leT y; omega, fun y => by rw [y] at h; omega⟩
/-! the garden's trial lot -/
def snX (x xn : Nat → Int32) : Int32 := nvX x xn 0 + nvX x xn 1 + nvX x xn 2
theorem x_sum (hj : Inj φ T) (h : T a = (4, 0)) (h2 : I a 12 ≠ 0 → R a 14 = some (φ w) ∧ T w = (100, 3)) : f_X1_sumOfNotes (φ a) (pt φ T I R τ) = some (snX (I a) (I w), pt φ T I R τ) := by
  have t1 : (T a).1 = 3 + 1 := by rw [h]
  have N0 : f_X1_noteOf (φ a) 0 (pt φ T I R τ) = some (nvX (I a) (I w) 0, pt φ T I R τ) := x_noteOf (k := 0) hj h h2 (by decide)
  have N1 : f_X1_noteOf (φ a) 1 (pt φ T I R τ) = some (nvX (I a) (I w) 1, pt φ T I R τ) := x_noteOf (k := 1) hj h h2 (by decide)
  have N2 : f_X1_noteOf (φ a) 2 (pt φ T I R τ) = some (nvX (I a) (I w) 2, pt φ T I R τ) := x_noteOf (k := 2) hj h h2 (by decide)
  have e1 : (0 : Int32) + 1 = 1 := rfl
  have e2 : (1 : Int32) + 1 = 2 := rfl
  have e3 : (2 : Int32) + 1 = 3 := rfl
  rw [f_X1_sumOfNotes, b_X1_sumOfNotes_0, show (40 : Nat) = 36 + 1 + 1 + 1 + 1 from rfl, l_X1_sumOfNotes_4, itr_succ, b_X1_sumOfNotes_4, if_neg (by decide), ob_pt hj t1, N0, cl1_s, nm, nm, itr_succ, b_X1_sumOfNotes_4, e1, if_neg (by decide), ob_pt hj t1, N1, cl1_s, nm, nm, itr_succ, b_X1_sumOfNotes_4, e2, if_neg (by decide), ob_pt hj t1, N2, cl1_s, nm, nm, itr_succ, b_X1_sumOfNotes_4, e3, if_pos (by decide), Int32.zero_add]; rfl
theorem x_dr0 (hj : Inj φ T) (h : T a = (4, 0)) (c : I a 1 < 20 * I a 3) : f_X1_isDried (φ a) (pt φ T I R τ) = some (0, pt φ T I R τ) := by
  simp (config := {decide := true}) only [b_X1_isDried_19, b_X1_isDried_0, f_X1_isDried, gI_pt hj, gR_pt hj, ob_pt hj, ck_pt hj, pI_pt hj, pB_pt hj, pR_pt hj, aI_pt hj, aR_pt hj, wI_pt hj, wJ_pt hj, aL_pt hj, cl1_s, cl1_n, cl1_i, cx1_s, cx1_x, cx1_n, cx1_i, nul_n, nul_s, nm, dv2, dv3, dv4, dv5, dv8, dv10, dv20, dv40, thr, bo, mI_pt hj, mT_pt hj, sB_pt, mZ_pt, mJ_pt, mJ_sJ, mZ_sJ, tn0, tn1, tn2, tn3, tn4, tn5, tn6, h, c, ii0, ii1, ii2, ii3, ii4, if_true, if_false, ne_eq, not_false_eq_true, not_true_eq_false, true_and, and_true, false_and, and_false, and_self, true_or, or_true, false_or, or_false, or_self, Nat.reduceAdd, Nat.reduceLT, Nat.reduceLeDiff, Nat.succ_ne_zero, reduceIte, reduceCtorEq]
theorem x_dr1 (hj : Inj φ T) (h : T a = (4, 0)) (c : ¬ I a 1 < 20 * I a 3) : f_X1_isDried (φ a) (pt φ T I R τ) = some (1, pt φ T I R τ) := by
  simp (config := {decide := true}) only [b_X1_isDried_19, b_X1_isDried_0, f_X1_isDried, gI_pt hj, gR_pt hj, ob_pt hj, ck_pt hj, pI_pt hj, pB_pt hj, pR_pt hj, aI_pt hj, aR_pt hj, wI_pt hj, wJ_pt hj, aL_pt hj, cl1_s, cl1_n, cl1_i, cx1_s, cx1_x, cx1_n, cx1_i, nul_n, nul_s, nm, dv2, dv3, dv4, dv5, dv8, dv10, dv20, dv40, thr, bo, mI_pt hj, mT_pt hj, sB_pt, mZ_pt, mJ_pt, mJ_sJ, mZ_sJ, tn0, tn1, tn2, tn3, tn4, tn5, tn6, h, c, ii0, ii1, ii2, ii3, ii4, if_true, if_false, ne_eq, not_false_eq_true, not_true_eq_false, true_and, and_true, false_and, and_false, and_self, true_or, or_true, false_or, or_false, or_self, Nat.reduceAdd, Nat.reduceLT, Nat.reduceLeDiff, Nat.succ_ne_zero, reduceIte, reduceCtorEq]
theorem hsC {h d : Int32} (h3 : k ≠ 3) (h7 : k ≠ 7) (h8 : k ≠ 8) : hs h d y k = y k := by
  simp only [hs, if_neg h3, if_neg h7, if_neg h8]
theorem x_bfL (hj : Inj φ T) (t0 : T 0 = (7, 0)) (r5 : R 0 5 = some (φ 115)) (t4 : T 115 = (4, 0)) {h : Nat} (hh : h ≤ 5) {lot : Option Nat} {k30 : Nat → Option Nat → Int32 → Int32 → Int32 → Mem → Option ((Int32 ⊕ Nat) × Mem)} : ∀ m t p fl (J : Nat → Nat → Int32) (y : Nat → Int32), t + m = 31 → m + 1 ≤ fl → Ag (J 115) y → J 115 12 = 0 → 0 < (y 1).toInt → bfG p → ∃ J', l_X4_bestFire_47 k30 fl (φ 0) lot p.1 p.2 (Int32.ofNat h) (Int32.ofNat t) (pt φ T J R τ) = k30 (φ 0) lot (bfW (Int32.ofNat h) m t y p).1 (bfW (Int32.ofNat h) m t y p).2 (Int32.ofNat (h + 1)) (pt φ T J' R τ) ∧ (∀ v, v ≠ 115 → J' v = J v) ∧ J' 115 9 = J 115 9 ∧ J' 115 12 = 0 ∧ bfG (bfW (Int32.ofNat h) m t y p) := by
  have q0 : (T 0).1 = 6 + 1 := by rw [t0]
  have q4 : (T 115).1 = 3 + 1 := by rw [t4]
  intro m
  induction m with
  | zero =>
    intro t p fl J y h1 h2 h3 h4 h5 h6
    obtain ⟨fl', rfl⟩ : ∃ x, fl = x + 1 := ⟨fl - 1, by omega⟩
    have c1 : (30 : Int32) < Int32.ofNat t := (kN_lt (a := 30) (by omega) (by omega)).mpr (by omega)
    refine ⟨J, ?_, fun _ _ => rfl, rfl, h4, h6⟩
    rw [l_X4_bestFire_47, itr_succ, b_X4_bestFire_47, if_pos c1, nm, kN_s]; rfl
  | succ m ih =>
    intro t p fl J y h1 h2 h3 h4 h5 h6
    obtain ⟨fl', rfl⟩ : ∃ x, fl = x + 1 := ⟨fl - 1, by omega⟩
    have c1 : ¬ (30 : Int32) < Int32.ofNat t := by
      rw [show (30 : Int32) = Int32.ofNat 30 from rfl, kN_lt (by omega) (by omega)]; omega
    obtain ⟨J1, hJ1⟩ : ∃ J1, J1 = rowS J 115 (hs (Int32.ofNat h) (J 115 1) (J 115)) := ⟨_, rfl⟩
    have H1 := x_heat (I := J) (R := R) (τ := τ) (h := Int32.ofNat h) hj t4
    rw [← hJ1] at H1
    have J15 : J1 115 = hs (Int32.ofNat h) (J 115 1) (J 115) := by rw [hJ1, rowS_at]
    have A1 : Ag (J1 115) (hs (Int32.ofNat h) (y 1) y) := by rw [J15]; exact ag_hs h3
    have B1 : J1 115 12 = 0 := by rw [J15, hsC (by decide) (by decide) (by decide)]; exact h4
    have y1 : hs (Int32.ofNat h) (y 1) y 1 = y 1 := hs1
    have P1 : 0 < (hs (Int32.ofNat h) (y 1) y 1).toInt := by rw [y1]; exact h5
    have e1 := A1 1 (by omega) (by omega)
    have e3 := A1 3 (by omega) (by omega)
    have JK : ∀ v, v ≠ 115 → J1 v = J v := fun v hv => by rw [hJ1, rowS_ne hv]
    have J9 : J1 115 9 = J 115 9 := by rw [J15, hsC (by decide) (by decide) (by decide)]
    have SM1 := x_sum (I := J1) (R := R) (τ := τ) (w := 0) hj t4 (fun q => absurd B1 q)
    have np := pos_n (by rw [e1]; exact P1 : 0 < (J1 115 1).toInt)
    have sE : snX (J1 115) (J1 0) = bfS (hs (Int32.ofNat h) (y 1) y) := by
      rw [snX, nvX_leaf B1 np.1, nvX_leaf B1 np.1, nvX_leaf B1 np.1, ← ag_S A1]; rfl
    rw [sE] at SM1
    have IH := fun p' g => ih (t + 1) p' fl' J1 _ (by omega) (by omega) A1 B1 P1 g
    have fin : ∀ p', p' = bfU (Int32.ofNat h) t (hs (Int32.ofNat h) (y 1) y) p → bfG p' → ∃ J', l_X4_bestFire_47 k30 fl' (φ 0) lot p'.1 p'.2 (Int32.ofNat h) (Int32.ofNat (t + 1)) (pt φ T J1 R τ) = k30 (φ 0) lot (bfW (Int32.ofNat h) (m + 1) t y p).1 (bfW (Int32.ofNat h) (m + 1) t y p).2 (Int32.ofNat (h + 1)) (pt φ T J' R τ) ∧ (∀ v, v ≠ 115 → J' v = J v) ∧ J' 115 9 = J 115 9 ∧ J' 115 12 = 0 ∧ bfG (bfW (Int32.ofNat h) (m + 1) t y p) := by
      intro p' hp' g
      obtain ⟨J2, i1, i2, i3, i4, i5⟩ := IH p' g
      rw [bfW, ← hp']
      exact ⟨J2, i1, fun v hv => by rw [i2 v hv, JK v hv], by rw [i3, J9], i4, i5⟩
    rw [l_X4_bestFire_47, itr_succ, b_X4_bestFire_47, if_neg c1, gR_pt hj q0, r5, ob_pt hj q4, H1, cl1_s, gR_pt hj q0, r5, ob_pt hj q4]
    by_cases c2 : hs (Int32.ofNat h) (y 1) y 1 < 20 * hs (Int32.ofNat h) (y 1) y 3
    · rw [x_dr0 hj t4 (by rw [e1, e3]; exact c2), cl1_s, if_pos rfl, b_X4_bestFire_84, if_pos (bfG_le h6), b_X4_bestFire_106, nm, kN_s]
      exact fin p (by rw [bfU, if_pos c2]) h6
    · rw [x_dr1 hj t4 (by rw [e1, e3]; exact c2), cl1_s, if_neg (by decide), gR_pt hj q0, r5, ob_pt hj q4, SM1, cl1_s, b_X4_bestFire_84]
      by_cases c3 : p.2 < bfS (hs (Int32.ofNat h) (y 1) y)
      · rw [if_neg (Int32.not_le.mpr c3), nm, nm, b_X4_bestFire_106, nm, kN_s]
        exact fin (100 * Int32.ofNat h + Int32.ofNat t, bfS (hs (Int32.ofNat h) (y 1) y)) (by rw [bfU, if_neg c2, if_pos c3]) (Or.inr bfS_b.1)
      · rw [if_pos (Int32.not_lt.mp c3), b_X4_bestFire_106, nm, kN_s]
        exact fin p (by rw [bfU, if_neg c2, if_neg c3]) h6
theorem x_copyL (hj : Inj φ T) (ta : T a = (4, 0)) (tb : T b = (4, 0)) (hab : a ≠ b) (b10 : J a 10 = 0 ∨ J a 10 = 1) (b11 : J a 11 = 0 ∨ J a 11 = 1) : ∃ y, f_X1_copyLeaf (φ b) (some (φ a)) (pt φ T J R τ) = some ((), pt φ T (rowS J b y) R τ) ∧ (∀ k, 1 ≤ k → k ≤ 11 → k ≠ 9 → y k = J a k) ∧ (∀ k, (k = 0 ∨ k = 9 ∨ 12 ≤ k) → y k = J b k) := by
  refine ⟨fun k => if k = 11 then J a 11 else if k = 10 then J a 10 else if k = 8 then J a 8 else if k = 7 then J a 7 else if k = 6 then J a 6 else if k = 5 then J a 5 else if k = 4 then J a 4 else if k = 3 then J a 3 else if k = 2 then J a 2 else if k = 1 then J a 1 else J b k, ?_, ?_, ?_⟩
  · simp (config := {decide := true}) only [b_X1_copyLeaf_0, f_X1_copyLeaf, gI_pt hj, gR_pt hj, ob_pt hj, ck_pt hj, pI_pt hj, pB_pt hj, pR_pt hj, aI_pt hj, aR_pt hj, wI_pt hj, wJ_pt hj, aL_pt hj, cl1_s, cl1_n, cl1_i, cx1_s, cx1_x, cx1_n, cx1_i, nul_n, nul_s, nm, dv2, dv3, dv4, dv5, dv8, dv10, dv20, dv40, thr, bo, mI_pt hj, mT_pt hj, sB_pt, mZ_pt, mJ_pt, mJ_sJ, mZ_sJ, tn0, tn1, tn2, tn3, tn4, tn5, tn6, ta, tb, b10, b11, up2_rowS, rowS_rowS, rowS_at, rowS_ne hab, ii0, ii1, ii2, ii3, ii4, if_true, if_false, ne_eq, not_false_eq_true, not_true_eq_false, true_and, and_true, false_and, and_false, and_self, true_or, or_true, false_or, or_false, or_self, Nat.reduceAdd, Nat.reduceLT, Nat.reduceLeDiff, Nat.succ_ne_zero, reduceIte, reduceCtorEq]
  · intro k h1 h2 h3
    rcases (show k = 1 ∨ k = 2 ∨ k = 3 ∨ k = 4 ∨ k = 5 ∨ k = 6 ∨ k = 7 ∨ k = 8 ∨ k = 10 ∨ k = 11 by omega) with rfl | rfl | rfl | rfl | rfl | rfl | rfl | rfl | rfl | rfl <;> rfl
  · intro k hk
    show (if k = 11 then _ else _) = _
    repeat rw [if_neg (by omega)]
theorem x_bfH (hj : Inj φ T) (t0 : T 0 = (7, 0)) (r5 : R 0 5 = some (φ 115)) (t4 : T 115 = (4, 0)) (ta : T a = (4, 0)) (na : a ≠ 115) (b10 : I a 10 = 0 ∨ I a 10 = 1) (b11 : I a 11 = 0 ∨ I a 11 = 1) (b9 : I a 9 = -1) (b1 : 0 < (I a 1).toInt) : ∀ m h p fl (J : Nat → Nat → Int32), h + m = 6 → m + 1 ≤ fl → J a = I a → J 115 9 = -1 → J 115 12 = 0 → bfG p → ∃ J', l_X4_bestFire_30 fl (φ 0) (some (φ a)) p.1 p.2 (Int32.ofNat h) (pt φ T J R τ) = some (.inl (bfH (I a) m h p).1, pt φ T J' R τ) ∧ (∀ v, v ≠ 115 → J' v = J v) ∧ J' 115 9 = -1 ∧ J' 115 12 = 0 := by
  have q0 : (T 0).1 = 6 + 1 := by rw [t0]
  have q4 : (T 115).1 = 3 + 1 := by rw [t4]
  intro m
  induction m with
  | zero =>
    intro h p fl J h1 h2 h3 h4 h5 h6
    obtain ⟨fl', rfl⟩ : ∃ x, fl = x + 1 := ⟨fl - 1, by omega⟩
    have c1 : (5 : Int32) < Int32.ofNat h := (kN_lt (a := 5) (by omega) (by omega)).mpr (by omega)
    refine ⟨J, ?_, fun _ _ => rfl, h4, h5⟩
    rw [l_X4_bestFire_30, itr_succ, b_X4_bestFire_30, if_pos c1]; rfl
  | succ m ih =>
    intro h p fl J h1 h2 h3 h4 h5 h6
    obtain ⟨fl', rfl⟩ : ∃ x, fl = x + 1 := ⟨fl - 1, by omega⟩
    have c1 : ¬ (5 : Int32) < Int32.ofNat h := by
      rw [show (5 : Int32) = Int32.ofNat 5 from rfl, kN_lt (by omega) (by omega)]; omega
    obtain ⟨y, w1, w2, w3⟩ := x_copyL (J := J) (R := R) (τ := τ) hj ta t4 na (by rw [h3]; exact b10) (by rw [h3]; exact b11)
    have A : Ag (rowS J 115 y 115) (I a) := by
      rw [rowS_at]
      intro k k1 k2
      by_cases k9 : k = 9
      · subst k9; rw [w3 9 (by omega), h4, b9]
      · rw [w2 k k1 k2 k9, h3]
    obtain ⟨J2, i1, i2, i3, i4, i5⟩ := x_bfL (R := R) (τ := τ) (lot := some (φ a)) (k30 := l_X4_bestFire_30 fl') hj t0 r5 t4 (show h ≤ 5 by omega) 30 1 p 40 (rowS J 115 y) (I a) (by omega) (by omega) A (by rw [rowS_at, w3 12 (by omega), h5]) b1 h6
    obtain ⟨J3, k1, k2, k3, k4⟩ := ih (h + 1) _ fl' J2 (by omega) (by omega) (by rw [i2 a na, rowS_ne na, h3]) (by rw [i3, rowS_at, w3 9 (by omega), h4]) i4 i5
    refine ⟨J3, ?_, fun v hv => by rw [k2 v hv, i2 v hv, rowS_ne hv], k3, k4⟩
    rw [l_X4_bestFire_30, itr_succ, b_X4_bestFire_30, if_neg c1, gR_pt hj q0, r5, ob_pt hj q4, w1, cl1_s]
    exact i1.trans k1
def BFV (I : Nat → Nat → Int32) (i : Nat) : Int32 := (bfH (I (6 * i + 19)) 5 1 (-1, -1)).1
theorem x_bestFire (h : Cx φ T I R (mZ τ) e0 nS nL cS cL mx cB bl n) (hp : InN p nL) (hi : p.toNatClampNeg = i) (hs : I (6 * i + 19) 0 = 1) : ∃ J', f_X4_bestFire (φ 0) p (pt φ T I R τ) = some (.inl (BFV I i), pt φ T J' R τ) ∧ (∀ v, v ≠ 115 → J' v = I v) ∧ J' 115 9 = -1 ∧ J' 115 12 = 0 := by
  have iL : i < nL := hi ▸ (idx h.m.2.2.2.2.1 hp.1 hp.2).2.2.2.2
  have hN := h.m.2.2.2.2.1
  have hj := h.hj
  have X := x_lotAt h hp hi
  have LR := h.lr iL
  have t4 := h.t4 (show i < 17 by omega)
  have t15 : T 115 = (4, 0) := h.t4 (i := 16) (by omega)
  obtain ⟨t0, r5, m4⟩ : T 0 = (7, 0) ∧ R 0 5 = some (φ 115) ∧ (I 115 9 = -1 ∧ I 115 12 = 0) := by
    obtain ⟨hj, hl, hx, hm, hr⟩ := h; obtain ⟨hx0, hx1, hx2, hx3, hx4, hx5, hx6, hx7, hx8, hx9, hx10, hx11, hx12, hx13, hx14, hx15, hx16, hx17, hx18, hx19, hx20, hx21, hx22, hx23, hx24, hx25, hx26, hx27⟩ := hx; obtain ⟨hm0, hm1, hm2, hm3, hm4, hm5, hm6, hm7, hm8, hm9, hm10, hm11, hm12, hm13, hm14, hm15, hm16, hm17, hm18, hm19, hm20, hm21, hm22, hm23, hm24, hm25, hm26, hm27, hm28, hm29, hm30, hm31, hm32, hm33, hm34, hm35, hm36, hm37, hm38, hm39, hm40, hm41, hm42, hm43, hm44⟩ := hm; obtain ⟨⟨⟨g1, g2⟩, ⟨g3, g4, g5, g6, g7⟩, g8, g9, g10⟩, r1, r2, r3, r4, r5, r6⟩ := hr
    exact ⟨hx0, hx3, g9, g10⟩
  obtain ⟨-, -, -, -, ⟨b10, b11, -⟩, ⟨-, b1, b9⟩, -⟩ := LR
  obtain ⟨J', e1, e2, e3, e4⟩ := x_bfH (R := R) (τ := τ) hj t0 r5 t15 t4 (show 6 * i + 19 ≠ 115 by omega) b10 b11 (b9 (Or.inr hs)) (b1 (by rw [hs]; decide)) 5 1 (-1, -1) 40 I (by omega) (by omega) rfl m4.1 m4.2 (Or.inl rfl)
  refine ⟨J', ?_, e2, e3, e4⟩
  rw [f_X4_bestFire, b_X4_bestFire_0, ob_pt hj (by rw [t0]), X, cx1_s, gI_pt hj (by rw [t4]), hs, if_pos rfl, b_X4_bestFire_19, x_st1, cx1_s]
  exact e1
theorem Rel.tri0 {I' : Nat → Nat → Int32} (h : Rel I nS nL mx bl n) (hnL : nL ≤ 16) (hnS : nS ≤ 4) (e1 : ∀ v, v ≠ 115 → I' v = I v) (hl : I' 115 9 = -1 ∧ I' 115 12 = 0) : Rel I' nS nL mx bl n := by
  obtain ⟨⟨m1, m2, m3, m4⟩, r1, r2, r3, r4, r5, r6⟩ := h
  refine ⟨⟨?_, ?_, ?_, ?_⟩, fun j hj => ?_, fun j h1 h2 => ?_, fun j hj => ?_, fun j h1 h2 => ?_, fun j hj => ?_, ?_⟩
  · rw [e1 0 (by omega)]; exact m1
  · rw [e1 0 (by omega), e1 124 (by omega)]; exact m2
  · rw [e1 10 (by omega), e1 128 (by omega)]; exact m3
  · exact hl
  · rw [e1 (6 * j + 19) (by omega), e1 (6 * j + 20) (by omega), e1 (6 * j + 21) (by omega), e1 (6 * j + 22) (by omega), e1 (6 * j + 23) (by omega), e1 (6 * j + 24) (by omega), e1 (10 * j + 150) (by omega), e1 (10 * j + 151) (by omega), e1 (10 * j + 152) (by omega)]
    exact r1 j hj
  · rw [e1 (6 * j + 19) (by omega), e1 (6 * j + 20) (by omega), e1 (6 * j + 21) (by omega), e1 (6 * j + 22) (by omega), e1 (6 * j + 23) (by omega)]
    exact r2 j h1 h2
  · rw [e1 (2 * j + 11) (by omega), e1 (2 * j + 12) (by omega), e1 (2 * j + 135) (by omega), e1 (2 * j + 136) (by omega)]
    exact r3 j hj
  · rw [e1 (2 * j + 11) (by omega), e1 (2 * j + 12) (by omega)]
    exact r4 j h1 h2
  · rw [e1 (j + 3) (by omega), e1 (j + 129) (by omega)]
    exact r5 j hj
  · unfold SumR
    rw [sumZ_congr (g := fun i => (I (6 * i + 19) 1).toInt)]
    · exact r6
    · intro j hj; simp only [e1 (6 * j + 19) (by omega)]
theorem Cx.tri0 {I' : Nat → Nat → Int32} (h : Cx φ T I R z e0 nS nL cS cL mx cB bl n) (e1 : ∀ v, v ≠ 115 → I' v = I v) (hl : I' 115 9 = -1 ∧ I' 115 12 = 0) : Cx φ T I' R z e0 nS nL cS cL mx cB bl n := by
  have hm := h.m
  refine Cx.rel h ?_ (h.2.2.2.2.tri0 hm.2.2.2.2.1 hm.2.2.2.2.2.1 e1 hl)
  rintro v (rfl | rfl | ⟨i', k, h1, h2, h3, rfl⟩) <;> exact e1 _ (by omega)
end BF

/-! BESTFIRE, the reference: a copy of a lot -/
section BR
variable {φ : Nat → Nat} {T : Nat → Nat × Nat} {I : Nat → Nat → Int32} {R : Nat → Nat → Option Nat} {τ : Mem} {e0 nS nL cS cL n z : Nat} {mx : Nat → Int32} {cB : Nat → Nat} {bl : Nat → List (Nat × Int32)}
variable {mi a b w q g k i j t : Nat} {J : Nat → Nat → Int32} {p r d : Int32} {x y zf y' : Nat → Int32} {τ1 : Mem}
theorem m_newLotK (g : Nat) (hj : Inj φ T) (hl : live T φ (mZ τ)) : ∃ φ' T' I' R' τ', f_X5_init e0 mi (mZ τ) (pt φ T I R (sN τ (8, 0))) = some ((), pt φ' T' I' R' τ') ∧ Inj φ' T' ∧ live T' φ' (mZ τ') ∧ φ' g = mZ τ ∧ φ' (g + 1) = mZ τ + 1 ∧ T' g = (8, 0) ∧ T' (g + 1) = (100, 4) ∧ T' (g + 3) = (2, 0) ∧ (∀ k, I' g k = if k = 9 then -1 else 0) ∧ R' g 1 = some (φ' (g + 1)) ∧ R' g 12 = none ∧ R' g 14 = some (φ' (g + 3)) ∧ (∀ k, I' (g + 1) k = 0) ∧ I' (g + 3) 2 = 0 ∧ R' (g + 3) 1 = some e0 ∧ (∀ v, v ≠ g → v ≠ g + 1 → v ≠ g + 3 → φ' v = φ v) ∧ (∀ v, v ≠ g → v ≠ g + 1 → v ≠ g + 3 → T' v = T v) ∧ (∀ v, v ≠ g → v ≠ g + 1 → v ≠ g + 3 → I' v = I v) ∧ (∀ v, v ≠ g → v ≠ g + 1 → v ≠ g + 3 → R' v = R v) ∧ mZ τ ≤ mZ τ' ∧ (∀ b, b < mZ τ → mJ τ' b = mJ τ b) ∧ Kp (mZ τ) (pt φ T I R τ) (pt φ' T' I' R' τ') ∧ φ' (g + 3) = mZ τ + 2 := by
  obtain ⟨τ2, N1, N2, N3, N4, N5, N6, N7, N8, N9, N10, N11, N12, N13⟩ := m_newLot (e0 := e0) (mi := mi) (I := I) (R := R) hj hl
  obtain ⟨φ1, T1, J1, R1, τ3, eq1, inj1, live1, ph1, pT1, pI1, pR1, aP1, aT1, aI1, aR1, zz1, of1, jj1⟩ := take1 (I := I) (R := R) g hj hl (Nat.le_refl _) N2 (by decide)
  obtain ⟨φ2, T2, J2, R2, τ4, eq2, inj2, live2, ph2, pT2, pI2, pR2, aP2, aT2, aI2, aR2, zz2, of2, jj2⟩ := take1 (I := J1) (R := R1) (a := mZ τ + 1) (g + 1) inj1 live1 (Nat.le_refl _) ((of1 _ (by omega)).1.trans N3) (by decide)
  obtain ⟨φ3, T3, J3, R3, τ5, eq3, inj3, live3, ph3, pT3, pI3, pR3, aP3, aT3, aI3, aR3, zz3, of3, jj3⟩ := take1 (I := J2) (R := R2) (a := mZ τ + 2) (g + 3) inj2 live2 (by omega) ((of2 _ (by omega)).1.trans ((of1 _ (by omega)).1.trans N4)) (by decide)
  have K1 : Kp (mZ τ) (pt φ T I R τ) (pt φ T I R τ2) := Kp.ptK N13
  refine ⟨φ3, T3, J3, R3, τ5, ?_, inj3, ?_, ?_, ?_, ?_, ?_, ?_, ?_, ?_, ?_, ?_, ?_, ?_, ?_, ?_, ?_, ?_, ?_, ?_, ?_, ?_, ?_⟩
  · rw [N1, eq1, eq2, eq3]
  · rw [zz3, zz2, zz1, N12]; exact live3
  · rw [aP3 _ (by omega), aP2 _ (by omega), ph1]
  · rw [aP3 _ (by omega), ph2]
  · rw [aT3 _ (by omega), aT2 _ (by omega), pT1]
  · rw [aT3 _ (by omega), pT2]
  · exact pT3
  · intro k; rw [aI3 _ (by omega), aI2 _ (by omega), pI1]; exact N5 k
  · rw [aR3 _ (by omega), aR2 _ (by omega), pR1, N6, aP3 _ (by omega), ph2]
  · rw [aR3 _ (by omega), aR2 _ (by omega), pR1, N7]
  · rw [aR3 _ (by omega), aR2 _ (by omega), pR1, N8, ph3]
  · intro k; rw [aI3 _ (by omega), pI2, (of1 _ (by omega)).2.1]; exact N9 k
  · rw [pI3, (of2 _ (by omega)).2.1, (of1 _ (by omega)).2.1]; exact N10
  · rw [pR3, (of2 _ (by omega)).2.2, (of1 _ (by omega)).2.2]; exact N11
  · intro v h1 h2 h3; rw [aP3 v h3, aP2 v h2, aP1 v h1]
  · intro v h1 h2 h3; rw [aT3 v h3, aT2 v h2, aT1 v h1]
  · intro v h1 h2 h3; rw [aI3 v h3, aI2 v h2, aI1 v h1]
  · intro v h1 h2 h3; rw [aR3 v h3, aR2 v h2, aR1 v h1]
  · rw [zz3, zz2, zz1, N12]; omega
  · intro b hb; rw [jj3, jj2, jj1, (N13.2 b hb).2.2.1]
  · rw [eq1, eq2, eq3] at K1; exact K1
  · exact ph3
/-- all but units, fine and what the market has -/
def lkF (x : Nat → Int32) (k : Nat) : Int32 := if k = 0 ∨ (3 ≤ k ∧ k ≤ 11) then x k else 0
theorem m_likeV (g : Nat) (hj : Inj φ T) (hl : live T φ (mZ τ)) (tq : T q = (8, 0)) (q1 : q ≠ g) (q2 : q ≠ g + 1) (q3 : q ≠ g + 3) (b10 : J q 10 = 0 ∨ J q 10 = 1) (b11 : J q 11 = 0 ∨ J q 11 = 1) : ∃ φ' T' J' R' τ', f_X5_like e0 mi (φ q) (pt φ T J R τ) = some (some (φ' g), pt φ' T' J' R' τ') ∧ Inj φ' T' ∧ live T' φ' (mZ τ') ∧ φ' g = mZ τ ∧ φ' (g + 1) = mZ τ + 1 ∧ T' g = (8, 0) ∧ T' (g + 1) = (100, 4) ∧ T' (g + 3) = (2, 0) ∧ (∀ k, k ≤ 12 → J' g k = lkF (J q) k) ∧ R' g 1 = some (φ' (g + 1)) ∧ R' g 12 = none ∧ R' g 14 = some (φ' (g + 3)) ∧ (∀ k, J' (g + 1) k = 0) ∧ J' (g + 3) 2 = 0 ∧ R' (g + 3) 1 = some e0 ∧ (∀ v, v ≠ g → v ≠ g + 1 → v ≠ g + 3 → φ' v = φ v) ∧ (∀ v, v ≠ g → v ≠ g + 1 → v ≠ g + 3 → T' v = T v) ∧ (∀ v, v ≠ g → v ≠ g + 1 → v ≠ g + 3 → J' v = J v) ∧ (∀ v, v ≠ g → v ≠ g + 1 → v ≠ g + 3 → R' v = R v) ∧ KJ τ τ' ∧ Kp (mZ τ) (pt φ T J R τ) (pt φ' T' J' R' τ') ∧ φ' (g + 3) = mZ τ + 2 ∧ J' g 13 = 0 := by
  obtain ⟨φ1, T1, J1, R1, τ3, n1, n2, n3, n4, n5, n6, n7, n8, n9, n10, n11, n12, n13, n14, n15, n16, n17, n18, n19, n20, n21, n22, n23⟩ := m_newLotK (e0 := e0) (mi := mi) (I := J) (R := R) g hj hl
  have tq' : T1 q = (8, 0) := by rw [n17 q q1 q2 q3]; exact tq
  have pq : φ q = φ1 q := (n16 q q1 q2 q3).symm
  have Jq : ∀ k, J1 q k = J q k := fun k => by rw [n18 q q1 q2 q3]
  obtain ⟨J2, hJ2⟩ : ∃ J2, J2 = rowS J1 g (fun k => if k = 11 then J q 11 else if k = 10 then J q 10 else if k = 9 then J q 9 else if k = 8 then J q 8 else if k = 7 then J q 7 else if k = 6 then J q 6 else if k = 5 then J q 5 else if k = 4 then J q 4 else if k = 3 then J q 3 else if k = 0 then J q 0 else J1 g k) := ⟨_, rfl⟩
  have Jg : ∀ v, v ≠ g → J2 v = J1 v := fun v hv => by rw [hJ2, rowS_ne hv]
  refine ⟨φ1, T1, J2, R1, τ3, ?_, n2, n3, n4, n5, n6, n7, n8, ?_, n10, n11, n12, ?_, ?_, n15, n16, n17, ?_, n19, ⟨n20, n21⟩, ?_, n23, ?_⟩
  · have o1 : Off φ T (mZ τ) := Off.of hl (Nat.le_refl _)
    have ZZ : ∀ (K : Mem → Option Nat → Option (Option Nat × Mem)), nO 7 (pt φ T J R τ) K = K (pt φ T J R (sN τ (8, 0))) (some (mZ τ)) := fun K => by rw [nO_off o1]
    have OB8 : ∀ (K : Nat → Option (Option Nat × Mem)), ob 7 (pt φ T J R (sN τ (8, 0))) (some (mZ τ)) K = K (mZ τ) := fun K => by
      rw [ob_off o1 (by rw [mT_sN_at])]
    rw [f_X5_like, b_X5_like_0, ZZ, OB8, n1, cl1_s, pq, ← n4, hJ2]
    have hj := n2
    simp (config := {decide := true}) only [gI_pt hj, gR_pt hj, ob_pt hj, ck_pt hj, pI_pt hj, pB_pt hj, pR_pt hj, aI_pt hj, aR_pt hj, wI_pt hj, wJ_pt hj, aL_pt hj, cl1_s, cl1_n, cl1_i, cx1_s, cx1_x, cx1_n, cx1_i, nul_n, nul_s, nm, dv2, dv3, dv4, dv5, dv8, dv10, dv20, dv40, thr, bo, mI_pt hj, mT_pt hj, sB_pt, mZ_pt, mJ_pt, mJ_sJ, mZ_sJ, tn0, tn1, tn2, tn3, tn4, tn5, tn6, tq', n6, up2_rowS, rowS_rowS, rowS_at, rowS_ne q1, Jq, b10, b11, ii0, ii1, ii2, ii3, ii4, if_true, if_false, ne_eq, not_false_eq_true, not_true_eq_false, true_and, and_true, false_and, and_false, and_self, true_or, or_true, false_or, or_false, or_self, Nat.reduceAdd, Nat.reduceLT, Nat.reduceLeDiff, Nat.succ_ne_zero, reduceIte, reduceCtorEq]
  · intro k hk
    rw [hJ2, rowS_at]
    rcases (show k = 0 ∨ k = 1 ∨ k = 2 ∨ k = 3 ∨ k = 4 ∨ k = 5 ∨ k = 6 ∨ k = 7 ∨ k = 8 ∨ k = 9 ∨ k = 10 ∨ k = 11 ∨ k = 12 by omega) with rfl | rfl | rfl | rfl | rfl | rfl | rfl | rfl | rfl | rfl | rfl | rfl | rfl <;> first | rfl | exact n9 _
  · intro k; rw [Jg _ (by omega)]; exact n13 k
  · rw [Jg _ (by omega)]; exact n14
  · intro v h1 h2 h3; rw [Jg v h1, n18 v h1 h2 h3]
  · refine n22.trans (Kp.pl (fun v hv hz => ⟨?_, rfl⟩))
    exact Jg v (fun y => by rw [y, n4] at hz; omega)
  · rw [hJ2, rowS_at]; exact n9 13
theorem m_copyLot (hj : Inj φ T) (hl : live T φ (mZ τ)) (tq : T q = (8, 0)) (rq : R q 1 = some (φ (q + 1))) (tq1 : T (q + 1) = (100, 4)) (hq : q + 1 < 400) (b10 : J q 10 = 0 ∨ J q 10 = 1) (b11 : J q 11 = 0 ∨ J q 11 = 1) : ∃ φ' T' J' R' τ', f_X5_copy e0 mi (φ q) (pt φ T J R τ) = some (some (φ' 400), pt φ' T' J' R' τ') ∧ Inj φ' T' ∧ T' 400 = (8, 0) ∧ T' 401 = (100, 4) ∧ R' 400 1 = some (φ' 401) ∧ R' 400 12 = none ∧ (∀ k, 2 ≤ k → k ≤ 11 → J' 400 k = J q k) ∧ (∀ k, k < 4 → J' 401 k = J (q + 1) k) ∧ Kp (mZ τ) (pt φ T J R τ) (pt φ' T' J' R' τ') ∧ mZ τ ≤ φ' 400 ∧ mZ τ ≤ φ' 401 := by
  obtain ⟨φ1, T1, J1, R1, τ3, n1, n2, n3, n4, n5, n6, n7, n8, n9, n10, n11, n12, n13, n14, n15, n16, n17, n18, n19, n20, n21, n22, n23⟩ := m_likeV (e0 := e0) (mi := mi) (J := J) (R := R) 400 hj hl tq (by omega) (by omega) (by omega) b10 b11
  have tq' : T1 q = (8, 0) := by rw [n17 q (by omega) (by omega) (by omega)]; exact tq
  have tr' : T1 (q + 1) = (100, 4) := by rw [n17 _ (by omega) (by omega) (by omega)]; exact tq1
  have pq : φ q = φ1 q := (n16 q (by omega) (by omega) (by omega)).symm
  have rq' : R1 q 1 = some (φ1 (q + 1)) := by rw [n19 q (by omega) (by omega) (by omega), rq, n16 (q + 1) (by omega) (by omega) (by omega)]
  have nq : q ≠ 400 := by omega
  have nq1 : q + 1 ≠ 400 := by omega
  have nb : (401 : Nat) ≠ 400 := by decide
  obtain ⟨J2, hJ2⟩ : ∃ J2, J2 = rowS (up2 J1 400 2 (J1 q 2)) 401 (va_cpy (J1 (q + 1)) (J1 401) 0 0 4) := ⟨_, rfl⟩
  have Jg : ∀ v, v ≠ 400 → v ≠ 401 → J2 v = J1 v := fun v h1 h2 => by rw [hJ2, rowS_ne h2, up2_row h1]
  refine ⟨φ1, T1, J2, R1, τ3, ?_, n2, n6, n7, n10, n11, ?_, ?_, ?_, by rw [n4]; exact Nat.le_refl _, by rw [n5]; exact Nat.le_succ _⟩
  · rw [f_X5_copy, b_X5_copy_0, ob_pt hj (by rw [tq]), n1, cl1_s, pq, gI_pt n2 (by rw [tq']), pI_pt n2 (by rw [n6]), gR_pt n2 (by rw [tq']), gR_pt n2 (by rw [n6]), rq', n10, cpI_pt n2 tr' n7 (by decide) (by decide) (by decide) (by decide) (by decide), up2_row nq1, up2_row nb, hJ2]; rfl
  · intro k h1 h2
    rw [hJ2, rowS_ne (by decide)]
    by_cases k2 : k = 2
    · subst k2; rw [up2_at, n18 q (by omega) (by omega) (by omega)]
    · rw [up2_k k2, n9 k (by omega), lkF, if_pos (Or.inr ⟨by omega, h2⟩)]
  · intro k hk
    rw [hJ2, rowS_at]; unfold va_cpy; rw [if_pos ⟨by omega, by omega⟩, n18 (q + 1) (by omega) (by omega) (by omega)]
    have e0 : 0 + (k - 0) = k := by omega
    rw [e0]
  · refine n21.trans (Kp.pl (fun v hv hz => ⟨?_, rfl⟩))
    exact Jg v (fun y => by rw [y, n4] at hz; omega) (fun y => by rw [y, n5] at hz; omega)
theorem m_dE0 (hj : Inj φ T) (ta : T a = (8, 0)) (hd : f_X5_dry (φ a) (pt φ T J R τ) = some (d, pt φ T J R τ)) (c : d < 20 * J a 3) : f_X5_isDryEnough (φ a) (pt φ T J R τ) = some (0, pt φ T J R τ) := by
  simp (config := {decide := true}) only [b_X5_isDryEnough_19, b_X5_isDryEnough_0, f_X5_isDryEnough, gI_pt hj, gR_pt hj, ob_pt hj, ck_pt hj, pI_pt hj, pB_pt hj, pR_pt hj, aI_pt hj, aR_pt hj, wI_pt hj, wJ_pt hj, aL_pt hj, cl1_s, cl1_n, cl1_i, cx1_s, cx1_x, cx1_n, cx1_i, nul_n, nul_s, nm, dv2, dv3, dv4, dv5, dv8, dv10, dv20, dv40, thr, bo, mI_pt hj, mT_pt hj, sB_pt, mZ_pt, mJ_pt, mJ_sJ, mZ_sJ, tn0, tn1, tn2, tn3, tn4, tn5, tn6, ta, hd, c, ii0, ii1, ii2, ii3, ii4, if_true, if_false, ne_eq, not_false_eq_true, not_true_eq_false, true_and, and_true, false_and, and_false, and_self, true_or, or_true, false_or, or_false, or_self, Nat.reduceAdd, Nat.reduceLT, Nat.reduceLeDiff, Nat.succ_ne_zero, reduceIte, reduceCtorEq]
theorem m_dE1 (hj : Inj φ T) (ta : T a = (8, 0)) (hd : f_X5_dry (φ a) (pt φ T J R τ) = some (d, pt φ T J R τ)) (c : ¬ d < 20 * J a 3) : f_X5_isDryEnough (φ a) (pt φ T J R τ) = some (1, pt φ T J R τ) := by
  simp (config := {decide := true}) only [b_X5_isDryEnough_19, b_X5_isDryEnough_0, f_X5_isDryEnough, gI_pt hj, gR_pt hj, ob_pt hj, ck_pt hj, pI_pt hj, pB_pt hj, pR_pt hj, aI_pt hj, aR_pt hj, wI_pt hj, wJ_pt hj, aL_pt hj, cl1_s, cl1_n, cl1_i, cx1_s, cx1_x, cx1_n, cx1_i, nul_n, nul_s, nm, dv2, dv3, dv4, dv5, dv8, dv10, dv20, dv40, thr, bo, mI_pt hj, mT_pt hj, sB_pt, mZ_pt, mJ_pt, mJ_sJ, mZ_sJ, tn0, tn1, tn2, tn3, tn4, tn5, tn6, ta, hd, c, ii0, ii1, ii2, ii3, ii4, if_true, if_false, ne_eq, not_false_eq_true, not_true_eq_false, true_and, and_true, false_and, and_false, and_self, true_or, or_true, false_or, or_false, or_self, Nat.reduceAdd, Nat.reduceLT, Nat.reduceLeDiff, Nat.succ_ne_zero, reduceIte, reduceCtorEq]
theorem m_sum3 (hj : Inj φ T) (ta : T a = (8, 0)) (f : Nat → Int32) (h : ∀ k, k < 3 → f_X5_note (φ a) (Int32.ofNat k) (pt φ T J R τ) = some (f k, pt φ T J R τ)) : f_X5_sum (φ a) (pt φ T J R τ) = some (f 0 + f 1 + f 2, pt φ T J R τ) := by
  have t1 : (T a).1 = 7 + 1 := by rw [ta]
  have N0 : f_X5_note (φ a) 0 (pt φ T J R τ) = some (f 0, pt φ T J R τ) := h 0 (by decide)
  have N1 : f_X5_note (φ a) 1 (pt φ T J R τ) = some (f 1, pt φ T J R τ) := h 1 (by decide)
  have N2 : f_X5_note (φ a) 2 (pt φ T J R τ) = some (f 2, pt φ T J R τ) := h 2 (by decide)
  rw [f_X5_sum, b_X5_sum_0, ob_pt hj t1, N0, cl1_s, ob_pt hj t1, N1, cl1_s, nm, ob_pt hj t1, N2, cl1_s, nm]
/-- rows of the lot and its copy: all but the first two -/
def AhR (y zf : Nat → Int32) : Prop := ∀ k, 2 ≤ k → k ≤ 11 → y k = zf k
theorem m_bfL (hj : Inj φ T) (ta : T a = (8, 0)) (ra : R a 1 = some (φ b)) (tb : T b = (100, 4)) (nab : b ≠ a) (r12 : R a 12 = none) {h : Nat} (hh : h ≤ 5) {a0 : Nat} {k7 : Nat → Int32 → Int32 → Int32 → Int32 → Mem → Option (Int32 × Mem)} : ∀ m t p fl (J : Nat → Nat → Int32) (y : Nat → Int32), t + m = 31 → m + 1 ≤ fl → AhR (J a) y → J b 0 + J b 1 + J b 2 + J b 3 = y 1 → 0 < (y 1).toInt → ∃ J', l_X8_bestFireNow_32 e0 mi k7 fl a0 r p.1 p.2 (Int32.ofNat h) (some (φ a)) (Int32.ofNat t) (pt φ T J R τ) = k7 a0 r (bfW (Int32.ofNat h) m t y p).1 (bfW (Int32.ofNat h) m t y p).2 (Int32.ofNat (h + 1)) (pt φ T J' R τ) ∧ (∀ v, v ≠ a → J' v = J v) := by
  have q4 : (T a).1 = 7 + 1 := by rw [ta]
  intro m
  induction m with
  | zero =>
    intro t p fl J y h1 h2 h3 h4 h5
    obtain ⟨fl', rfl⟩ : ∃ x, fl = x + 1 := ⟨fl - 1, by omega⟩
    have c1 : (30 : Int32) < Int32.ofNat t := (kN_lt (a := 30) (by omega) (by omega)).mpr (by omega)
    refine ⟨J, ?_, fun _ _ => rfl⟩
    rw [l_X8_bestFireNow_32, itr_succ, b_X8_bestFireNow_32, if_pos c1, nm, kN_s]; rfl
  | succ m ih =>
    intro t p fl J y h1 h2 h3 h4 h5
    obtain ⟨fl', rfl⟩ : ∃ x, fl = x + 1 := ⟨fl - 1, by omega⟩
    have c1 : ¬ (30 : Int32) < Int32.ofNat t := by
      rw [show (30 : Int32) = Int32.ofNat 30 from rfl, kN_lt (by omega) (by omega)]; omega
    have H1 := m_heat (I := J) (R := R) (τ := τ) (h := Int32.ofNat h) hj ta ra tb
    rw [h4] at H1
    obtain ⟨J1, hJ1⟩ : ∃ J1, J1 = rowS J a (hs (Int32.ofNat h) (y 1) (J a)) := ⟨_, rfl⟩
    rw [← hJ1] at H1
    have J15 : J1 a = hs (Int32.ofNat h) (y 1) (J a) := by rw [hJ1, rowS_at]
    have A1 : AhR (J1 a) (hs (Int32.ofNat h) (y 1) y) := by
      rw [J15]
      intro k k1 k2
      have e3 := h3 3 (by omega) (by omega)
      have e7 := h3 7 (by omega) (by omega)
      have e8 := h3 8 (by omega) (by omega)
      have ek := h3 k k1 k2
      simp only [hs, e3, e7, e8, ek]
    have y1 : hs (Int32.ofNat h) (y 1) y 1 = y 1 := hs1
    have JK : ∀ v, v ≠ a → J1 v = J v := fun v hv => by rw [hJ1, rowS_ne hv]
    have D1 : J1 b 0 + J1 b 1 + J1 b 2 + J1 b 3 = hs (Int32.ofNat h) (y 1) y 1 := by rw [JK b nab, y1]; exact h4
    have P1 : 0 < (hs (Int32.ofNat h) (y 1) y 1).toInt := by rw [y1]; exact h5
    have DR := mdry (I := J1) (R := R) (τ := τ) hj ta ra tb
    rw [D1] at DR
    have np := pos_n P1
    have e3 := A1 3 (by omega) (by omega)
    have NN : ∀ k, k < 3 → f_X5_note (φ a) (Int32.ofNat k) (pt φ T J1 R τ) = some (bfN (hs (Int32.ofNat h) (y 1) y) k, pt φ T J1 R τ) := by
      intro k hk
      rw [m_noteL hj ta r12 DR np.2 hk, bfN, A1 2 (by omega) (by omega)]
      rw [leafT_eq (A1 4 (by omega) (by omega)) (A1 5 (by omega) (by omega)) (A1 6 (by omega) (by omega)) (A1 7 (by omega) (by omega)) (A1 8 (by omega) (by omega)) (A1 9 (by omega) (by omega)) (A1 10 (by omega) (by omega)) (A1 11 (by omega) (by omega))]
    have SS := m_sum3 hj ta _ NN
    have fin : ∀ p', p' = bfU (Int32.ofNat h) t (hs (Int32.ofNat h) (y 1) y) p → ∃ J', l_X8_bestFireNow_32 e0 mi k7 fl' a0 r p'.1 p'.2 (Int32.ofNat h) (some (φ a)) (Int32.ofNat (t + 1)) (pt φ T J1 R τ) = k7 a0 r (bfW (Int32.ofNat h) (m + 1) t y p).1 (bfW (Int32.ofNat h) (m + 1) t y p).2 (Int32.ofNat (h + 1)) (pt φ T J' R τ) ∧ (∀ v, v ≠ a → J' v = J v) := by
      intro p' hp'
      obtain ⟨J2, i1, i2⟩ := ih (t + 1) p' fl' J1 _ (by omega) (by omega) A1 D1 P1
      rw [bfW, ← hp']
      exact ⟨J2, i1, fun v hv => by rw [i2 v hv, JK v hv]⟩
    rw [l_X8_bestFireNow_32, itr_succ, b_X8_bestFireNow_32, if_neg c1, ob_pt hj q4, H1, cl1_s, ob_pt hj q4]
    by_cases c2 : hs (Int32.ofNat h) (y 1) y 1 < 20 * hs (Int32.ofNat h) (y 1) y 3
    · rw [m_dE0 hj ta DR (by rw [e3]; exact c2), cl1_s, if_pos rfl, b_X8_bestFireNow_81, nm, kN_s]
      exact fin p (by rw [bfU, if_pos c2])
    · rw [m_dE1 hj ta DR (by rw [e3]; exact c2), cl1_s, if_neg (by decide), ob_pt hj q4, SS, cl1_s]
      by_cases c3 : p.2 < bfS (hs (Int32.ofNat h) (y 1) y)
      · rw [if_pos (show p.2 < bfN (hs (Int32.ofNat h) (y 1) y) 0 + bfN (hs (Int32.ofNat h) (y 1) y) 1 + bfN (hs (Int32.ofNat h) (y 1) y) 2 from c3), ob_pt hj q4, SS, cl1_s, nm, nm, b_X8_bestFireNow_81, nm, kN_s]
        exact fin (100 * Int32.ofNat h + Int32.ofNat t, bfS (hs (Int32.ofNat h) (y 1) y)) (by rw [bfU, if_neg c2, if_pos c3])
      · rw [if_neg (show ¬ p.2 < bfN (hs (Int32.ofNat h) (y 1) y) 0 + bfN (hs (Int32.ofNat h) (y 1) y) 1 + bfN (hs (Int32.ofNat h) (y 1) y) 2 from c3), b_X8_bestFireNow_81, nm, kN_s]
        exact fin p (by rw [bfU, if_neg c2, if_neg c3])
theorem m_bfH (h : Cx φ T I R (mZ τ) e0 nS nL cS cL mx cB bl n) (hJ : ∀ v, 125 ≤ v → J v = I v) (hp : InN p nL) (hi : p.toNatClampNeg = i) (hs : I (6 * i + 19) 0 = 1) : ∀ m hh P fl (τ1 : Mem), hh + m = 6 → m + 1 ≤ fl → mZ τ ≤ mZ τ1 → ∃ τ', l_X8_bestFireNow_7 e0 mi fl (φ 124) p P.1 P.2 (Int32.ofNat hh) (pt φ T J R τ1) = some ((bfH (I (6 * i + 19)) m hh P).1, pt φ T J R τ') ∧ KJ τ1 τ' := by
  have iL : i < nL := hi ▸ (idx h.m.2.2.2.2.1 hp.1 hp.2).2.2.2.2
  have hN := h.m.2.2.2.2.1
  have hj := h.hj
  have h0 := h.m.1
  have h6 := h.m.2.2.1
  have h7 := h.m.2.2.2.1
  have t8 := h.t8 iL
  obtain ⟨R1, T1⟩ : R (10 * i + 150) 1 = some (φ (10 * i + 150 + 1)) ∧ T (10 * i + 150 + 1) = (100, 4) := by
    obtain ⟨hj, hl, hx, hm, hr⟩ := h; obtain ⟨hx0, hx1, hx2, hx3, hx4, hx5, hx6, hx7, hx8, hx9, hx10, hx11, hx12, hx13, hx14, hx15, hx16, hx17, hx18, hx19, hx20, hx21, hx22, hx23, hx24, hx25, hx26, hx27⟩ := hx; obtain ⟨hm0, hm1, hm2, hm3, hm4, hm5, hm6, hm7, hm8, hm9, hm10, hm11, hm12, hm13, hm14, hm15, hm16, hm17, hm18, hm19, hm20, hm21, hm22, hm23, hm24, hm25, hm26, hm27, hm28, hm29, hm30, hm31, hm32, hm33, hm34, hm35, hm36, hm37, hm38, hm39, hm40, hm41, hm42, hm43, hm44⟩ := hm; obtain ⟨⟨⟨g1, g2⟩, ⟨g3, g4, g5, g6, g7⟩, g8, g9, g10⟩, r1, r2, r3, r4, r5, r6⟩ := hr
    exact ⟨hm30 i iL, hm31 i iL⟩
  obtain ⟨⟨E0, E2, E3, E4, E5, E6, E7, E8, E9, E10, E11, -⟩, -, ⟨D1, -⟩, -, ⟨b10, b11, -⟩, ⟨-, b1, -⟩, -⟩ := h.lr iL
  have Jq : J (10 * i + 150) = I (10 * i + 150) := hJ _ (by omega)
  have Jq1 : J (10 * i + 150 + 1) = I (10 * i + 151) := hJ _ (by omega)
  have pos := b1 (by rw [hs]; decide)
  intro m
  induction m with
  | zero =>
    intro hh P fl τ1 h1 h2 hz
    obtain ⟨fl', rfl⟩ : ∃ x, fl = x + 1 := ⟨fl - 1, by omega⟩
    have c1 : (5 : Int32) < Int32.ofNat hh := (kN_lt (a := 5) (by omega) (by omega)).mpr (by omega)
    refine ⟨τ1, ?_, KJ.refl⟩
    rw [l_X8_bestFireNow_7, itr_succ, b_X8_bestFireNow_7, if_pos c1]; rfl
  | succ m ih =>
    intro hh P fl τ1 h1 h2 hz
    obtain ⟨fl', rfl⟩ : ∃ x, fl = x + 1 := ⟨fl - 1, by omega⟩
    have c1 : ¬ (5 : Int32) < Int32.ofNat hh := by
      rw [show (5 : Int32) = Int32.ofNat 5 from rfl, kN_lt (by omega) (by omega)]; omega
    have hl1 : live T φ (mZ τ1) := fun v hv => Nat.lt_of_lt_of_le (h.hl v hv) hz
    have G := m_getJ (J := J) (τ := τ1) h (hJ 126 (by omega)) hp hi
    obtain ⟨φ2, T2, J2, R2, τ2, k1, k2, k3, k4, k5, k6, k7, k8, k9, k10, k11⟩ := m_copyLot (e0 := e0) (mi := mi) (J := J) (R := R) hj hl1 t8 R1 T1 (by omega) (by rw [Jq, ← E10]; exact b10) (by rw [Jq, ← E11]; exact b11)
    have A : AhR (J2 400) (I (6 * i + 19)) := by
      intro k y1 y2
      rw [k7 k y1 y2, Jq]
      rcases (show k = 2 ∨ k = 3 ∨ k = 4 ∨ k = 5 ∨ k = 6 ∨ k = 7 ∨ k = 8 ∨ k = 9 ∨ k = 10 ∨ k = 11 by omega) with rfl | rfl | rfl | rfl | rfl | rfl | rfl | rfl | rfl | rfl
      · exact E2.symm
      · exact E3.symm
      · exact E4.symm
      · exact E5.symm
      · exact E6.symm
      · exact E7.symm
      · exact E8.symm
      · exact E9.symm
      · exact E10.symm
      · exact E11.symm
    obtain ⟨J3, l1, l2⟩ := m_bfL (e0 := e0) (mi := mi) (r := p) (R := R2) (τ := τ2) (h := hh) (a0 := φ 124) (k7 := l_X8_bestFireNow_7 e0 mi fl') k2 k3 k5 k4 (by decide) k6 (by omega) 30 1 P 31 J2 (I (6 * i + 19)) (by omega) (by omega) A (by
      rw [k8 0 (by omega), k8 1 (by omega), k8 2 (by omega), k8 3 (by omega), Jq1, D1]) pos
    have KK : Kp (mZ τ1) (pt φ T J R τ1) (pt φ2 T2 J3 R2 τ2) := k9.trans (Kp.pl (fun v hv hz2 => ⟨l2 v (fun y => by rw [y] at hz2; omega), rfl⟩))
    have V := KK.view hj hl1
    obtain ⟨τ', i1, i2⟩ := ih (hh + 1) (bfW (Int32.ofNat hh) 30 1 (I (6 * i + 19)) P) fl' (pt φ2 T2 J3 R2 τ2) (by omega) (by omega) (Nat.le_trans hz KK.1)
    rw [← V] at i1
    refine ⟨τ', ?_, KJ.trans ⟨KK.1, fun b hb => (KK.2 b hb).2.2.1⟩ i2⟩
    rw [l_X8_bestFireNow_7, itr_succ, b_X8_bestFireNow_7, if_neg c1, gR_pt hj (by rw [h0]), h7, ob_pt hj (by rw [h6]), G, cl1_s, ck_pt hj (by rw [t8]) (by decide), ob_pt hj (by rw [t8]), k1, cl1_s]
    exact l1.trans i1
theorem m_bestFireNow (h : Cx φ T I R (mZ τ) e0 nS nL cS cL mx cB bl n) (hJ : ∀ v, 125 ≤ v → J v = I v) (hp : InN p nL) (hi : p.toNatClampNeg = i) (hs : I (6 * i + 19) 0 = 1) (hz : mZ τ ≤ mZ τ1) : ∃ τ', f_X8_bestFireNow e0 mi (φ 124) p (pt φ T J R τ1) = some (BFV I i, pt φ T J R τ') ∧ KJ τ1 τ' :=
  m_bfH h hJ hp hi hs 5 1 (-1, -1) 6 τ1 (by omega) (by omega) hz
theorem op_bestFire {x m o : Nat} {σ : Mem} (p : Int32) (h : Jn e0 x m o n σ) : Agr e0 x m o n (f_L_bestFire (some x) p (some o) σ) (fun σ => f_X8_bestFire e0 mi m p σ) := by
  obtain ⟨φ, T, I, R, τ, nS, nL, cS, cL, mx, cB, bl, rfl, ⟨rfl, rfl, rfl⟩, h⟩ := h
  have h : Cx φ T I R (mZ τ) e0 nS nL cS cL mx cB bl n := h
  have hj := h.hj
  have h0 := h.m.1
  have hx0 := h.m.2.2.2.2.2.2.2
  have h132 := h.m.2.2.2.2.2.2.1
  have hN := h.m.2.2.2.2.1
  have h' : Cx φ T I R (mZ (sB τ)) e0 nS nL cS cL mx cB bl n := h.up (Nat.le_succ _)
  by_cases hp : InN p nL
  · obtain ⟨i, hi⟩ : ∃ i, p.toNatClampNeg = i := ⟨_, rfl⟩
    have iL : i < nL := hi ▸ (idx h.m.2.2.2.2.1 hp.1 hp.2).2.2.2.2
    have E0 := (h.lr iL).1.1
    have t4 := h.t4 (show i < 17 by omega)
    by_cases hs : I (6 * i + 19) 0 = 1
    · obtain ⟨J', e1, e2, e3, e4⟩ := x_bestFire h hp hi hs
      have hc : Cx φ T J' R (mZ τ) e0 nS nL cS cL mx cB bl n := h.tri0 e2 ⟨e3, e4⟩
      obtain ⟨v, hv⟩ : ∃ v, v = BFV I i := ⟨_, rfl⟩
      rw [← hv] at e1
      have hc1 : Cx φ T J' R (mZ (sJ τ (φ 132) 0 v.toInt64)) e0 nS nL cS cL mx cB bl n := hc
      have J6 : J' (6 * i + 19) = I (6 * i + 19) := e2 _ (by omega)
      obtain ⟨τ', f1, f2⟩ := m_bestFireNow (mi := mi) (J := up2 J' 124 0 0) (τ1 := sJ τ (φ 132) 0 v.toInt64) hc1 (fun v hv => up2_row (by omega)) hp hi (by rw [J6]; exact hs) (Nat.le_refl _)
      rw [show BFV J' i = v by rw [hv, BFV, BFV, J6]] at f1
      refine Agr.fin (σ1 := pt φ T J' R (sJ τ (φ 132) 0 v.toInt64)) (b := v) (Cx.up (Cx.thr (k := 0) hc) f2.1) ?_ ?_ up2_at ((congrFun (f2.2 _ h.out) 0).trans sJ_at)
      · simp (config := {decide := true}) only [f_L_bestFire, b_L_bestFire_0, e1, gI_pt hj, gR_pt hj, ob_pt hj, ck_pt hj, pI_pt hj, pB_pt hj, pR_pt hj, aI_pt hj, aR_pt hj, wI_pt hj, wJ_pt hj, aL_pt hj, cl1_s, cl1_n, cl1_i, cx1_s, cx1_x, cx1_n, cx1_i, nul_n, nul_s, nm, dv2, dv3, dv4, dv5, dv8, dv10, dv20, dv40, thr, bo, mI_pt hj, mT_pt hj, sB_pt, mZ_pt, mJ_pt, mJ_sJ, mZ_sJ, tn0, tn1, tn2, tn3, tn4, tn5, tn6, hx0, h132, ii0, ii1, ii2, ii3, ii4, if_true, if_false, ne_eq, not_false_eq_true, not_true_eq_false, true_and, and_true, false_and, and_false, and_self, true_or, or_true, false_or, or_false, or_self, Nat.reduceAdd, Nat.reduceLT, Nat.reduceLeDiff, Nat.succ_ne_zero, reduceIte, reduceCtorEq]
      · have S1 := m_stateJ (J := up2 J' 124 0 0) (τ := sJ τ (φ 132) 0 v.toInt64) (s := 1) hc1 (up2_row (by omega)) hp hi (by rw [up2_row (by omega), e2 _ (by omega), ← E0]; exact hs)
        simp (config := {decide := true}) only [f_X8_bestFire, b_X8_bestFire_0, b_X8_bestFire_28, b_X8_bestFire_44, m_noLot hc1 hp, m_start0 hj h0, S1, m_ref0 hj h0, f1, gI_pt hj, gR_pt hj, ob_pt hj, ck_pt hj, pI_pt hj, pB_pt hj, pR_pt hj, aI_pt hj, aR_pt hj, wI_pt hj, wJ_pt hj, aL_pt hj, cl1_s, cl1_n, cl1_i, cx1_s, cx1_x, cx1_n, cx1_i, nul_n, nul_s, nm, dv2, dv3, dv4, dv5, dv8, dv10, dv20, dv40, thr, bo, mI_pt hj, mT_pt hj, sB_pt, mZ_pt, mJ_pt, mJ_sJ, mZ_sJ, tn0, tn1, tn2, tn3, tn4, tn5, tn6, h0, ii0, ii1, ii2, ii3, ii4, if_true, if_false, ne_eq, not_false_eq_true, not_true_eq_false, true_and, and_true, false_and, and_false, and_self, true_or, or_true, false_or, or_false, or_self, Nat.reduceAdd, Nat.reduceLT, Nat.reduceLeDiff, Nat.succ_ne_zero, reduceIte, reduceCtorEq]
    · refine Agr.bad (k := 2) (b := 0) h (by decide) ?_ ?_
      · simp (config := {decide := true}) only [f_L_bestFire, b_L_bestFire_0, f_X4_bestFire, b_X4_bestFire_0, b_X4_bestFire_19, x_lotAt h hp hi, x_st0, gI_pt hj, gR_pt hj, ob_pt hj, ck_pt hj, pI_pt hj, pB_pt hj, pR_pt hj, aI_pt hj, aR_pt hj, wI_pt hj, wJ_pt hj, aL_pt hj, cl1_s, cl1_n, cl1_i, cx1_s, cx1_x, cx1_n, cx1_i, nul_n, nul_s, nm, dv2, dv3, dv4, dv5, dv8, dv10, dv20, dv40, thr, bo, mI_pt hj, mT_pt hj, sB_pt, mZ_pt, mJ_pt, mJ_sJ, mZ_sJ, tn0, tn1, tn2, tn3, tn4, tn5, tn6, hx0, t4, hs, ii0, ii1, ii2, ii3, ii4, if_true, if_false, ne_eq, not_false_eq_true, not_true_eq_false, true_and, and_true, false_and, and_false, and_self, true_or, or_true, false_or, or_false, or_self, Nat.reduceAdd, Nat.reduceLT, Nat.reduceLeDiff, Nat.succ_ne_zero, reduceIte, reduceCtorEq]
      · have S1 := m_stateNJ (J := up2 I 124 0 0) (τ := sB τ) (s := 1) h' (up2_row (by omega)) hp hi (by rw [up2_row (by omega), ← E0]; exact hs)
        simp (config := {decide := true}) only [f_X8_bestFire, b_X8_bestFire_0, b_X8_bestFire_28, b_X8_bestFire_35, b_X8_bestFire_44, m_noLot h' hp, m_start0 hj h0, S1, m_ref1 hj h0 (show ¬ (2 : Int32) ≤ 0 by decide), gI_pt hj, gR_pt hj, ob_pt hj, ck_pt hj, pI_pt hj, pB_pt hj, pR_pt hj, aI_pt hj, aR_pt hj, wI_pt hj, wJ_pt hj, aL_pt hj, cl1_s, cl1_n, cl1_i, cx1_s, cx1_x, cx1_n, cx1_i, nul_n, nul_s, nm, dv2, dv3, dv4, dv5, dv8, dv10, dv20, dv40, thr, bo, mI_pt hj, mT_pt hj, sB_pt, mZ_pt, mJ_pt, mJ_sJ, mZ_sJ, tn0, tn1, tn2, tn3, tn4, tn5, tn6, h0, ii0, ii1, ii2, ii3, ii4, if_true, if_false, ne_eq, not_false_eq_true, not_true_eq_false, true_and, and_true, false_and, and_false, and_self, true_or, or_true, false_or, or_false, or_self, Nat.reduceAdd, Nat.reduceLT, Nat.reduceLeDiff, Nat.succ_ne_zero, reduceIte, reduceCtorEq]
  · refine Agr.bad (k := 1) (b := 0) h (by decide) ?_ ?_
    · simp (config := {decide := true}) only [f_L_bestFire, b_L_bestFire_0, f_X4_bestFire, b_X4_bestFire_0, x_lotAtN h hp, gI_pt hj, gR_pt hj, ob_pt hj, ck_pt hj, pI_pt hj, pB_pt hj, pR_pt hj, aI_pt hj, aR_pt hj, wI_pt hj, wJ_pt hj, aL_pt hj, cl1_s, cl1_n, cl1_i, cx1_s, cx1_x, cx1_n, cx1_i, nul_n, nul_s, nm, dv2, dv3, dv4, dv5, dv8, dv10, dv20, dv40, thr, bo, mI_pt hj, mT_pt hj, sB_pt, mZ_pt, mJ_pt, mJ_sJ, mZ_sJ, tn0, tn1, tn2, tn3, tn4, tn5, tn6, hx0, ii0, ii1, ii2, ii3, ii4, if_true, if_false, ne_eq, not_false_eq_true, not_true_eq_false, true_and, and_true, false_and, and_false, and_self, true_or, or_true, false_or, or_false, or_self, Nat.reduceAdd, Nat.reduceLT, Nat.reduceLeDiff, Nat.succ_ne_zero, reduceIte, reduceCtorEq]
    · simp (config := {decide := true}) only [f_X8_bestFire, b_X8_bestFire_0, b_X8_bestFire_35, b_X8_bestFire_44, m_noLotN h' hp, m_start1 hj h0 (show ¬ (1 : Int32) ≤ 0 by decide), gI_pt hj, gR_pt hj, ob_pt hj, ck_pt hj, pI_pt hj, pB_pt hj, pR_pt hj, aI_pt hj, aR_pt hj, wI_pt hj, wJ_pt hj, aL_pt hj, cl1_s, cl1_n, cl1_i, cx1_s, cx1_x, cx1_n, cx1_i, nul_n, nul_s, nm, dv2, dv3, dv4, dv5, dv8, dv10, dv20, dv40, thr, bo, mI_pt hj, mT_pt hj, sB_pt, mZ_pt, mJ_pt, mJ_sJ, mZ_sJ, tn0, tn1, tn2, tn3, tn4, tn5, tn6, h0, ii0, ii1, ii2, ii3, ii4, if_true, if_false, ne_eq, not_false_eq_true, not_true_eq_false, true_and, and_true, false_and, and_false, and_self, true_or, or_true, false_or, or_false, or_self, Nat.reduceAdd, Nat.reduceLT, Nat.reduceLeDiff, Nat.succ_ne_zero, reduceIte, reduceCtorEq]
end BR
