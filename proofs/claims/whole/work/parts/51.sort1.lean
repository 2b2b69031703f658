/-! SORT: shares, the garden -/
section S1
variable {φ : Nat → Nat} {T : Nat → Nat × Nat} {I : Nat → Nat → Int32} {R : Nat → Nat → Option Nat} {τ : Mem} {e0 nS nL cS cL n z : Nat} {mx : Nat → Int32} {cB : Nat → Nat} {bl : Nat → List (Nat × Int32)}
variable {mi a b w q g k i j t c : Nat} {J J' : Nat → Nat → Int32} {p r d : Int32} {x y u : Nat → Int32} {τ1 : Mem}
theorem sub_swap (a b c : Int32) : a - b - c = a - c - b := by
  rw [Int32.sub_eq_add_neg, Int32.sub_eq_add_neg, Int32.sub_eq_add_neg (a := a - c), Int32.sub_eq_add_neg (a := a), Int32.add_assoc, Int32.add_assoc, Int32.add_comm (-b)]
def bq (v : Int32) : Int32 := if v < 10 then v else 10
def shV (b w : Int32) (g : Nat) : Int32 := if g = 2 then w * b / 40 else if g = 1 then w * b / 20 else w - w * b / 20 - w * b / 40
def dG (b : Int32) (u : Nat → Int32) (g : Nat) : Int32 := shV b (u 0) g + shV b (u 1) g + shV b (u 2) g + shV b (u 3) g
theorem lt3 (h : g < 3) : g = 0 ∨ g = 1 ∨ g = 2 := by omega
theorem x_share (hj : Inj φ T) (ta : T a = (4, 0)) (hg : g < 3) : f_X1_shareOfGrade (φ a) p (Int32.ofNat g) (pt φ T J R τ) = some (shV (bq (J a 5)) p g, pt φ T J R τ) := by
  have t1 : (T a).1 = 3 + 1 := by rw [ta]
  rw [f_X1_shareOfGrade, b_X1_shareOfGrade_0, gI_pt hj t1, nm, nm, dv40, nm, dv20]
  rcases lt3 hg with rfl | rfl | rfl
  · rw [if_neg (by decide), if_neg (by decide), nm, nm, b_X1_shareOfGrade_51]; rfl
  · rw [if_neg (by decide), if_pos (by decide), b_X1_shareOfGrade_51]; rfl
  · rw [if_pos (by decide)]; rfl
theorem x_dryG (hj : Inj φ T) (ta : T a = (4, 0)) (ra : R a 13 = some (φ b)) (tb : T b = (100, 4)) (hg : g < 3) : f_X1_dryOfGrade (φ a) (Int32.ofNat g) (pt φ T J R τ) = some (dG (bq (J a 5)) (J b) g, pt φ T J R τ) := by
  have t1 : (T a).1 = 3 + 1 := by rw [ta]
  have t2 : (T b).1 = 100 := by rw [tb]
  have S := fun p => x_share (J := J) (R := R) (τ := τ) (p := p) hj ta hg
  have al : ∀ {K : Int32 → Option (Int32 × Mem)}, aL (pt φ T J R τ) (some (φ b)) K = K 4 := fun {K} => by
    rw [aL_pt hj (by rw [tb]; exact ⟨by decide, by decide⟩), tb]; rfl
  have ai : ∀ {K : Int32 → Option (Int32 × Mem)} (k : Int32) (m : Nat), ¬ k < 0 → k.toNatClampNeg = m → m < 4 → aI (pt φ T J R τ) (some (φ b)) k K = K (J b m) := fun {K} k m h1 h2 h3 => by
    rw [aI_pt hj t2 h1 (by rw [h2, tb]; exact h3), h2]
  have e0 : (0 : Int32) + 1 = 1 := rfl
  have e1 : (1 : Int32) + 1 = 2 := rfl
  have e2 : (2 : Int32) + 1 = 3 := rfl
  have e3 : (3 : Int32) + 1 = 4 := rfl
  rw [f_X1_dryOfGrade, b_X1_dryOfGrade_0, show (40 : Nat) = 35 + 1 + 1 + 1 + 1 + 1 from rfl, l_X1_dryOfGrade_4]
  rw [itr_succ, b_X1_dryOfGrade_4, gR_pt hj t1, ra, al, if_neg (by decide), gR_pt hj t1, ra, ai 0 0 (by decide) rfl (by decide), ob_pt hj t1, S, cl1_s, nm, nm, e0]
  rw [itr_succ, b_X1_dryOfGrade_4, gR_pt hj t1, ra, al, if_neg (by decide), gR_pt hj t1, ra, ai 1 1 (by decide) rfl (by decide), ob_pt hj t1, S, cl1_s, nm, nm, e1]
  rw [itr_succ, b_X1_dryOfGrade_4, gR_pt hj t1, ra, al, if_neg (by decide), gR_pt hj t1, ra, ai 2 2 (by decide) rfl (by decide), ob_pt hj t1, S, cl1_s, nm, nm, e2]
  rw [itr_succ, b_X1_dryOfGrade_4, gR_pt hj t1, ra, al, if_neg (by decide), gR_pt hj t1, ra, ai 3 3 (by decide) rfl (by decide), ob_pt hj t1, S, cl1_s, nm, nm, e3]
  rw [itr_succ, b_X1_dryOfGrade_4, gR_pt hj t1, ra, al, if_pos (by decide), Int32.zero_add]; rfl
/-- a lot of one grade, by rows -/
def xG (x u : Nat → Int32) (g k : Nat) : Int32 := if k = 0 then 2 else if k = 1 then dG (bq (x 5)) u g else if k = 2 then mn (shV (bq (x 5)) (x 2) g) (dG (bq (x 5)) u g) else if k = 3 then 0 else if k = 9 then Int32.ofNat g else x k
theorem x_becomeL (hj : Inj φ T) (ta : T a = (4, 0)) (ra : R a 13 = some (φ b)) (tb : T b = (100, 4)) (tq : T q = (4, 0)) (rq : R q 13 = some (φ w)) (tw : T w = (100, 4)) (n1 : q ≠ a) (n2 : q ≠ b) (n3 : w ≠ a) (n4 : w ≠ b) (n5 : q ≠ w) (hg : g < 3) : ∃ J', l_X1_becomeGrade_22 40 (φ q) (some (φ a)) (Int32.ofNat g) 0 (pt φ T J R τ) = some ((), pt φ T J' R τ) ∧ (∀ v, v ≠ q → v ≠ w → J' v = J v) ∧ (∀ k, J' q k = if k = 1 then dG (bq (J a 5)) (J b) g else if k = 2 then mn (shV (bq (J a 5)) (J a 2) g) (dG (bq (J a 5)) (J b) g) else J q k) ∧ (∀ k, k < 4 → J' w k = shV (bq (J a 5)) (J b k) g) := by
  have t1 : (T a).1 = 3 + 1 := by rw [ta]
  have t2 : (T b).1 = 100 := by rw [tb]
  have t3 : (T q).1 = 3 + 1 := by rw [tq]
  have t4 : (T w).1 = 100 := by rw [tw]
  have S := fun (J0 : Nat → Nat → Int32) (p : Int32) (h : J0 a = J a) => by
    have := x_share (J := J0) (R := R) (τ := τ) (p := p) hj ta hg
    rw [h] at this; exact this
  have al : ∀ {K : Int32 → Option (Unit × Mem)} (J0 : Nat → Nat → Int32), aL (pt φ T J0 R τ) (some (φ w)) K = K 4 := fun {K} J0 => by
    rw [aL_pt hj (by rw [tw]; exact ⟨by decide, by decide⟩), tw]; rfl
  have ai : ∀ {K : Int32 → Option (Unit × Mem)} (J0 : Nat → Nat → Int32) (k : Int32) (m : Nat), J0 b = J b → ¬ k < 0 → k.toNatClampNeg = m → m < 4 → aI (pt φ T J0 R τ) (some (φ b)) k K = K (J b m) := fun {K} J0 k m h0 h1 h2 h3 => by
    rw [aI_pt hj t2 h1 (by rw [h2, tb]; exact h3), h2, h0]
  have wi : ∀ {K : Mem → Option (Unit × Mem)} (J0 : Nat → Nat → Int32) (k : Int32) (m : Nat) (v : Int32), ¬ k < 0 → k.toNatClampNeg = m → m < 4 → wI (pt φ T J0 R τ) (some (φ w)) k v K = K (pt φ T (up2 J0 w m v) R τ) := fun {K} J0 k m v h1 h2 h3 => by
    rw [wI_pt hj t4 h1 (by rw [h2, tw]; exact h3), h2]
  have e0 : (0 : Int32) + 1 = 1 := rfl
  have e1 : (1 : Int32) + 1 = 2 := rfl
  have e2 : (2 : Int32) + 1 = 3 := rfl
  have e3 : (3 : Int32) + 1 = 4 := rfl
  obtain ⟨J1, h1⟩ : ∃ J1, J1 = up2 J w 0 (shV (bq (J a 5)) (J b 0) g) := ⟨_, rfl⟩
  obtain ⟨J2, h2⟩ : ∃ J2, J2 = up2 J1 w 1 (shV (bq (J a 5)) (J b 1) g) := ⟨_, rfl⟩
  obtain ⟨J3, h3⟩ : ∃ J3, J3 = up2 J2 w 2 (shV (bq (J a 5)) (J b 2) g) := ⟨_, rfl⟩
  obtain ⟨J4, h4⟩ : ∃ J4, J4 = up2 J3 w 3 (shV (bq (J a 5)) (J b 3) g) := ⟨_, rfl⟩
  have f1 : ∀ v, v ≠ w → J1 v = J v := fun v h => by rw [h1, up2_row h]
  have f2 : ∀ v, v ≠ w → J2 v = J v := fun v h => by rw [h2, up2_row h, f1 v h]
  have f3 : ∀ v, v ≠ w → J3 v = J v := fun v h => by rw [h3, up2_row h, f2 v h]
  have f4 : ∀ v, v ≠ w → J4 v = J v := fun v h => by rw [h4, up2_row h, f3 v h]
  obtain ⟨J5, h5⟩ : ∃ J5, J5 = up2 J4 q 1 (dG (bq (J a 5)) (J b) g) := ⟨_, rfl⟩
  obtain ⟨J6, h6⟩ : ∃ J6, J6 = up2 J5 q 2 (mn (shV (bq (J a 5)) (J a 2) g) (dG (bq (J a 5)) (J b) g)) := ⟨_, rfl⟩
  have D := x_dryG (J := J4) (R := R) (τ := τ) hj ta ra tb hg
  rw [f4 a (Ne.symm n3), f4 b (Ne.symm n4)] at D
  have f5 : ∀ v, v ≠ w → v ≠ q → J5 v = J v := fun v h h' => by rw [h5, up2_row h', f4 v h]
  have q5 : J5 q 1 = dG (bq (J a 5)) (J b) g := by rw [h5, up2_at]
  refine ⟨J6, ?_, fun v y1 y2 => by rw [h6, up2_row y1, f5 v y2 y1], fun k => ?_, fun k hk => ?_⟩
  · rw [show (40 : Nat) = 35 + 1 + 1 + 1 + 1 + 1 from rfl, l_X1_becomeGrade_22]
    rw [itr_succ, b_X1_becomeGrade_22, gR_pt hj t3, rq, al J, if_neg (by decide), gR_pt hj t3, rq, gR_pt hj t1, ra, ai J 0 0 rfl (by decide) rfl (by decide), ob_pt hj t1, S J _ rfl, cl1_s, wi J 0 0 _ (by decide) rfl (by decide), nm, e0, ← h1]
    rw [itr_succ, b_X1_becomeGrade_22, gR_pt hj t3, rq, al J1, if_neg (by decide), gR_pt hj t3, rq, gR_pt hj t1, ra, ai J1 1 1 (f1 b (Ne.symm n4)) (by decide) rfl (by decide), ob_pt hj t1, S J1 _ (f1 a (Ne.symm n3)), cl1_s, wi J1 1 1 _ (by decide) rfl (by decide), nm, e1, ← h2]
    rw [itr_succ, b_X1_becomeGrade_22, gR_pt hj t3, rq, al J2, if_neg (by decide), gR_pt hj t3, rq, gR_pt hj t1, ra, ai J2 2 2 (f2 b (Ne.symm n4)) (by decide) rfl (by decide), ob_pt hj t1, S J2 _ (f2 a (Ne.symm n3)), cl1_s, wi J2 2 2 _ (by decide) rfl (by decide), nm, e2, ← h3]
    rw [itr_succ, b_X1_becomeGrade_22, gR_pt hj t3, rq, al J3, if_neg (by decide), gR_pt hj t3, rq, gR_pt hj t1, ra, ai J3 3 3 (f3 b (Ne.symm n4)) (by decide) rfl (by decide), ob_pt hj t1, S J3 _ (f3 a (Ne.symm n3)), cl1_s, wi J3 3 3 _ (by decide) rfl (by decide), nm, e3, ← h4]
    rw [itr_succ, b_X1_becomeGrade_22, gR_pt hj t3, rq, al J4, if_pos (by decide), ob_pt hj t1, D, cl1_s, pI_pt hj t3, ← h5, gI_pt hj t3, gI_pt hj t1, ob_pt hj t1, S J5 _ (f5 a (Ne.symm n3) (Ne.symm n1)), cl1_s, nm, pI_pt hj t3, q5, f5 a (Ne.symm n3) (Ne.symm n1)]
    rw [h6]; rfl
  · rw [h6]
    by_cases k2 : k = 2
    · subst k2; rw [up2_at, if_neg (by decide), if_pos rfl]
    · rw [up2_k k2, if_neg k2, h5]
      by_cases k1 : k = 1
      · subst k1; rw [up2_at, if_pos rfl]
      · rw [up2_k k1, if_neg k1, f4 q n5]
  · rw [h6, up2_row (Ne.symm n5), h5, up2_row (Ne.symm n5)]
    rcases (show k = 0 ∨ k = 1 ∨ k = 2 ∨ k = 3 by omega) with rfl | rfl | rfl | rfl
    · rw [h4, up2_k (by decide), h3, up2_k (by decide), h2, up2_k (by decide), h1, up2_at]
    · rw [h4, up2_k (by decide), h3, up2_k (by decide), h2, up2_at]
    · rw [h4, up2_k (by decide), h3, up2_at]
    · rw [h4, up2_at]
theorem x_become (hj : Inj φ T) (ta : T a = (4, 0)) (ra : R a 13 = some (φ b)) (tb : T b = (100, 4)) (tq : T q = (4, 0)) (rq : R q 13 = some (φ w)) (tw : T w = (100, 4)) (n1 : q ≠ a) (n2 : q ≠ b) (n3 : w ≠ a) (n4 : w ≠ b) (n5 : q ≠ w) (hg : g < 3) (b10 : J a 10 = 0 ∨ J a 10 = 1) (b11 : J a 11 = 0 ∨ J a 11 = 1) : ∃ J', f_X1_becomeGrade (φ q) (some (φ a)) (Int32.ofNat g) (pt φ T J R τ) = some ((), pt φ T J' R τ) ∧ (∀ v, v ≠ q → v ≠ w → J' v = J v) ∧ (∀ k, k ≤ 11 → J' q k = xG (J a) (J b) g k) ∧ (∀ k, 12 ≤ k → J' q k = J q k) ∧ (∀ k, k < 4 → J' w k = shV (bq (J a 5)) (J b k) g) := by
  have t3 : (T q).1 = 3 + 1 := by rw [tq]
  obtain ⟨y, C1, C2, C3⟩ := x_copyL (J := J) (R := R) (τ := τ) hj ta tq (Ne.symm n1) b10 b11
  obtain ⟨J1, h1⟩ : ∃ J1, J1 = up2 (up2 (up2 (rowS J q y) q 0 2) q 9 (Int32.ofNat g)) q 3 0 := ⟨_, rfl⟩
  have f1 : ∀ v, v ≠ q → J1 v = J v := fun v h => by rw [h1, up2_row h, up2_row h, up2_row h, rowS_ne h]
  obtain ⟨J2, L1, L2, L3, L4⟩ := x_becomeL (J := J1) (R := R) (τ := τ) hj ta ra tb tq rq tw n1 n2 n3 n4 n5 hg
  rw [f1 a (Ne.symm n1), f1 b (Ne.symm n2)] at L3 L4
  refine ⟨J2, ?_, fun v y1 y2 => by rw [L2 v y1 y2, f1 v y1], fun k hk => ?_, fun k hk => ?_, L4⟩
  · rw [f_X1_becomeGrade, b_X1_becomeGrade_0, ob_pt hj t3, C1, cl1_s, pI_pt hj t3, pI_pt hj t3, pI_pt hj t3, ← h1]; exact L1
  · rw [L3, xG]
    by_cases k1 : k = 1
    · subst k1; rfl
    · by_cases k2 : k = 2
      · subst k2; rfl
      · rw [if_neg k1, if_neg k2, h1]
        by_cases k3 : k = 3
        · subst k3; rw [up2_at]; rfl
        · rw [up2_k k3, if_neg k1, if_neg k2, if_neg k3]
          by_cases k9 : k = 9
          · subst k9; rw [up2_at]; rfl
          · rw [up2_k k9, if_neg k9]
            by_cases k0 : k = 0
            · subst k0; rw [up2_at]; rfl
            · rw [up2_k k0, if_neg k0, rowS_at]; exact C2 k (by omega) hk k9
  · rw [L3, if_neg (by omega), if_neg (by omega), h1, up2_k (by omega), up2_k (by omega), up2_k (by omega), rowS_at]; exact C3 k (by omega)
theorem x_newL (hj : Inj φ T) (t0 : T 0 = (7, 0)) (r3 : R 0 3 = some (φ 2)) (t2 : T 2 = (102, 16)) (hm : J 0 4 = Int32.ofNat j) (h16 : j < 16) (rq : R 2 j = some (φ q)) : f_X4_newLot (φ 0) (pt φ T J R τ) = some (.inl (some (φ q)), pt φ T (up2 J 0 4 (Int32.ofNat (j + 1))) R τ) := by
  have q0 : (T 0).1 = 6 + 1 := by rw [t0]
  have c1 : ¬ (16 : Int32) ≤ Int32.ofNat j := by rw [show (16 : Int32) = Int32.ofNat 16 from rfl, kN_le (by omega) (by omega)]; omega
  rw [f_X4_newLot, b_X4_newLot_0, gI_pt hj q0, hm, if_neg c1, b_X4_newLot_14, x_st1, cx1_s, gR_pt hj q0, r3, gI_pt hj q0, hm, aR_pt hj (by rw [t2]) (kN_nn (by omega)) (by rw [tnK (by omega), t2]; exact h16), gI_pt hj q0, hm, nm, pI_pt hj q0, tnK (by omega), rq, kN_s]
/-! how many grades there are: those whose dry isn't 0 -/
def cN (f : Nat → Int32) : Nat → Nat
  | 0 => 0
  | g + 1 => if f g ≤ 0 then cN f g else cN f g + 1
theorem cN_le (f : Nat → Int32) : ∀ g, cN f g ≤ g := by
  intro g
  induction g with
  | zero => exact Nat.le_refl _
  | succ g ih => rw [cN]; split <;> omega
theorem cN_mono (f : Nat → Int32) : ∀ g d, cN f g ≤ cN f (g + d) := by
  intro g d
  induction d with
  | zero => exact Nat.le_refl _
  | succ d ih => rw [show g + (d + 1) = g + d + 1 by omega, cN]; split <;> omega
theorem cN_lt {f : Nat → Int32} {g g' : Nat} (h : g < g') (hp : ¬ f g ≤ 0) : cN f g < cN f g' := by
  have h1 : cN f (g + 1) = cN f g + 1 := by rw [cN, if_neg hp]
  have h2 := cN_mono f (g + 1) (g' - (g + 1))
  rw [show g + 1 + (g' - (g + 1)) = g' by omega] at h2
  omega
theorem cN_ex {f : Nat → Int32} : ∀ G k, k < cN f G → ∃ g, g < G ∧ ¬ f g ≤ 0 ∧ cN f g = k := by
  intro G
  induction G with
  | zero => intro k hk; exact absurd hk (Nat.not_lt_zero _)
  | succ G ih =>
    intro k hk
    rw [cN] at hk
    by_cases c : f G ≤ 0
    · rw [if_pos c] at hk
      obtain ⟨g, h1, h2, h3⟩ := ih k hk
      exact ⟨g, by omega, h2, h3⟩
    · rw [if_neg c] at hk
      by_cases c2 : k = cN f G
      · exact ⟨G, by omega, c, c2.symm⟩
      · obtain ⟨g, h1, h2, h3⟩ := ih k (by omega)
        exact ⟨g, by omega, h2, h3⟩
end S1

/-! SORT: the garden's loops -/
section S2
variable {φ : Nat → Nat} {T : Nat → Nat × Nat} {I : Nat → Nat → Int32} {R : Nat → Nat → Option Nat} {τ : Mem} {e0 nS nL cS cL n z : Nat} {mx : Nat → Int32} {cB : Nat → Nat} {bl : Nat → List (Nat × Int32)}
variable {mi a b w q g k i j t c : Nat} {J J' : Nat → Nat → Int32} {p r d : Int32} {x y u : Nat → Int32} {τ1 : Mem} {f : Nat → Int32}
def dgF (I : Nat → Nat → Int32) (i : Nat) : Nat → Int32 := dG (bq (I (6 * i + 19) 5)) (I (6 * i + 20))
def XI (I J : Nat → Nat → Int32) (i nL : Nat) (f : Nat → Int32) (g : Nat) : Prop :=
  J 0 4 = Int32.ofNat (nL + cN f g) ∧ (∀ k, k ≠ 4 → J 0 k = I 0 k) ∧ (∀ v, v ≠ 0 → (∀ g', g' < g → ¬ f g' ≤ 0 → v ≠ 6 * (nL + cN f g') + 19 ∧ v ≠ 6 * (nL + cN f g') + 20) → J v = I v) ∧ (∀ g', g' < g → ¬ f g' ≤ 0 → (∀ k, k ≤ 11 → J (6 * (nL + cN f g') + 19) k = xG (I (6 * i + 19)) (I (6 * i + 20)) g' k) ∧ J (6 * (nL + cN f g') + 19) 12 = 0 ∧ (∀ k, k < 4 → J (6 * (nL + cN f g') + 20) k = shV (bq (I (6 * i + 19) 5)) (I (6 * i + 20) k) g'))
theorem Cx.lots (h : Cx φ T I R z e0 nS nL cS cL mx cB bl n) : T 0 = (7, 0) ∧ R 0 3 = some (φ 2) ∧ T 2 = (102, 16) ∧ I 0 4 = Int32.ofNat nL ∧ (∀ j, j < 16 → R 2 j = some (φ (6 * j + 19))) ∧ (∀ j, j < 17 → R (6 * j + 19) 13 = some (φ (6 * j + 20)) ∧ T (6 * j + 20) = (100, 4) ∧ T (6 * j + 19) = (4, 0)) ∧ (∀ j, nL ≤ j → j < 16 → LotB (I (6 * j + 19)) (I (6 * j + 20)) (I (6 * j + 21)) (I (6 * j + 22)) (I (6 * j + 23))) := by
  obtain ⟨hj, hl, hx, hm, hr⟩ := h; obtain ⟨hx0, hx1, hx2, hx3, hx4, hx5, hx6, hx7, hx8, hx9, hx10, hx11, hx12, hx13, hx14, hx15, hx16, hx17, hx18, hx19, hx20, hx21, hx22, hx23, hx24, hx25, hx26, hx27⟩ := hx; obtain ⟨hm0, hm1, hm2, hm3, hm4, hm5, hm6, hm7, hm8, hm9, hm10, hm11, hm12, hm13, hm14, hm15, hm16, hm17, hm18, hm19, hm20, hm21, hm22, hm23, hm24, hm25, hm26, hm27, hm28, hm29, hm30, hm31, hm32, hm33, hm34, hm35, hm36, hm37, hm38, hm39, hm40, hm41, hm42, hm43, hm44⟩ := hm; obtain ⟨⟨⟨g1, g2⟩, ⟨g3, g4, g5, g6, g7⟩, g8, g9, g10⟩, r1, r2, r3, r4, r5, r6⟩ := hr
  exact ⟨hx0, hx2, hx7, g2, hx14, fun j hj => ⟨hx16 j hj, hx19 j hj, hx15 j hj⟩, r2⟩
theorem x_sortC (h : Cx φ T I R (mZ τ) e0 nS nL cS cL mx cB bl n) (iL : i < nL) : ∀ d g fl, g + d = 3 → d + 1 ≤ fl → l_X4_sort_41 fl (φ 0) (some (φ (6 * i + 19))) (Int32.ofNat (cN (dgF I i) g)) (Int32.ofNat g) (pt φ T I R τ) = if 16 < nL + cN (dgF I i) 3 then b_X4_sort_81 (φ 0) (some (φ (6 * i + 19))) (Int32.ofNat (cN (dgF I i) 3)) 0 (pt φ T I R τ) else b_X4_sort_81 (φ 0) (some (φ (6 * i + 19))) (Int32.ofNat (cN (dgF I i) 3)) 1 (pt φ T I R τ) := by
  have hj := h.hj
  have hN := h.m.2.2.2.2.1
  obtain ⟨t0, r3, t2, m4, rl, rw', bl'⟩ := h.lots
  obtain ⟨ra, tb, ta⟩ := rw' i (by omega)
  have c3 := cN_le (dgF I i) 3
  intro d
  induction d with
  | zero =>
    intro g fl h1 h2
    obtain ⟨fl', rfl⟩ : ∃ x, fl = x + 1 := ⟨fl - 1, by omega⟩
    have g3 : g = 3 := by omega
    subst g3
    rw [l_X4_sort_41, itr_succ, b_X4_sort_41, if_pos (show (3 : Int32) ≤ Int32.ofNat 3 by decide), gI_pt hj (by rw [t0]), m4, nm, ← Int32.ofNat_add]
    by_cases c : 16 < nL + cN (dgF I i) 3
    · have c' : (16 : Int32) < Int32.ofNat (nL + cN (dgF I i) 3) := (kN_lt (a := 16) (by omega) (by omega)).mpr c
      rw [if_pos c, if_pos c']
    · have c' : ¬ (16 : Int32) < Int32.ofNat (nL + cN (dgF I i) 3) := by rw [show (16 : Int32) = Int32.ofNat 16 from rfl, kN_lt (by omega) (by omega)]; exact c
      rw [if_neg c, if_neg c']
  | succ d ih =>
    intro g fl h1 h2
    obtain ⟨fl', rfl⟩ : ∃ x, fl = x + 1 := ⟨fl - 1, by omega⟩
    have c1 : ¬ (3 : Int32) ≤ Int32.ofNat g := by rw [show (3 : Int32) = Int32.ofNat 3 from rfl, kN_le (by omega) (by omega)]; omega
    have D := x_dryG (J := I) (R := R) (τ := τ) hj ta ra tb (show g < 3 by omega)
    rw [l_X4_sort_41, itr_succ, b_X4_sort_41, if_neg c1, ob_pt hj (by rw [ta]), D, cl1_s]
    have IH := ih (g + 1) fl' (by omega) (by omega)
    rw [cN] at IH
    by_cases c : dgF I i g ≤ 0
    · rw [if_pos c] at IH
      rw [if_pos (show dG (bq (I (6 * i + 19) 5)) (I (6 * i + 20)) g ≤ 0 from c), b_X4_sort_59, nm, kN_s]; exact IH
    · rw [if_neg c] at IH
      rw [if_neg (show ¬ dG (bq (I (6 * i + 19) 5)) (I (6 * i + 20)) g ≤ 0 from c), nm, b_X4_sort_59, nm, kN_s, kN_s]; exact IH
theorem x_sortM (h : Cx φ T I R (mZ τ) e0 nS nL cS cL mx cB bl n) (iL : i < nL) (h16 : nL + cN (dgF I i) 3 ≤ 16) : ∀ d g (J : Nat → Nat → Int32) fl, g + d = 3 → d + 1 ≤ fl → XI I J i nL (dgF I i) g → ∃ J3 J', l_X4_sort_87 fl (φ 0) (some (φ (6 * i + 19))) p (Int32.ofNat g) (pt φ T J R τ) = some (.inl p, pt φ T J' R τ) ∧ XI I J3 i nL (dgF I i) 3 ∧ (∀ v, v ≠ 6 * i + 19 → v ≠ 6 * i + 20 → J' v = J3 v) ∧ J' (6 * i + 19) 0 = 3 ∧ J' (6 * i + 19) 1 = 0 ∧ (∀ k, k ≠ 0 → k ≠ 1 → J' (6 * i + 19) k = J3 (6 * i + 19) k) ∧ (∀ k, k < 4 → J' (6 * i + 20) k = 0) := by
  have hj := h.hj
  have hN := h.m.2.2.2.2.1
  obtain ⟨t0, r3, t2, m4, rl, rw', bl'⟩ := h.lots
  obtain ⟨ra, tb, ta⟩ := rw' i (by omega)
  obtain ⟨-, -, -, -, ⟨b10, b11, -⟩, -⟩ := h.lr iL
  intro d
  induction d with
  | zero =>
    intro g J fl h1 h2 hX
    obtain ⟨fl', rfl⟩ : ∃ x, fl = x + 1 := ⟨fl - 1, by omega⟩
    have g3 : g = 3 := by omega
    subst g3
    obtain ⟨J', V1, V2, V3, V4, V5, V6⟩ := x_vanish (J := J) (τ := τ) h (show i < 17 by omega)
    refine ⟨J, J', ?_, hX, V2, V3, V4, V5, V6⟩
    rw [l_X4_sort_87, itr_succ, b_X4_sort_87, if_pos (show (3 : Int32) ≤ Int32.ofNat 3 by decide), ob_pt hj (by rw [ta]), V1, cl1_s]
  | succ d ih =>
    intro g J fl h1 h2 hX
    obtain ⟨fl', rfl⟩ : ∃ x, fl = x + 1 := ⟨fl - 1, by omega⟩
    have c1 : ¬ (3 : Int32) ≤ Int32.ofNat g := by rw [show (3 : Int32) = Int32.ofNat 3 from rfl, kN_le (by omega) (by omega)]; omega
    obtain ⟨X1, X2, X3, X4⟩ := id hX
    have Ja : J (6 * i + 19) = I (6 * i + 19) := X3 _ (by omega) (fun g' _ _ => ⟨by omega, by omega⟩)
    have Jb : J (6 * i + 20) = I (6 * i + 20) := X3 _ (by omega) (fun g' _ _ => ⟨by omega, by omega⟩)
    have D := x_dryG (J := J) (R := R) (τ := τ) hj ta ra tb (show g < 3 by omega)
    rw [Ja, Jb] at D
    rw [l_X4_sort_87, itr_succ, b_X4_sort_87, if_neg c1, ob_pt hj (by rw [ta]), D, cl1_s]
    by_cases c : dgF I i g ≤ 0
    · obtain ⟨J3, J', e1, e2⟩ := ih (g + 1) J fl' (by omega) (by omega) ⟨by rw [cN, if_pos c]; exact X1, X2, fun v v0 hv => X3 v v0 (fun g' hg' hp => hv g' (by omega) hp), fun g' hg' hp => X4 g' (by
        rcases (show g' < g ∨ g' = g by omega) with y | y
        · exact y
        · rw [y] at hp; exact absurd c hp) hp⟩
      refine ⟨J3, J', ?_, e2⟩
      rw [if_pos (show dG (bq (I (6 * i + 19) 5)) (I (6 * i + 20)) g ≤ 0 from c), b_X4_sort_112, nm, kN_s]; exact e1
    · have lt := cN_lt (g' := 3) (show g < 3 by omega) c
      obtain ⟨j, hjd⟩ : ∃ j, j = nL + cN (dgF I i) g := ⟨_, rfl⟩
      rw [← hjd] at X1
      have j16 : j < 16 := by omega
      obtain ⟨rq, tw, tq⟩ := rw' j (by omega)
      have NLt := x_newL (J := J) (R := R) (τ := τ) (q := 6 * j + 19) hj t0 r3 t2 X1 j16 (rl j j16)
      obtain ⟨J1, hJ1⟩ : ∃ J1, J1 = up2 J 0 4 (Int32.ofNat (j + 1)) := ⟨_, rfl⟩
      rw [← hJ1] at NLt
      have f1 : ∀ v, v ≠ 0 → J1 v = J v := fun v hv => by rw [hJ1, up2_row hv]
      have Ja1 : J1 (6 * i + 19) = I (6 * i + 19) := by rw [f1 _ (by omega), Ja]
      have Jb1 : J1 (6 * i + 20) = I (6 * i + 20) := by rw [f1 _ (by omega), Jb]
      obtain ⟨J2, B1, B2, B3, B4, B5⟩ := x_become (J := J1) (R := R) (τ := τ) hj ta ra tb tq rq tw (by omega) (by omega) (by omega) (by omega) (by omega) (show g < 3 by omega) (by rw [Ja1]; exact b10) (by rw [Ja1]; exact b11)
      rw [Ja1, Jb1] at B3 B5
      have old : ∀ g', g' < g → ¬ dgF I i g' ≤ 0 → nL + cN (dgF I i) g' < j := fun g' hg' hp => by
        have := cN_lt (g' := g) hg' hp; omega
      have J12 : J2 (6 * j + 19) 12 = 0 := by
        rw [B4 12 (by omega), f1 _ (by omega), X3 _ (by omega) (fun g' hg' hp => by have := old g' hg' hp; exact ⟨by omega, by omega⟩)]
        have := (bl' j (by omega) j16).1 12 (by decide)
        rw [this]; rfl
      obtain ⟨J3, J', e1, e2⟩ := ih (g + 1) J2 fl' (by omega) (by omega) ⟨by rw [cN, if_neg c, B2 0 (by omega) (by omega), hJ1, up2_at, hjd]; rfl, fun k hk => by rw [B2 0 (by omega) (by omega), hJ1, up2_k hk]; exact X2 k hk, fun v v0 hv => by
          have hg := hv g (by omega) c
          rw [← hjd] at hg
          rw [B2 v hg.1 hg.2, f1 v v0]; exact X3 v v0 (fun g' hg' hp => hv g' (by omega) hp), fun g' hg' hp => by
          rcases (show g' < g ∨ g' = g by omega) with y | y
          · have lj := old g' y hp
            obtain ⟨y1, y2, y3⟩ := X4 g' y hp
            rw [B2 (6 * (nL + cN (dgF I i) g') + 19) (by omega) (by omega), B2 (6 * (nL + cN (dgF I i) g') + 20) (by omega) (by omega), f1 _ (by omega), f1 _ (by omega)]
            exact ⟨y1, y2, y3⟩
          · subst y
            rw [← hjd]
            exact ⟨B3, J12, B5⟩⟩
      refine ⟨J3, J', ?_, e2⟩
      rw [if_neg (show ¬ dG (bq (I (6 * i + 19) 5)) (I (6 * i + 20)) g ≤ 0 from c), ob_pt hj (by rw [t0]), NLt, cx1_s, ob_pt hj (by rw [tq]), B1, cl1_s, b_X4_sort_112, nm, kN_s]; exact e1
end S2
