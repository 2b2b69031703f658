/-! SORT -/
section S1
variable {φ : Nat → Nat} {T : Nat → Nat × Nat} {I J : Nat → Nat → Int32} {R : Nat → Nat → Option Nat} {τ : Mem} {nS nL n z : Nat}
variable {a b w q g k i j t c : Nat} {J' JX : Nat → Nat → Int32} {p r d cn : Int32} {x y u f : Nat → Int32} {τ1 : Mem}
theorem sub_swap (a b c : Int32) : a - b - c = a - c - b := by
  rw [Int32.sub_eq_add_neg, Int32.sub_eq_add_neg, Int32.sub_eq_add_neg (a := a - c), Int32.sub_eq_add_neg (a := a), Int32.add_assoc, Int32.add_assoc, Int32.add_comm (-b)]
def bq (v : Int32) : Int32 := if v < 10 then v else 10
def shV (b w : Int32) (g : Nat) : Int32 := if g = 2 then w * b / 40 else if g = 1 then w * b / 20 else w - w * b / 20 - w * b / 40
def dG (b : Int32) (u : Nat → Int32) (g : Nat) : Int32 := shV b (u 0) g + shV b (u 1) g + shV b (u 2) g + shV b (u 3) g
theorem lt3 (h : g < 3) : g = 0 ∨ g = 1 ∨ g = 2 := by omega
theorem x_share (hj : Inj φ T) (ta : T a = (2, 0)) (hg : g < 3) : f_X1_shareOfGrade (φ a) p (Int32.ofNat g) (pt φ T J R τ) = some (shV (bq (J a 5)) p g, pt φ T J R τ) := by
  have t1 : (T a).1 = 1 + 1 := by rw [ta]
  rw [f_X1_shareOfGrade, b_X1_shareOfGrade_0, gI_pt hj t1, nm, nm, dv40, nm, dv20]
  rcases lt3 hg with rfl | rfl | rfl
  · rw [if_neg (by decide), if_neg (by decide), nm, nm, b_X1_shareOfGrade_51]; rfl
  · rw [if_neg (by decide), if_pos (by decide), b_X1_shareOfGrade_51]; rfl
  · rw [if_pos (by decide)]; rfl
theorem x_dryG (hj : Inj φ T) (ta : T a = (2, 0)) (ra : R a 13 = some (φ b)) (tb : T b = (100, 4)) (hg : g < 3) : f_X1_dryOfGrade (φ a) (Int32.ofNat g) (pt φ T J R τ) = some (dG (bq (J a 5)) (J b) g, pt φ T J R τ) := by
  have t1 : (T a).1 = 1 + 1 := by rw [ta]
  have t2 : (T b).1 = 100 := by rw [tb]
  have S := fun p => x_share (J := J) (R := R) (τ := τ) (p := p) hj ta hg
  have al : ∀ {K : Int32 → Option (Int32 × Mem)}, aL (pt φ T J R τ) (some (φ b)) K = K 4 := fun {K} => by
    rw [aL_pt hj (by rw [tb]; exact ⟨by decide, by decide⟩), tb]; rfl
  have ai : ∀ {K : Int32 → Option (Int32 × Mem)} (k : Int32) (m : Nat), ¬ k < 0 → k.toNatClampNeg = m → m < 4 → aI (pt φ T J R τ) (some (φ b)) k K = K (J b m) := fun {K} k m h1 h2 h3 => by
    rw [aI_pt hj t2 h1 (by rw [h2, tb]; exact h3), h2]
  have e0 : (0 : Int32) + 1 = 1 := rfl
  have e1 : (1 : Int32) + 1 = 2 := rfl
  have e2 : (2 : Int32) + 1 = 3 := rfl
  have e3 : (3 : Int32) + 1 = 4 := rfl
  rw [f_X1_dryOfGrade, b_X1_dryOfGrade_0, show (40 : Nat) = 35 + 1 + 1 + 1 + 1 + 1 from rfl, l_X1_dryOfGrade_4]
  rw [itr_succ, b_X1_dryOfGrade_4, gR_pt hj t1, ra, al, if_neg (by decide), gR_pt hj t1, ra, ai 0 0 (by decide) rfl (by decide), ob_pt hj t1, S, cl1_s, nm, nm, e0]
  rw [itr_succ, b_X1_dryOfGrade_4, gR_pt hj t1, ra, al, if_neg (by decide), gR_pt hj t1, ra, ai 1 1 (by decide) rfl (by decide), ob_pt hj t1, S, cl1_s, nm, nm, e1]
  rw [itr_succ, b_X1_dryOfGrade_4, gR_pt hj t1, ra, al, if_neg (by decide), gR_pt hj t1, ra, ai 2 2 (by decide) rfl (by decide), ob_pt hj t1, S, cl1_s, nm, nm, e2]
  rw [itr_succ, b_X1_dryOfGrade_4, gR_pt hj t1, ra, al, if_neg (by decide), gR_pt hj t1, ra, ai 3 3 (by decide) rfl (by decide), ob_pt hj t1, S, cl1_s, nm, nm, e3]
  rw [itr_succ, b_X1_dryOfGrade_4, gR_pt hj t1, ra, al, if_pos (by decide), Int32.zero_add]; rfl
def xG (x u : Nat → Int32) (g k : Nat) : Int32 := if k = 0 then 2 else if k = 1 then dG (bq (x 5)) u g else if k = 2 then mn (shV (bq (x 5)) (x 2) g) (dG (bq (x 5)) u g) else if k = 3 then 0 else if k = 9 then Int32.ofNat g else x k
theorem x_becomeL (hj : Inj φ T) (ta : T a = (2, 0)) (ra : R a 13 = some (φ b)) (tb : T b = (100, 4)) (tq : T q = (2, 0)) (rq : R q 13 = some (φ w)) (tw : T w = (100, 4)) (n1 : q ≠ a) (n2 : q ≠ b) (n3 : w ≠ a) (n4 : w ≠ b) (n5 : q ≠ w) (hg : g < 3) : ∃ J', l_X1_becomeGrade_22 40 (φ q) (some (φ a)) (Int32.ofNat g) 0 (pt φ T J R τ) = some ((), pt φ T J' R τ) ∧ (∀ v, v ≠ q → v ≠ w → J' v = J v) ∧ (∀ k, J' q k = if k = 1 then dG (bq (J a 5)) (J b) g else if k = 2 then mn (shV (bq (J a 5)) (J a 2) g) (dG (bq (J a 5)) (J b) g) else J q k) ∧ (∀ k, k < 4 → J' w k = shV (bq (J a 5)) (J b k) g) := by
  have t1 : (T a).1 = 1 + 1 := by rw [ta]
  have t2 : (T b).1 = 100 := by rw [tb]
  have t3 : (T q).1 = 1 + 1 := by rw [tq]
  have t4 : (T w).1 = 100 := by rw [tw]
  have S := fun (J0 : Nat → Nat → Int32) (p : Int32) (h : J0 a = J a) => by
    have := x_share (J := J0) (R := R) (τ := τ) (p := p) hj ta hg
    rw [h] at this; exact this
  have al : ∀ {K : Int32 → Option (Unit × Mem)} (J0 : Nat → Nat → Int32), aL (pt φ T J0 R τ) (some (φ w)) K = K 4 := fun {K} J0 => by
    rw [aL_pt hj (by rw [tw]; exact ⟨by decide, by decide⟩), tw]; rfl
  have ai : ∀ {K : Int32 → Option (Unit × Mem)} (J0 : Nat → Nat → Int32) (k : Int32) (m : Nat), J0 b = J b → ¬ k < 0 → k.toNatClampNeg = m → m < 4 → aI (pt φ T J0 R τ) (some (φ b)) k K = K (J b m) := fun {K} J0 k m h0 h1 h2 h3 => by
    rw [aI_pt hj t2 h1 (by rw [h2, tb]; exact h3), h2, h0]
  have wi : ∀ {K : Mem → Option (Unit × Mem)} (J0 : Nat → Nat → Int32) (k : Int32) (m : Nat) (v : Int32), ¬ k < 0 → k.toNatClampNeg = m → m < 4 → wI (pt φ T J0 R τ) (some (φ w)) k v K = K (pt φ T (up2 J0 w m v) R τ) := fun {K} J0 k m v h1 h2 h3 => by
    rw [wI_pt hj t4 h1 (by rw [h2, tw]; exact h3), h2]
  have e0 : (0 : Int32) + 1 = 1 := rfl
  have e1 : (1 : Int32) + 1 = 2 := rfl
  have e2 : (2 : Int32) + 1 = 3 := rfl
  have e3 : (3 : Int32) + 1 = 4 := rfl
  obtain ⟨J1, h1⟩ : ∃ J1, J1 = up2 J w 0 (shV (bq (J a 5)) (J b 0) g) := ⟨_, rfl⟩
  obtain ⟨J2, h2⟩ : ∃ J2, J2 = up2 J1 w 1 (shV (bq (J a 5)) (J b 1) g) := ⟨_, rfl⟩
  obtain ⟨J3, h3⟩ : ∃ J3, J3 = up2 J2 w 2 (shV (bq (J a 5)) (J b 2) g) := ⟨_, rfl⟩
  obtain ⟨J4, h4⟩ : ∃ J4, J4 = up2 J3 w 3 (shV (bq (J a 5)) (J b 3) g) := ⟨_, rfl⟩
  have f1 : ∀ v, v ≠ w → J1 v = J v := fun v h => by rw [h1, up2_row h]
  have f2 : ∀ v, v ≠ w → J2 v = J v := fun v h => by rw [h2, up2_row h, f1 v h]
  have f3 : ∀ v, v ≠ w → J3 v = J v := fun v h => by rw [h3, up2_row h, f2 v h]
  have f4 : ∀ v, v ≠ w → J4 v = J v := fun v h => by rw [h4, up2_row h, f3 v h]
  obtain ⟨J5, h5⟩ : ∃ J5, J5 = up2 J4 q 1 (dG (bq (J a 5)) (J b) g) := ⟨_, rfl⟩
  obtain ⟨J6, h6⟩ : ∃ J6, J6 = up2 J5 q 2 (mn (shV (bq (J a 5)) (J a 2) g) (dG (bq (J a 5)) (J b) g)) := ⟨_, rfl⟩
  have D := x_dryG (J := J4) (R := R) (τ := τ) hj ta ra tb hg
  rw [f4 a (Ne.symm n3), f4 b (Ne.symm n4)] at D
  have f5 : ∀ v, v ≠ w → v ≠ q → J5 v = J v := fun v h h' => by rw [h5, up2_row h', f4 v h]
  have q5 : J5 q 1 = dG (bq (J a 5)) (J b) g := by rw [h5, up2_at]
  refine ⟨J6, ?_, fun v y1 y2 => by rw [h6, up2_row y1, f5 v y2 y1], fun k => ?_, fun k hk => ?_⟩
  · rw [show (40 : Nat) = 35 + 1 + 1 + 1 + 1 + 1 from rfl, l_X1_becomeGrade_22]
    rw [itr_succ, b_X1_becomeGrade_22, gR_pt hj t3, rq, al J, if_neg (by decide), gR_pt hj t3, rq, gR_pt hj t1, ra, ai J 0 0 rfl (by decide) rfl (by decide), ob_pt hj t1, S J _ rfl, cl1_s, wi J 0 0 _ (by decide) rfl (by decide), nm, e0, ← h1]
    rw [itr_succ, b_X1_becomeGrade_22, gR_pt hj t3, rq, al J1, if_neg (by decide), gR_pt hj t3, rq, gR_pt hj t1, ra, ai J1 1 1 (f1 b (Ne.symm n4)) (by decide) rfl (by decide), ob_pt hj t1, S J1 _ (f1 a (Ne.symm n3)), cl1_s, wi J1 1 1 _ (by decide) rfl (by decide), nm, e1, ← h2]
    rw [itr_succ, b_X1_becomeGrade_22, gR_pt hj t3, rq, al J2, if_neg (by decide), gR_pt hj t3, rq, gR_pt hj t1, ra, ai J2 2 2 (f2 b (Ne.symm n4)) (by decide) rfl (by decide), ob_pt hj t1, S J2 _ (f2 a (Ne.symm n3)), cl1_s, wi J2 2 2 _ (by decide) rfl (by decide), nm, e2, ← h3]
    rw [itr_succ, b_X1_becomeGrade_22, gR_pt hj t3, rq, al J3, if_neg (by decide), gR_pt hj t3, rq, gR_pt hj t1, ra, ai J3 3 3 (f3 b (Ne.symm n4)) (by decide) rfl (by decide), ob_pt hj t1, S J3 _ (f3 a (Ne.symm n3)), cl1_s, wi J3 3 3 _ (by decide) rfl (by decide), nm, e3, ← h4]
    rw [itr_succ, b_X1_becomeGrade_22, gR_pt hj t3, rq, al J4, if_pos (by decide), ob_pt hj t1, D, cl1_s, pI_pt hj t3, ← h5, gI_pt hj t3, gI_pt hj t1, ob_pt hj t1, S J5 _ (f5 a (Ne.symm n3) (Ne.symm n1)), cl1_s, nm, pI_pt hj t3, q5, f5 a (Ne.symm n3) (Ne.symm n1)]
    rw [h6]; rfl
  · rw [h6]
    by_cases k2 : k = 2
    · subst k2; rw [up2_at, if_neg (by decide), if_pos rfl]
    · rw [up2_k k2, if_neg k2, h5]
      by_cases k1 : k = 1
      · subst k1; rw [up2_at, if_pos rfl]
      · rw [up2_k k1, if_neg k1, f4 q n5]
  · rw [h6, up2_row (Ne.symm n5), h5, up2_row (Ne.symm n5)]
    rcases (show k = 0 ∨ k = 1 ∨ k = 2 ∨ k = 3 by omega) with rfl | rfl | rfl | rfl
    · rw [h4, up2_k (by decide), h3, up2_k (by decide), h2, up2_k (by decide), h1, up2_at]
    · rw [h4, up2_k (by decide), h3, up2_k (by decide), h2, up2_at]
    · rw [h4, up2_k (by decide), h3, up2_at]
    · rw [h4, up2_at]
theorem x_become (hj : Inj φ T) (ta : T a = (2, 0)) (ra : R a 13 = some (φ b)) (tb : T b = (100, 4)) (tq : T q = (2, 0)) (rq : R q 13 = some (φ w)) (tw : T w = (100, 4)) (n1 : q ≠ a) (n2 : q ≠ b) (n3 : w ≠ a) (n4 : w ≠ b) (n5 : q ≠ w) (hg : g < 3) (b10 : J a 10 = 0 ∨ J a 10 = 1) (b11 : J a 11 = 0 ∨ J a 11 = 1) : ∃ J', f_X1_becomeGrade (φ q) (some (φ a)) (Int32.ofNat g) (pt φ T J R τ) = some ((), pt φ T J' R τ) ∧ (∀ v, v ≠ q → v ≠ w → J' v = J v) ∧ (∀ k, k ≤ 11 → J' q k = xG (J a) (J b) g k) ∧ (∀ k, 12 ≤ k → J' q k = J q k) ∧ (∀ k, k < 4 → J' w k = shV (bq (J a 5)) (J b k) g) := by
  have t3 : (T q).1 = 1 + 1 := by rw [tq]
  obtain ⟨y, C1, C2, C3⟩ := x_copyL (J := J) (R := R) (τ := τ) hj ta tq (Ne.symm n1) b10 b11
  obtain ⟨J1, h1⟩ : ∃ J1, J1 = up2 (up2 (up2 (rowS J q y) q 0 2) q 9 (Int32.ofNat g)) q 3 0 := ⟨_, rfl⟩
  have f1 : ∀ v, v ≠ q → J1 v = J v := fun v h => by rw [h1, up2_row h, up2_row h, up2_row h, rowS_ne h]
  obtain ⟨J2, L1, L2, L3, L4⟩ := x_becomeL (J := J1) (R := R) (τ := τ) hj ta ra tb tq rq tw n1 n2 n3 n4 n5 hg
  rw [f1 a (Ne.symm n1), f1 b (Ne.symm n2)] at L3 L4
  refine ⟨J2, ?_, fun v y1 y2 => by rw [L2 v y1 y2, f1 v y1], fun k hk => ?_, fun k hk => ?_, L4⟩
  · rw [f_X1_becomeGrade, b_X1_becomeGrade_0, ob_pt hj t3, C1, cl1_s, pI_pt hj t3, pI_pt hj t3, pI_pt hj t3, ← h1]; exact L1
  · rw [L3, xG]
    by_cases k1 : k = 1
    · subst k1; rfl
    · by_cases k2 : k = 2
      · subst k2; rfl
      · rw [if_neg k1, if_neg k2, h1]
        by_cases k3 : k = 3
        · subst k3; rw [up2_at]; rfl
        · rw [up2_k k3, if_neg k1, if_neg k2, if_neg k3]
          by_cases k9 : k = 9
          · subst k9; rw [up2_at]; rfl
          · rw [up2_k k9, if_neg k9]
            by_cases k0 : k = 0
            · subst k0; rw [up2_at]; rfl
            · rw [up2_k k0, if_neg k0, rowS_at]; exact C2 k (by omega) hk k9
  · rw [L3, if_neg (by omega), if_neg (by omega), h1, up2_k (by omega), up2_k (by omega), up2_k (by omega), rowS_at]; exact C3 k (by omega)
theorem x_newL (hj : Inj φ T) (t0 : T 0 = (5, 0)) (r3 : R 0 3 = some (φ 2)) (t2 : T 2 = (101, 16)) (hm : J 0 4 = Int32.ofNat j) (h16 : j < 16) (rq : R 2 j = some (φ q)) : f_X4_newLot (φ 0) (pt φ T J R τ) = some ((some (φ q)), pt φ T (up2 J 0 4 (Int32.ofNat (j + 1))) R τ) := by
  have q0 : (T 0).1 = 4 + 1 := by rw [t0]
  have c1 : ¬ (16 : Int32) ≤ Int32.ofNat j := by rw [show (16 : Int32) = Int32.ofNat 16 from rfl, kN_le (by omega) (by omega)]; omega
  rw [f_X4_newLot, b_X4_newLot_0, gI_pt hj q0, hm, if_neg c1, b_X4_newLot_14, x_st1, cl1_s, gR_pt hj q0, r3, gI_pt hj q0, hm, aR_pt hj (by rw [t2]) (kN_nn (by omega)) (by rw [tnK (by omega), t2]; exact h16), gI_pt hj q0, hm, nm, pI_pt hj q0, tnK (by omega), rq, kN_s]
def cN (f : Nat → Int32) : Nat → Nat
  | 0 => 0
  | g + 1 => if f g ≤ 0 then cN f g else cN f g + 1
theorem cN_le (f : Nat → Int32) : ∀ g, cN f g ≤ g := by
  intro g
  induction g with
  | zero => exact Nat.le_refl _
  | succ g ih => rw [cN]; split <;> omega
theorem cN_mono (f : Nat → Int32) : ∀ g d, cN f g ≤ cN f (g + d) := by
  intro g d
  induction d with
  | zero => exact Nat.le_refl _
  | succ d ih => rw [show g + (d + 1) = g + d + 1 by omega, cN]; split <;> omega
theorem cN_lt {f : Nat → Int32} {g g' : Nat} (h : g < g') (hp : ¬ f g ≤ 0) : cN f g < cN f g' := by
  have h1 : cN f (g + 1) = cN f g + 1 := by rw [cN, if_neg hp]
  have h2 := cN_mono f (g + 1) (g' - (g + 1))
  rw [show g + 1 + (g' - (g + 1)) = g' by omega] at h2
  omega
theorem cN_ex {f : Nat → Int32} : ∀ G k, k < cN f G → ∃ g, g < G ∧ ¬ f g ≤ 0 ∧ cN f g = k := by
  intro G
  induction G with
  | zero => intro k hk; exact absurd hk (Nat.not_lt_zero _)
  | succ G ih =>
    intro k hk
    rw [cN] at hk
    by_cases c : f G ≤ 0
    · rw [if_pos c] at hk
      obtain ⟨g, h1, h2, h3⟩ := ih k hk
      exact ⟨g, by omega, h2, h3⟩
    · rw [if_neg c] at hk
      by_cases c2 : k = cN f G
      · exact ⟨G, by omega, c, c2.symm⟩
      · obtain ⟨g, h1, h2, h3⟩ := ih k (by omega)
        exact ⟨g, by omega, h2, h3⟩
def dgF (I : Nat → Nat → Int32) (i : Nat) : Nat → Int32 := dG (bq (I (6 * i + 19) 5)) (I (6 * i + 20))
def XI (I J : Nat → Nat → Int32) (i nL : Nat) (f : Nat → Int32) (g : Nat) : Prop :=
  J 0 4 = Int32.ofNat (nL + cN f g) ∧ (∀ k, k ≠ 4 → J 0 k = I 0 k) ∧ (∀ v, v ≠ 0 → (∀ g', g' < g → ¬ f g' ≤ 0 → v ≠ 6 * (nL + cN f g') + 19 ∧ v ≠ 6 * (nL + cN f g') + 20) → J v = I v) ∧ (∀ g', g' < g → ¬ f g' ≤ 0 → (∀ k, k ≤ 11 → J (6 * (nL + cN f g') + 19) k = xG (I (6 * i + 19)) (I (6 * i + 20)) g' k) ∧ J (6 * (nL + cN f g') + 19) 12 = 0 ∧ (∀ k, k < 4 → J (6 * (nL + cN f g') + 20) k = shV (bq (I (6 * i + 19) 5)) (I (6 * i + 20) k) g'))
theorem Cx.lots (h : Cx φ T I R z nS nL n) : T 0 = (5, 0) ∧ R 0 3 = some (φ 2) ∧ T 2 = (101, 16) ∧ I 0 4 = Int32.ofNat nL ∧ (∀ j, j < 16 → R 2 j = some (φ (6 * j + 19))) ∧ (∀ j, j < 17 → R (6 * j + 19) 13 = some (φ (6 * j + 20)) ∧ T (6 * j + 20) = (100, 4) ∧ T (6 * j + 19) = (2, 0)) ∧ (∀ j, nL ≤ j → j < 16 → LotB (I (6 * j + 19)) (I (6 * j + 20)) (I (6 * j + 21)) (I (6 * j + 22)) (I (6 * j + 23))) := by
  obtain ⟨hj, hl, hx, ⟨hm22, hm23⟩, hr⟩ := h; obtain ⟨hx0, hx1, hx2, hx3, hx4, hx5, hx6, hx7, hx8, hx9, hx10, hx11, hx12, hx13, hx14, hx15, hx16, hx17, hx18, hx19, hx20, hx21, hx22, hx23, hx24, hx25, hx26, hx27⟩ := hx; obtain ⟨⟨g1, g2⟩, r1, r2, r3, r4, r5, r6, r7⟩ := hr
  exact ⟨hx0, hx2, hx7, g2, hx14, fun j hj => ⟨hx16 j hj, hx19 j hj, hx15 j hj⟩, r2⟩
theorem x_sortC (h : Cx φ T I R (mZ τ) nS nL n) (iL : i < nL) : ∀ d g fl, g + d = 3 → d + 1 ≤ fl → l_X4_sort_41 fl (φ 0) (some (φ (6 * i + 19))) (Int32.ofNat (cN (dgF I i) g)) (Int32.ofNat g) (pt φ T I R τ) = if 16 < nL + cN (dgF I i) 3 then b_X4_sort_81 (φ 0) (some (φ (6 * i + 19))) (Int32.ofNat (cN (dgF I i) 3)) 0 (pt φ T I R τ) else b_X4_sort_81 (φ 0) (some (φ (6 * i + 19))) (Int32.ofNat (cN (dgF I i) 3)) 1 (pt φ T I R τ) := by
  have hj := h.hj
  have hN := h.m.2.2.2.2.1
  obtain ⟨t0, r3, t2, m4, rl, rw', bl'⟩ := h.lots
  obtain ⟨ra, tb, ta⟩ := rw' i (by omega)
  have c3 := cN_le (dgF I i) 3
  intro d
  induction d with
  | zero =>
    intro g fl h1 h2
    obtain ⟨fl', rfl⟩ : ∃ x, fl = x + 1 := ⟨fl - 1, by omega⟩
    have g3 : g = 3 := by omega
    subst g3
    rw [l_X4_sort_41, itr_succ, b_X4_sort_41, if_pos (show (3 : Int32) ≤ Int32.ofNat 3 by decide), gI_pt hj (by rw [t0]), m4, nm, ← Int32.ofNat_add]
    by_cases c : 16 < nL + cN (dgF I i) 3
    · have c' : (16 : Int32) < Int32.ofNat (nL + cN (dgF I i) 3) := (kN_lt (a := 16) (by omega) (by omega)).mpr c
      rw [if_pos c, if_pos c']
    · have c' : ¬ (16 : Int32) < Int32.ofNat (nL + cN (dgF I i) 3) := by rw [show (16 : Int32) = Int32.ofNat 16 from rfl, kN_lt (by omega) (by omega)]; exact c
      rw [if_neg c, if_neg c']
  | succ d ih =>
    intro g fl h1 h2
    obtain ⟨fl', rfl⟩ : ∃ x, fl = x + 1 := ⟨fl - 1, by omega⟩
    have c1 : ¬ (3 : Int32) ≤ Int32.ofNat g := by rw [show (3 : Int32) = Int32.ofNat 3 from rfl, kN_le (by omega) (by omega)]; omega
    have D := x_dryG (J := I) (R := R) (τ := τ) hj ta ra tb (show g < 3 by omega)
    rw [l_X4_sort_41, itr_succ, b_X4_sort_41, if_neg c1, ob_pt hj (by rw [ta]), D, cl1_s]
    have IH := ih (g + 1) fl' (by omega) (by omega)
    rw [cN] at IH
    by_cases c : dgF I i g ≤ 0
    · rw [if_pos c] at IH
      rw [if_pos (show dG (bq (I (6 * i + 19) 5)) (I (6 * i + 20)) g ≤ 0 from c), b_X4_sort_59, nm, kN_s]; exact IH
    · rw [if_neg c] at IH
      rw [if_neg (show ¬ dG (bq (I (6 * i + 19) 5)) (I (6 * i + 20)) g ≤ 0 from c), nm, b_X4_sort_59, nm, kN_s, kN_s]; exact IH
theorem x_sortM (h : Cx φ T I R (mZ τ) nS nL n) (iL : i < nL) (h16 : nL + cN (dgF I i) 3 ≤ 16) : ∀ d g (J : Nat → Nat → Int32) fl, g + d = 3 → d + 1 ≤ fl → XI I J i nL (dgF I i) g → ∃ J3 J', l_X4_sort_87 fl (φ 0) (some (φ (6 * i + 19))) p (Int32.ofNat g) (pt φ T J R τ) = some (p, pt φ T J' R τ) ∧ XI I J3 i nL (dgF I i) 3 ∧ (∀ v, v ≠ 6 * i + 19 → v ≠ 6 * i + 20 → J' v = J3 v) ∧ J' (6 * i + 19) 0 = 3 ∧ J' (6 * i + 19) 1 = 0 ∧ (∀ k, k ≠ 0 → k ≠ 1 → J' (6 * i + 19) k = J3 (6 * i + 19) k) ∧ (∀ k, k < 4 → J' (6 * i + 20) k = 0) := by
  have hj := h.hj
  have hN := h.m.2.2.2.2.1
  obtain ⟨t0, r3, t2, m4, rl, rw', bl'⟩ := h.lots
  obtain ⟨ra, tb, ta⟩ := rw' i (by omega)
  obtain ⟨-, ⟨b10, b11, -⟩, -⟩ := h.lr iL
  intro d
  induction d with
  | zero =>
    intro g J fl h1 h2 hX
    obtain ⟨fl', rfl⟩ : ∃ x, fl = x + 1 := ⟨fl - 1, by omega⟩
    have g3 : g = 3 := by omega
    subst g3
    obtain ⟨J', V1, V2, V3, V4, V5, V6⟩ := x_vanish (J := J) (τ := τ) h (show i < 17 by omega)
    refine ⟨J, J', ?_, hX, V2, V3, V4, V5, V6⟩
    rw [l_X4_sort_87, itr_succ, b_X4_sort_87, if_pos (show (3 : Int32) ≤ Int32.ofNat 3 by decide), ob_pt hj (by rw [ta]), V1, cl1_s]
  | succ d ih =>
    intro g J fl h1 h2 hX
    obtain ⟨fl', rfl⟩ : ∃ x, fl = x + 1 := ⟨fl - 1, by omega⟩
    have c1 : ¬ (3 : Int32) ≤ Int32.ofNat g := by rw [show (3 : Int32) = Int32.ofNat 3 from rfl, kN_le (by omega) (by omega)]; omega
    obtain ⟨X1, X2, X3, X4⟩ := id hX
    have Ja : J (6 * i + 19) = I (6 * i + 19) := X3 _ (by omega) (fun g' _ _ => ⟨by omega, by omega⟩)
    have Jb : J (6 * i + 20) = I (6 * i + 20) := X3 _ (by omega) (fun g' _ _ => ⟨by omega, by omega⟩)
    have D := x_dryG (J := J) (R := R) (τ := τ) hj ta ra tb (show g < 3 by omega)
    rw [Ja, Jb] at D
    rw [l_X4_sort_87, itr_succ, b_X4_sort_87, if_neg c1, ob_pt hj (by rw [ta]), D, cl1_s]
    by_cases c : dgF I i g ≤ 0
    · obtain ⟨J3, J', e1, e2⟩ := ih (g + 1) J fl' (by omega) (by omega) ⟨by rw [cN, if_pos c]; exact X1, X2, fun v v0 hv => X3 v v0 (fun g' hg' hp => hv g' (by omega) hp), fun g' hg' hp => X4 g' (by
        rcases (show g' < g ∨ g' = g by omega) with y | y
        · exact y
        · rw [y] at hp; exact absurd c hp) hp⟩
      refine ⟨J3, J', ?_, e2⟩
      rw [if_pos (show dG (bq (I (6 * i + 19) 5)) (I (6 * i + 20)) g ≤ 0 from c), b_X4_sort_112, nm, kN_s]; exact e1
    · have lt := cN_lt (g' := 3) (show g < 3 by omega) c
      obtain ⟨j, hjd⟩ : ∃ j, j = nL + cN (dgF I i) g := ⟨_, rfl⟩
      rw [← hjd] at X1
      have j16 : j < 16 := by omega
      obtain ⟨rq, tw, tq⟩ := rw' j (by omega)
      have NLt := x_newL (J := J) (R := R) (τ := τ) (q := 6 * j + 19) hj t0 r3 t2 X1 j16 (rl j j16)
      obtain ⟨J1, hJ1⟩ : ∃ J1, J1 = up2 J 0 4 (Int32.ofNat (j + 1)) := ⟨_, rfl⟩
      rw [← hJ1] at NLt
      have f1 : ∀ v, v ≠ 0 → J1 v = J v := fun v hv => by rw [hJ1, up2_row hv]
      have Ja1 : J1 (6 * i + 19) = I (6 * i + 19) := by rw [f1 _ (by omega), Ja]
      have Jb1 : J1 (6 * i + 20) = I (6 * i + 20) := by rw [f1 _ (by omega), Jb]
      obtain ⟨J2, B1, B2, B3, B4, B5⟩ := x_become (J := J1) (R := R) (τ := τ) hj ta ra tb tq rq tw (by omega) (by omega) (by omega) (by omega) (by omega) (show g < 3 by omega) (by rw [Ja1]; exact b10) (by rw [Ja1]; exact b11)
      rw [Ja1, Jb1] at B3 B5
      have old : ∀ g', g' < g → ¬ dgF I i g' ≤ 0 → nL + cN (dgF I i) g' < j := fun g' hg' hp => by
        have := cN_lt (g' := g) hg' hp; omega
      have J12 : J2 (6 * j + 19) 12 = 0 := by
        rw [B4 12 (by omega), f1 _ (by omega), X3 _ (by omega) (fun g' hg' hp => by have := old g' hg' hp; exact ⟨by omega, by omega⟩)]
        have := (bl' j (by omega) j16).1 12 (by decide)
        rw [this]; rfl
      obtain ⟨J3, J', e1, e2⟩ := ih (g + 1) J2 fl' (by omega) (by omega) ⟨by rw [cN, if_neg c, B2 0 (by omega) (by omega), hJ1, up2_at, hjd]; rfl, fun k hk => by rw [B2 0 (by omega) (by omega), hJ1, up2_k hk]; exact X2 k hk, fun v v0 hv => by
          have hg := hv g (by omega) c
          rw [← hjd] at hg
          rw [B2 v hg.1 hg.2, f1 v v0]; exact X3 v v0 (fun g' hg' hp => hv g' (by omega) hp), fun g' hg' hp => by
          rcases (show g' < g ∨ g' = g by omega) with y | y
          · have lj := old g' y hp
            obtain ⟨y1, y2, y3⟩ := X4 g' y hp
            rw [B2 (6 * (nL + cN (dgF I i) g') + 19) (by omega) (by omega), B2 (6 * (nL + cN (dgF I i) g') + 20) (by omega) (by omega), f1 _ (by omega), f1 _ (by omega)]
            exact ⟨y1, y2, y3⟩
          · subst y
            rw [← hjd]
            exact ⟨B3, J12, B5⟩⟩
      refine ⟨J3, J', ?_, e2⟩
      rw [if_neg (show ¬ dG (bq (I (6 * i + 19) 5)) (I (6 * i + 20)) g ≤ 0 from c), ob_pt hj (by rw [t0]), NLt, cl1_s, ob_pt hj (by rw [tq]), B1, cl1_s, b_X4_sort_112, nm, kN_s]; exact e1
theorem x_free (h : Cx φ T I R z nS nL n) (hi : i < 17) : (I (6 * i + 19) 0 = 2 ∧ I (6 * i + 22) 0 ≤ 0 ∧ f_X1_isFreeMade (φ (6 * i + 19)) (pt φ T I R τ) = some (1, pt φ T I R τ)) ∨ (¬ (I (6 * i + 19) 0 = 2 ∧ I (6 * i + 22) 0 ≤ 0) ∧ f_X1_isFreeMade (φ (6 * i + 19)) (pt φ T I R τ) = some (0, pt φ T I R τ)) := by
  have hj := h.hj
  obtain ⟨T4, R15, T3⟩ : T (6 * i + 19) = (2, 0) ∧ R (6 * i + 19) 15 = some (φ (6 * i + 22)) ∧ T (6 * i + 22) = (1, 0) := by
    obtain ⟨hj, hl, hx, ⟨hm22, hm23⟩, hr⟩ := h; obtain ⟨hx0, hx1, hx2, hx3, hx4, hx5, hx6, hx7, hx8, hx9, hx10, hx11, hx12, hx13, hx14, hx15, hx16, hx17, hx18, hx19, hx20, hx21, hx22, hx23, hx24, hx25, hx26, hx27⟩ := hx; obtain ⟨⟨g1, g2⟩, r1, r2, r3, r4, r5, r6, r7⟩ := hr
    exact ⟨hx15 i hi, hx18 i hi, hx21 i hi⟩
  have O := x_isOpen (I := I) (R := R) (τ := τ) hj T3
  by_cases c1 : I (6 * i + 19) 0 = 2
  · by_cases c2 : I (6 * i + 22) 0 ≤ 0
    · rw [if_pos c2] at O
      refine Or.inl ⟨c1, c2, ?_⟩
      simp (config := {decide := true}) only [b_X1_isFreeMade_23, b_X1_isFreeMade_22, b_X1_isFreeMade_0, f_X1_isFreeMade, O, gI_pt hj, gR_pt hj, ob_pt hj, pI_pt hj, pB_pt hj, pR_pt hj, aI_pt hj, aR_pt hj, wI_pt hj, aL_pt hj, cl1_s, cl1_n, cl1_i, nul_n, nul_s, nm, dv2, dv3, dv4, dv5, dv8, dv10, dv20, dv40, bo, mI_pt hj, mT_pt hj, mZ_pt, tn0, tn1, tn2, tn3, tn4, tn5, tn6, T4, R15, T3, c1, ii0, ii1, ii2, ii3, ii4, if_true, if_false, ne_eq, not_false_eq_true, not_true_eq_false, true_and, and_true, false_and, and_false, and_self, true_or, or_true, false_or, or_false, or_self, Nat.reduceAdd, Nat.reduceLT, Nat.reduceLeDiff, Nat.succ_ne_zero, reduceIte, reduceCtorEq]
    · rw [if_neg c2] at O
      refine Or.inr ⟨fun y => c2 y.2, ?_⟩
      simp (config := {decide := true}) only [b_X1_isFreeMade_23, b_X1_isFreeMade_22, b_X1_isFreeMade_0, f_X1_isFreeMade, O, gI_pt hj, gR_pt hj, ob_pt hj, pI_pt hj, pB_pt hj, pR_pt hj, aI_pt hj, aR_pt hj, wI_pt hj, aL_pt hj, cl1_s, cl1_n, cl1_i, nul_n, nul_s, nm, dv2, dv3, dv4, dv5, dv8, dv10, dv20, dv40, bo, mI_pt hj, mT_pt hj, mZ_pt, tn0, tn1, tn2, tn3, tn4, tn5, tn6, T4, R15, T3, c1, ii0, ii1, ii2, ii3, ii4, if_true, if_false, ne_eq, not_false_eq_true, not_true_eq_false, true_and, and_true, false_and, and_false, and_self, true_or, or_true, false_or, or_false, or_self, Nat.reduceAdd, Nat.reduceLT, Nat.reduceLeDiff, Nat.succ_ne_zero, reduceIte, reduceCtorEq]
  · refine Or.inr ⟨fun y => c1 y.1, ?_⟩
    simp (config := {decide := true}) only [b_X1_isFreeMade_23, b_X1_isFreeMade_22, b_X1_isFreeMade_0, f_X1_isFreeMade, gI_pt hj, gR_pt hj, ob_pt hj, pI_pt hj, pB_pt hj, pR_pt hj, aI_pt hj, aR_pt hj, wI_pt hj, aL_pt hj, cl1_s, cl1_n, cl1_i, nul_n, nul_s, nm, dv2, dv3, dv4, dv5, dv8, dv10, dv20, dv40, bo, mI_pt hj, mT_pt hj, mZ_pt, tn0, tn1, tn2, tn3, tn4, tn5, tn6, T4, c1, ii0, ii1, ii2, ii3, ii4, if_true, if_false, ne_eq, not_false_eq_true, not_true_eq_false, true_and, and_true, false_and, and_false, and_self, true_or, or_true, false_or, or_false, or_self, Nat.reduceAdd, Nat.reduceLT, Nat.reduceLeDiff, Nat.succ_ne_zero, reduceIte, reduceCtorEq]
theorem bq_b {v : Int32} (h : 0 ≤ v.toInt) : 0 ≤ (bq v).toInt ∧ (bq v).toInt ≤ 10 := by
  have z : (10 : Int32).toInt = 10 := rfl
  unfold bq
  by_cases c : v < 10
  · rw [if_pos c]; have := ltT c; omega
  · rw [if_neg c]; omega
theorem sh_b {b w : Int32} (hb : 0 ≤ b.toInt ∧ b.toInt ≤ 10) (hw : 0 ≤ w.toInt ∧ w.toInt ≤ 5760) : (∀ g, g < 3 → 0 ≤ (shV b w g).toInt ∧ (shV b w g).toInt ≤ w.toInt) ∧ (shV b w 0).toInt + (shV b w 1).toInt + (shV b w 2).toInt = w.toInt := by
  have m1 : 0 ≤ w.toInt * b.toInt := Int.mul_nonneg hw.1 hb.1
  have m2 : w.toInt * b.toInt ≤ w.toInt * 10 := Int.mul_le_mul_of_nonneg_left hb.2 hw.1
  have e0 : (w * b).toInt = w.toInt * b.toInt := tMul (by omega) (by omega)
  have e4 : (w * b / 40).toInt = w.toInt * b.toInt / 40 := by rw [divP (z := 40) 40 rfl (by decide) (by omega), e0]
  have e2 : (w * b / 20).toInt = w.toInt * b.toInt / 20 := by rw [divP (z := 20) 20 rfl (by decide) (by omega), e0]
  obtain ⟨P, hP⟩ : ∃ P, P = w.toInt * b.toInt := ⟨_, rfl⟩
  rw [← hP] at m1 m2 e4 e2
  have s2 : (shV b w 2).toInt = P / 40 := e4
  have s1 : (shV b w 1).toInt = P / 20 := e2
  have s0 : (shV b w 0).toInt = w.toInt - P / 20 - P / 40 := by
    show (w - w * b / 20 - w * b / 40).toInt = _
    have e5 : (w - w * b / 20).toInt = w.toInt - P / 20 := by rw [tSub (by omega) (by omega), e2]
    rw [tSub (by omega) (by omega), e5, e4]
  refine ⟨fun g hg => ?_, by omega⟩
  rcases lt3 hg with rfl | rfl | rfl <;> omega
theorem dG_b {b : Int32} (hb : 0 ≤ b.toInt ∧ b.toInt ≤ 10) (h0 : 0 ≤ (u 0).toInt) (h1 : 0 ≤ (u 1).toInt) (h2 : 0 ≤ (u 2).toInt) (h3 : 0 ≤ (u 3).toInt) (hs : (u 0).toInt + (u 1).toInt + (u 2).toInt + (u 3).toInt ≤ 5760) : (∀ g, g < 3 → (dG b u g).toInt = (shV b (u 0) g).toInt + (shV b (u 1) g).toInt + (shV b (u 2) g).toInt + (shV b (u 3) g).toInt ∧ 0 ≤ (shV b (u 0) g).toInt ∧ 0 ≤ (shV b (u 1) g).toInt ∧ 0 ≤ (shV b (u 2) g).toInt ∧ 0 ≤ (shV b (u 3) g).toInt) ∧ (dG b u 0).toInt + (dG b u 1).toInt + (dG b u 2).toInt = (u 0).toInt + (u 1).toInt + (u 2).toInt + (u 3).toInt := by
  obtain ⟨a0, b0⟩ := sh_b (w := u 0) hb ⟨h0, by omega⟩
  obtain ⟨a1, b1⟩ := sh_b (w := u 1) hb ⟨h1, by omega⟩
  obtain ⟨a2, b2⟩ := sh_b (w := u 2) hb ⟨h2, by omega⟩
  obtain ⟨a3, b3⟩ := sh_b (w := u 3) hb ⟨h3, by omega⟩
  have key : ∀ g, g < 3 → (dG b u g).toInt = (shV b (u 0) g).toInt + (shV b (u 1) g).toInt + (shV b (u 2) g).toInt + (shV b (u 3) g).toInt ∧ 0 ≤ (shV b (u 0) g).toInt ∧ 0 ≤ (shV b (u 1) g).toInt ∧ 0 ≤ (shV b (u 2) g).toInt ∧ 0 ≤ (shV b (u 3) g).toInt := by
    intro g hg
    have y0 := a0 g hg
    have y1 := a1 g hg
    have y2 := a2 g hg
    have y3 := a3 g hg
    have e1 : (shV b (u 0) g + shV b (u 1) g).toInt = (shV b (u 0) g).toInt + (shV b (u 1) g).toInt := tAdd (by omega) (by omega)
    have e2 : (shV b (u 0) g + shV b (u 1) g + shV b (u 2) g).toInt = (shV b (u 0) g).toInt + (shV b (u 1) g).toInt + (shV b (u 2) g).toInt := by rw [tAdd (by omega) (by omega), e1]
    refine ⟨?_, y0.1, y1.1, y2.1, y3.1⟩
    unfold dG
    rw [tAdd (by omega) (by omega), e2]
  refine ⟨key, ?_⟩
  have k0 := (key 0 (by decide)).1
  have k1 := (key 1 (by decide)).1
  have k2 := (key 2 (by decide)).1
  omega
abbrev sortOK (I : Nat → Nat → Int32) (i : Nat) : Prop := (I (6 * i + 19) 0 = 2 ∧ I (6 * i + 22) 0 ≤ 0) ∧ I (6 * i + 19) 9 = -1 ∧ I (6 * i + 19) 12 = 0
theorem x_sortG (h : Cx φ T I R (mZ τ) nS nL n) (hp : InN p nL) (hi : p.toNatClampNeg = i) (iL : i < nL) (hc : sortOK I i) : f_X4_sort (φ 0) p (pt φ T I R τ) = if 16 < nL + cN (dgF I i) 3 then b_X4_sort_81 (φ 0) (some (φ (6 * i + 19))) (Int32.ofNat (cN (dgF I i) 3)) 0 (pt φ T I R τ) else b_X4_sort_81 (φ 0) (some (φ (6 * i + 19))) (Int32.ofNat (cN (dgF I i) 3)) 1 (pt φ T I R τ) := by
  have hj := h.hj
  have hN := h.m.2.2.2.2.1
  have hx0 := h.m.2.2.2.2.2.2.2
  obtain ⟨⟨c1, c2⟩, c3, c4⟩ := hc
  have t4 := h.t4 (show i < 17 by omega)
  have XF : f_X1_isFreeMade (φ (6 * i + 19)) (pt φ T I R τ) = some (1, pt φ T I R τ) := by
    rcases x_free (τ := τ) h (show i < 17 by omega) with ⟨-, -, y⟩ | ⟨y, -⟩
    · exact y
    · exact absurd ⟨c1, c2⟩ y
  have C := x_sortC h iL 3 0 40 (by omega) (by omega)
  rw [f_X4_sort, b_X4_sort_0, ob_pt hj (by rw [hx0]), x_lotAt h hp hi, cl1_s, ob_pt hj (by rw [t4]), XF, cl1_s, if_neg (by decide), gI_pt hj (by rw [t4]), if_pos c3, gI_pt hj (by rw [t4]), if_pos c4, b_X4_sort_33, x_st1, cl1_s]
  exact C
theorem sumZ_add {F : Nat → Int} {f : Nat → Int32} (h0 : ∀ g, g < 3 → 0 ≤ (f g).toInt) (hF : ∀ g, g < 3 → ¬ f g ≤ 0 → F (nL + cN f g) = (f g).toInt) : ∀ G, G ≤ 3 → sumZ F (nL + cN f G) = sumZ F nL + sumZ (fun g => (f g).toInt) G := by
  have z0 : (0 : Int32).toInt = 0 := rfl
  intro G
  induction G with
  | zero => intro _; simp [cN, sumZ]
  | succ G ih =>
    intro hG
    have IH := ih (by omega)
    rw [cN]
    by_cases c : f G ≤ 0
    · have e := leT c
      have e2 := h0 G (by omega)
      rw [if_pos c, IH]
      show _ = _ + (sumZ (fun g => (f g).toInt) G + (f G).toInt)
      omega
    · rw [if_neg c, show nL + (cN f G + 1) = nL + cN f G + 1 by omega]
      show sumZ F (nL + cN f G) + F (nL + cN f G) = _ + (sumZ (fun g => (f g).toInt) G + (f G).toInt)
      rw [IH, hF G (by omega) c]; omega
theorem shV_0 {b : Int32} (hg : g < 3) : shV b 0 g = 0 := by
  rcases lt3 hg with rfl | rfl | rfl <;> simp [shV]
/-- a lot of one grade -/
theorem LotR.grade {nS : Nat} {x xu xn xa xp x' xu' xn' xa' xp' : Nat → Int32} (h : LotR nS x xu xn xa xp n) (hx0 : x 0 = 2) (s5 : (x 1).toInt ≤ 5760) (hg : g < 3) (hp : ¬ dG (bq (x 5)) xu g ≤ 0)
    (X1 : ∀ k, k ≤ 11 → x' k = xG x xu g k) (X2 : x' 12 = 0) (X3 : ∀ k, k < 4 → xu' k = shV (bq (x 5)) (xu k) g) (A0 : xa' 0 = 0) (P0 : ∀ k, k < 4 → xp' k = 0) : LotR nS x' xu' xn' xa' xp' n := by
  obtain ⟨q1, ⟨q2a, q2b, -⟩, ⟨q3a, q3b, q3c⟩, q4, q5, q6, ⟨q7a, q7b, q7c, q7d, q7e⟩, q8, q9, q10, q11⟩ := h
  have z0 : (0 : Int32).toInt = 0 := rfl
  have bb := bq_b (v := x 5) q7b.1
  have u0 := q3a 0 (by omega); have u1 := q3a 1 (by omega); have u2 := q3a 2 (by omega); have u3 := q3a 3 (by omega)
  obtain ⟨k1, -⟩ := dG_b (b := bq (x 5)) (u := xu) bb u0 u1 u2 u3 (by omega)
  obtain ⟨k2, k3, k4, k5, k6⟩ := k1 g hg
  have ne3 : x 0 ≠ 3 := by rw [hx0]; decide
  have f0 : (x 2).toInt ≤ 5760 := by have := q5.2 ne3; omega
  have sf := (sh_b (w := x 2) bb ⟨q5.1, f0⟩).1 g hg
  have pos : 0 < (dG (bq (x 5)) xu g).toInt := by have := ltT (Int32.not_le.mp hp); omega
  have mb := mn_b (a := shV (bq (x 5)) (x 2) g) (b := dG (bq (x 5)) xu g)
  have e0 : x' 0 = 2 := X1 0 (by decide)
  have e1 : x' 1 = dG (bq (x 5)) xu g := X1 1 (by decide)
  have e2 : x' 2 = mn (shV (bq (x 5)) (x 2) g) (dG (bq (x 5)) xu g) := X1 2 (by decide)
  have e3 : x' 3 = 0 := X1 3 (by decide)
  have e4 : x' 4 = x 4 := X1 4 (by decide)
  have e5 : x' 5 = x 5 := X1 5 (by decide)
  have e6 : x' 6 = x 6 := X1 6 (by decide)
  have e7 : x' 7 = x 7 := X1 7 (by decide)
  have e8 : x' 8 = x 8 := X1 8 (by decide)
  have e9 : x' 9 = Int32.ofNat g := X1 9 (by decide)
  have e10 : x' 10 = x 10 := X1 10 (by decide)
  have e11 : x' 11 = x 11 := X1 11 (by decide)
  unfold LotR
  rw [e0, e1, e2, e3, e4, e5, e6, e7, e8, e9, e10, e11, X2, A0, X3 0 (by omega), X3 1 (by omega), X3 2 (by omega), X3 3 (by omega)]
  refine ⟨by simp, ⟨q2a, q2b, Or.inl rfl⟩, ⟨fun k hk => ?_, k2, fun k y1 y2 => ?_⟩, ⟨fun q => absurd q (by decide), fun _ => pos⟩, ⟨by omega, fun _ => by omega⟩, ⟨by decide, by decide⟩, ⟨q7a, q7b, q7c, q7d, q7e⟩, ⟨Or.inr (by rw [kN_t (by omega)]; omega), fun q => by rcases q with q | q <;> exact absurd q (by decide)⟩, fun q => absurd rfl q, ⟨by decide, by decide, fun q => absurd rfl q⟩, fun k hk => ?_⟩
  · rw [X3 k hk]
    rcases (show k = 0 ∨ k = 1 ∨ k = 2 ∨ k = 3 by omega) with rfl | rfl | rfl | rfl <;> assumption
  · rw [X3 k y2, q3c k y1 y2, shV_0 hg]
  · rw [P0 k hk]; exact ⟨by decide, by decide, fun _ => rfl⟩
theorem x_sortF (h : Cx φ T I R (mZ τ) nS nL n) (iL : i < nL) (h13 : nL ≤ 13) (s0 : I (6 * i + 19) 0 = 2) (a0 : I (6 * i + 22) 0 ≤ 0) (g9 : (I (6 * i + 19) 9).toInt < 0) (m0 : I (6 * i + 19) 12 = 0) : ∃ v J' nL', f_X4_sort (φ 0) (Int32.ofNat i) (pt φ T I R τ) = some (v, pt φ T J' R τ) ∧ ¬ v ≤ 0 ∧ J' (6 * i + 19) 0 = 3 ∧ nL ≤ nL' ∧ Cx φ T J' R (mZ τ) nS nL' (n + 1) ∧ (∀ k, k ≠ 4 → J' 0 k = I 0 k) ∧ J' 10 = I 10 := by
  have hN := h.m.2.2.2.2.1
  have hS4 := h.m.2.2.2.2.2.1
  have hj := h.hj
  obtain ⟨q1, q2, ⟨q3a, q3b, q3c⟩, q4, q5, q6, q7, q8, q9, q10, q11⟩ := h.lr iL
  have c9 : I (6 * i + 19) 9 = -1 := by
    rcases q8.1 with q | q
    · exact q
    · omega
  have c3 := cN_le (dgF I i) 3
  have h16 : nL + cN (dgF I i) 3 ≤ 16 := by omega
  have dr := h.dry iL
  have G := x_sortG h (InN.of iL (by omega)) (tnK (by omega)) iL ⟨⟨s0, a0⟩, c9, m0⟩
  have X0 : XI I I i nL (dgF I i) 0 := ⟨by rw [cN]; exact h.2.2.2.2.1.2, fun _ _ => rfl, fun _ _ _ => rfl, fun g' hg' => by omega⟩
  obtain ⟨J3, J', M1, ⟨x4, x0, xo, xn⟩, M2, M3, M4, M5, M6⟩ := x_sortM (p := Int32.ofNat (cN (dgF I i) 3)) (τ := τ) h iL h16 3 0 I 40 (by omega) (by omega) X0
  have z0 : (0 : Int32).toInt = 0 := rfl
  have ne3 : I (6 * i + 19) 0 ≠ 3 := by rw [s0]; decide
  have bb := bq_b (v := I (6 * i + 19) 5) q7.2.1.1
  have u0 := q3a 0 (by omega); have u1 := q3a 1 (by omega); have u2 := q3a 2 (by omega); have u3 := q3a 3 (by omega)
  obtain ⟨k1, k2⟩ := dG_b (b := bq (I (6 * i + 19) 5)) (u := I (6 * i + 20)) bb u0 u1 u2 u3 (by omega)
  have gn : ∀ g, g < 3 → 0 ≤ (dgF I i g).toInt := fun g hg => by
    obtain ⟨y1, y2, y3, y4, y5⟩ := k1 g hg
    show 0 ≤ (dG _ _ g).toInt; omega
  have dpos := q4.2 ne3
  -- one grade at least has dry
  have c1 : 0 < cN (dgF I i) 3 := by
    rcases Nat.eq_zero_or_pos (cN (dgF I i) 3) with e | e
    · exfalso
      have all : ∀ g, g < 3 → dgF I i g ≤ 0 := fun g hg => by
        by_cases c : dgF I i g ≤ 0
        · exact c
        · have := cN_lt (g := g) (g' := 3) hg c; omega
      have y0 := leT (all 0 (by omega)); have y1 := leT (all 1 (by omega)); have y2 := leT (all 2 (by omega))
      have k2' : (dgF I i 0).toInt + (dgF I i 1).toInt + (dgF I i 2).toInt = (I (6 * i + 20) 0).toInt + (I (6 * i + 20) 1).toInt + (I (6 * i + 20) 2).toInt + (I (6 * i + 20) 3).toInt := k2
      omega
    · exact e
  have jo : ∀ v, v ≠ 0 → v ≠ 6 * i + 19 → v ≠ 6 * i + 20 → (∀ g', g' < 3 → ¬ dgF I i g' ≤ 0 → v ≠ 6 * (nL + cN (dgF I i) g') + 19 ∧ v ≠ 6 * (nL + cN (dgF I i) g') + 20) → J' v = I v := fun v h1 h2 h3 h4 => by rw [M2 v h2 h3, xo v h1 h4]
  have cl : ∀ g, cN (dgF I i) g ≤ g := cN_le _
  -- rows of no lot's own two
  have far : ∀ v, v ≠ 0 → (v < 19 ∨ 115 ≤ v ∨ (v - 19) % 6 ≠ 0 ∧ (v - 19) % 6 ≠ 1) → J' v = I v := fun v h1 h2 => jo v h1 (by omega) (by omega) (fun g' hg _ => by have := cl g'; omega)
  have lo : ∀ j, j < nL → j ≠ i → J' (6 * j + 19) = I (6 * j + 19) ∧ J' (6 * j + 20) = I (6 * j + 20) := fun j hj hne => ⟨jo _ (by omega) (by omega) (by omega) (fun g' hg _ => by omega), jo _ (by omega) (by omega) (by omega) (fun g' hg _ => by omega)⟩
  have hi : ∀ j, nL + cN (dgF I i) 3 ≤ j → j < 16 → J' (6 * j + 19) = I (6 * j + 19) ∧ J' (6 * j + 20) = I (6 * j + 20) := fun j h1 h2 => by
    have hg : ∀ g', g' < 3 → ¬ dgF I i g' ≤ 0 → cN (dgF I i) g' < cN (dgF I i) 3 := fun g' y1 y2 => cN_lt y1 y2
    exact ⟨jo _ (by omega) (by omega) (by omega) (fun g' y1 y2 => by have := hg g' y1 y2; omega), jo _ (by omega) (by omega) (by omega) (fun g' y1 y2 => by have := hg g' y1 y2; omega)⟩
  have mk : ∀ k, k ≠ 0 → k ≠ 1 → J' (6 * i + 19) k = I (6 * i + 19) k := fun k k0 k1 => by rw [M5 k k0 k1, xo _ (by omega) (fun g' hg _ => by omega)]
  have sI : sumZ (fun j => (J' (6 * j + 19) 1).toInt) nL = dryS I nL - (I (6 * i + 19) 1).toInt := by
    unfold dryS
    refine sumZ_upd iL (fun j hj hne => ?_) ?_
    · show (J' (6 * j + 19) 1).toInt = _
      rw [(lo j hj hne).1]
    · show (J' (6 * i + 19) 1).toInt = _
      rw [M4, z0]; omega
  have ds : dryS J' (nL + cN (dgF I i) 3) = dryS I nL := by
    have A := sumZ_add (nL := nL) (F := fun j => (J' (6 * j + 19) 1).toInt) (f := dgF I i) gn (fun g hg hp => by
      obtain ⟨y1, -, -⟩ := xn g hg hp
      show (J' (6 * (nL + cN (dgF I i) g) + 19) 1).toInt = _
      rw [M2 _ (by omega) (by omega), y1 1 (by decide)]; rfl) 3 (Nat.le_refl _)
    have k2' : (dgF I i 0).toInt + (dgF I i 1).toInt + (dgF I i 2).toInt = (I (6 * i + 20) 0).toInt + (I (6 * i + 20) 1).toInt + (I (6 * i + 20) 2).toInt + (I (6 * i + 20) 3).toInt := k2
    have B : sumZ (fun g => (dgF I i g).toInt) 3 = (dgF I i 0).toInt + (dgF I i 1).toInt + (dgF I i 2).toInt := by simp [sumZ]
    show sumZ (fun j => (J' (6 * j + 19) 1).toInt) (nL + cN (dgF I i) 3) = _
    rw [A, sI, B]; omega
  have j0 : ∀ k, k ≠ 4 → J' 0 k = I 0 k := fun k hk => by rw [M2 0 (by omega) (by omega)]; exact x0 k hk
  refine ⟨Int32.ofNat (cN (dgF I i) 3), J', nL + cN (dgF I i) 3, ?_, ?_, M3, Nat.le_add_right _ _, ⟨h.1, h.2.1, h.2.2.1, ⟨hS4, h16⟩, ⟨?_, ?_⟩, fun j hj => ?_, fun j y1 y2 => ?_, fun j hj => ?_, fun j y1 y2 => ?_, fun j hj => ?_, ?_, ?_⟩, j0, far 10 (by omega) (by omega)⟩
  · rw [G, if_neg (by omega), b_X4_sort_81, x_st1, cl1_s]
    exact M1
  · rw [show (0 : Int32) = Int32.ofNat 0 from rfl, kN_le (by omega) (by omega)]; omega
  · rw [j0 1 (by decide)]; exact h.2.2.2.2.1.1
  · rw [M2 0 (by omega) (by omega)]; exact x4
  · by_cases c : j < nL
    · by_cases e : j = i
      · subst e
        rw [far (6 * j + 21) (by omega) (by omega), far (6 * j + 22) (by omega) (by omega), far (6 * j + 23) (by omega) (by omega)]
        have L0 := h.lr iL
        refine LotR.mono (Nat.le_succ n) ?_
        unfold LotR
        have a00 : I (6 * j + 22) 0 = 0 := by
          have y1 := leT a0
          exact Int32.toInt_inj.mp (by rw [z0]; omega)
        rw [M3, M4, mk 2 (by decide) (by decide), mk 3 (by decide) (by decide), mk 4 (by decide) (by decide), mk 5 (by decide) (by decide), mk 6 (by decide) (by decide), mk 7 (by decide) (by decide), mk 8 (by decide) (by decide), mk 9 (by decide) (by decide), mk 10 (by decide) (by decide), mk 11 (by decide) (by decide), mk 12 (by decide) (by decide), M6 0 (by omega), M6 1 (by omega), M6 2 (by omega), M6 3 (by omega)]
        refine ⟨by simp, q2, ⟨fun k hk => by rw [M6 k hk]; decide, rfl, fun k _ hk => M6 k hk⟩, ⟨fun _ => rfl, fun q => absurd rfl q⟩, ⟨q5.1, fun q => absurd rfl q⟩, q6, q7, ⟨q8.1, fun q => by rcases q with q | q <;> exact absurd q (by decide)⟩, q9, ⟨by rw [a00]; decide, by rw [a00]; decide, fun q => absurd a00 q⟩, q11⟩
      · rw [(lo j c e).1, (lo j c e).2, far (6 * j + 21) (by omega) (by omega), far (6 * j + 22) (by omega) (by omega), far (6 * j + 23) (by omega) (by omega)]
        exact (h.lr c).mono (Nat.le_succ _)
    · obtain ⟨g, g1, g2, g3⟩ := cN_ex (f := dgF I i) 3 (j - nL) (by omega)
      have ej : j = nL + cN (dgF I i) g := by omega
      obtain ⟨y1, y2, y3⟩ := xn g g1 g2
      rw [← ej] at y1 y2 y3
      obtain ⟨-, B2, B3, B4, B5⟩ := h.2.2.2.2.2.2.1 j (by omega) (by omega)
      rw [far (6 * j + 21) (by omega) (by omega), far (6 * j + 22) (by omega) (by omega), far (6 * j + 23) (by omega) (by omega), M2 (6 * j + 19) (by omega) (by omega), M2 (6 * j + 20) (by omega) (by omega)]
      exact LotR.mono (Nat.le_succ n) (LotR.grade (h.lr iL) s0 dr.2 g1 g2 y1 y2 y3 B4 B5)
  · rw [(hi j y1 y2).1, (hi j y1 y2).2, far (6 * j + 21) (by omega) (by omega), far (6 * j + 22) (by omega) (by omega), far (6 * j + 23) (by omega) (by omega)]
    exact h.2.2.2.2.2.2.1 j (by omega) y2
  · rw [far (2 * j + 11) (by omega) (by omega), far (2 * j + 12) (by omega) (by omega)]
    exact (h.sr hj).mono (Nat.le_succ _)
  · rw [far (2 * j + 11) (by omega) (by omega), far (2 * j + 12) (by omega) (by omega)]
    exact h.2.2.2.2.2.2.2.2.1 j y1 y2
  · rw [far (j + 3) (by omega) (by omega)]; exact (h.tr hj).mono (Nat.le_succ _)
  · rw [far 115 (by omega) (by omega)]; exact h.2.2.2.2.2.2.2.2.2.2.1
  · obtain ⟨s1, s2, s3⟩ := h.2.2.2.2.2.2.2.2.2.2.2
    unfold SumR
    rw [ds, j0 11 (by decide), j0 10 (by decide)]
    exact ⟨s1, s2, by omega⟩
end S1
