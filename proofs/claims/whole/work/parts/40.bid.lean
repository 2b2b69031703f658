/-! BID: what both do -/
section BI
variable {φ : Nat → Nat} {T : Nat → Nat × Nat} {I : Nat → Nat → Int32} {R : Nat → Nat → Option Nat} {τ : Mem} {e0 nS nL cS cL n z : Nat} {mx : Nat → Int32} {cB : Nat → Nat} {bl : Nat → List (Nat × Int32)}
variable {mi a k i j l w s c d : Nat} {J J' : Nat → Nat → Int32} {R' : Nat → Nat → Option Nat} {p q r pr : Int32} {τ0 τ1 : Mem}
theorem x_place (h : Cx φ T I R z e0 nS nL cS cL mx cB bl n) (hi : i < 17) (hw : w < 4) : f_X0_place (φ (6 * i + 22)) (Int32.ofNat w) pr (pt φ T J R τ) = some ((), pt φ T (up2 (up2 (up2 J (6 * i + 22) 1 (J (6 * i + 22) 1 + 1)) (6 * i + 23) w pr) (6 * i + 24) w (J (6 * i + 22) 1 + 1)) R τ) := by
  obtain ⟨hj, hl, hx, hm, hr⟩ := h; obtain ⟨hx0, hx1, hx2, hx3, hx4, hx5, hx6, hx7, hx8, hx9, hx10, hx11, hx12, hx13, hx14, hx15, hx16, hx17, hx18, hx19, hx20, hx21, hx22, hx23, hx24, hx25, hx26, hx27⟩ := hx; obtain ⟨hm0, hm1, hm2, hm3, hm4, hm5, hm6, hm7, hm8, hm9, hm10, hm11, hm12, hm13, hm14, hm15, hm16, hm17, hm18, hm19, hm20, hm21, hm22, hm23, hm24, hm25, hm26, hm27, hm28, hm29, hm30, hm31, hm32, hm33, hm34, hm35, hm36, hm37, hm38, hm39, hm40, hm41, hm42, hm43⟩ := hm; obtain ⟨⟨⟨g1, g2⟩, ⟨g3, g4, g5, g6, g7⟩, g8, g9, g10⟩, r1, r2, r3, r4, r5, r6⟩ := hr
  have c4 := kN_nn (a := w) (by omega)
  have c5 := tnK (k := w) (by omega)
  have n1 : 6 * i + 22 ≠ 6 * i + 23 := by omega
  simp (config := {decide := true}) only [b_X0_place_0, f_X0_place, gI_pt hj, gR_pt hj, ob_pt hj, ck_pt hj, pI_pt hj, pB_pt hj, pR_pt hj, aI_pt hj, aR_pt hj, wI_pt hj, wJ_pt hj, aL_pt hj, cl1_s, cl1_n, cl1_i, cx1_s, cx1_x, cx1_n, cx1_i, nul_n, nul_s, nm, dv2, dv3, dv4, dv5, dv8, dv10, dv20, dv40, thr, bo, mI_pt hj, mT_pt hj, sB_pt, mZ_pt, mJ_pt, mJ_sJ, mZ_sJ, tn0, tn1, tn2, tn3, tn4, tn5, tn6, hx21 i hi, hx22 i hi, hx23 i hi, hx24 i hi, hx25 i hi, c4, c5, hw, up2_row n1, up2_at, ii0, ii1, ii2, ii3, ii4, if_true, if_false, ne_eq, not_false_eq_true, not_true_eq_false, true_and, and_true, false_and, and_false, and_self, true_or, or_true, false_or, or_false, or_self, Nat.reduceAdd, Nat.reduceLT, Nat.reduceLeDiff, Nat.succ_ne_zero, reduceIte, reduceCtorEq]
def cnB (f : Nat → Int32) : Nat → Nat
  | 0 => 0
  | k + 1 => cnB f k + if f k ≤ 0 then 0 else 1
theorem x_countB (h : Cx φ T I R z e0 nS nL cS cL mx cB bl n) (hi : i < 17) : f_X0_countBids (φ (6 * i + 22)) (pt φ T J R τ) = some (Int32.ofNat (cnB (J (6 * i + 23)) 4), pt φ T J R τ) := by
  have hj := h.hj
  have L := itr_loop (fun n (s' : Int32 × Int32) => l_X0_countBids_4 n (φ (6 * i + 22)) s'.1 s'.2 (pt φ T J R τ)) (fun k s' => s'.1 = Int32.ofNat (cnB (J (6 * i + 23)) k) ∧ s'.2 = Int32.ofNat k) 4 (by
    rintro n k ⟨acc, y⟩ hk ⟨h1, h2⟩
    simp only at h1 h2
    subst h1 h2
    refine ⟨(Int32.ofNat (cnB (J (6 * i + 23)) (k + 1)), Int32.ofNat (k + 1)), ⟨rfl, rfl⟩, ?_⟩
    have B := x_hasBid (J := J) (τ := τ) h hi hk
    have c1 : ¬ Int32.ofNat 4 ≤ Int32.ofNat k := by rw [kN_le (by omega) (by omega)]; omega
    obtain ⟨hj, hl, hx, hm, hr⟩ := h; obtain ⟨hx0, hx1, hx2, hx3, hx4, hx5, hx6, hx7, hx8, hx9, hx10, hx11, hx12, hx13, hx14, hx15, hx16, hx17, hx18, hx19, hx20, hx21, hx22, hx23, hx24, hx25, hx26, hx27⟩ := hx; obtain ⟨hm0, hm1, hm2, hm3, hm4, hm5, hm6, hm7, hm8, hm9, hm10, hm11, hm12, hm13, hm14, hm15, hm16, hm17, hm18, hm19, hm20, hm21, hm22, hm23, hm24, hm25, hm26, hm27, hm28, hm29, hm30, hm31, hm32, hm33, hm34, hm35, hm36, hm37, hm38, hm39, hm40, hm41, hm42, hm43⟩ := hm; obtain ⟨⟨⟨g1, g2⟩, ⟨g3, g4, g5, g6, g7⟩, g8, g9, g10⟩, r1, r2, r3, r4, r5, r6⟩ := hr
    by_cases c : J (6 * i + 23) k ≤ 0
    · rw [if_pos c] at B
      have e1 : cnB (J (6 * i + 23)) (k + 1) = cnB (J (6 * i + 23)) k := by simp only [cnB, c, if_true, Nat.add_zero]
      rw [e1]
      generalize cnB (J (6 * i + 23)) k = cc
      simp (config := {decide := true}) only [l_X0_countBids_4, itr_succ, b_X0_countBids_4, b_X0_countBids_24, B, gI_pt hj, gR_pt hj, ob_pt hj, ck_pt hj, pI_pt hj, pB_pt hj, pR_pt hj, aI_pt hj, aR_pt hj, wI_pt hj, wJ_pt hj, aL_pt hj, cl1_s, cl1_n, cl1_i, cx1_s, cx1_x, cx1_n, cx1_i, nul_n, nul_s, nm, dv2, dv3, dv4, dv5, dv8, dv10, dv20, dv40, thr, bo, mI_pt hj, mT_pt hj, sB_pt, mZ_pt, mJ_pt, mJ_sJ, mZ_sJ, tn0, tn1, tn2, tn3, tn4, tn5, tn6, hx21 i hi, hx22 i hi, hx24 i hi, c1, kN_s, ii0, ii1, ii2, ii3, ii4, if_true, if_false, ne_eq, not_false_eq_true, not_true_eq_false, true_and, and_true, false_and, and_false, and_self, true_or, or_true, false_or, or_false, or_self, Nat.reduceAdd, Nat.reduceLT, Nat.reduceLeDiff, Nat.succ_ne_zero, reduceIte, reduceCtorEq]
    · rw [if_neg c] at B
      have e1 : cnB (J (6 * i + 23)) (k + 1) = cnB (J (6 * i + 23)) k + 1 := by simp only [cnB, c, if_false]
      rw [e1]
      generalize cnB (J (6 * i + 23)) k = cc
      simp (config := {decide := true}) only [l_X0_countBids_4, itr_succ, b_X0_countBids_4, b_X0_countBids_24, B, gI_pt hj, gR_pt hj, ob_pt hj, ck_pt hj, pI_pt hj, pB_pt hj, pR_pt hj, aI_pt hj, aR_pt hj, wI_pt hj, wJ_pt hj, aL_pt hj, cl1_s, cl1_n, cl1_i, cx1_s, cx1_x, cx1_n, cx1_i, nul_n, nul_s, nm, dv2, dv3, dv4, dv5, dv8, dv10, dv20, dv40, thr, bo, mI_pt hj, mT_pt hj, sB_pt, mZ_pt, mJ_pt, mJ_sJ, mZ_sJ, tn0, tn1, tn2, tn3, tn4, tn5, tn6, hx21 i hi, hx22 i hi, hx24 i hi, c1, kN_s, ii0, ii1, ii2, ii3, ii4, if_true, if_false, ne_eq, not_false_eq_true, not_true_eq_false, true_and, and_true, false_and, and_false, and_self, true_or, or_true, false_or, or_false, or_self, Nat.reduceAdd, Nat.reduceLT, Nat.reduceLeDiff, Nat.succ_ne_zero, reduceIte, reduceCtorEq])
  obtain ⟨⟨acc, y⟩, ⟨h1, h2⟩, h5⟩ := L 4 0 40 (0, 0) (by omega) (by omega) ⟨by simp only [cnB]; rfl, rfl⟩
  simp only at h1 h2
  subst h1 h2
  generalize cnB (J (6 * i + 23)) 4 = cc at h5 ⊢
  have E : l_X0_countBids_4 36 (φ (6 * i + 22)) (Int32.ofNat cc) 4 (pt φ T J R τ) = some (Int32.ofNat cc, pt φ T J R τ) := by
    obtain ⟨hj, hl, hx, hm, hr⟩ := h; obtain ⟨hx0, hx1, hx2, hx3, hx4, hx5, hx6, hx7, hx8, hx9, hx10, hx11, hx12, hx13, hx14, hx15, hx16, hx17, hx18, hx19, hx20, hx21, hx22, hx23, hx24, hx25, hx26, hx27⟩ := hx; obtain ⟨hm0, hm1, hm2, hm3, hm4, hm5, hm6, hm7, hm8, hm9, hm10, hm11, hm12, hm13, hm14, hm15, hm16, hm17, hm18, hm19, hm20, hm21, hm22, hm23, hm24, hm25, hm26, hm27, hm28, hm29, hm30, hm31, hm32, hm33, hm34, hm35, hm36, hm37, hm38, hm39, hm40, hm41, hm42, hm43⟩ := hm; obtain ⟨⟨⟨g1, g2⟩, ⟨g3, g4, g5, g6, g7⟩, g8, g9, g10⟩, r1, r2, r3, r4, r5, r6⟩ := hr
    have t1 : (T (6 * i + 22)).1 = 2 + 1 := by rw [hx21 i hi]
    have t2 : 100 ≤ (T (6 * i + 23)).1 ∧ (T (6 * i + 23)).1 < 107 := by rw [hx24 i hi]; exact ⟨by omega, by omega⟩
    have t3 : Int32.ofNat (T (6 * i + 23)).2 ≤ 4 := by rw [hx24 i hi]; decide
    rw [l_X0_countBids_4, itr_36, b_X0_countBids_4, gR_pt hj t1, hx22 i hi, aL_pt hj t2, if_pos t3]
  exact h5.trans E
theorem cnB_len : ∀ (b : List (Nat × Int32)) (f : Nat → Int32), (∀ e ∈ b, e.1 < 4 ∧ ¬ f e.1 ≤ 0) → (∀ q, q < 4 → (∀ e ∈ b, e.1 ≠ q) → f q ≤ 0) → b.Pairwise (fun e g => e.1 ≠ g.1) → cnB f 4 = b.length := by
  intro b
  induction b with
  | nil =>
    intro f _ h2 _
    have h : ∀ q, q < 4 → f q ≤ 0 := fun q hq => h2 q hq (fun e he => by simp at he)
    simp only [cnB, h 0 (by omega), h 1 (by omega), h 2 (by omega), h 3 (by omega), if_true, List.length_nil]
  | cons e b ih =>
    intro f h1 h2 h3
    rw [List.pairwise_cons] at h3
    obtain ⟨e4, ef⟩ := h1 e (List.mem_cons_self ..)
    have I1 := ih (fun k => if k = e.1 then 0 else f k) (fun g hg => by
      obtain ⟨g1, g2⟩ := h1 g (List.mem_cons_of_mem _ hg)
      refine ⟨g1, ?_⟩
      have := h3.1 g hg
      simp only [if_neg (Ne.symm this)]; exact g2) (fun q hq hn => by
      by_cases c : q = e.1
      · simp only [c, if_true]; decide
      · simp only [if_neg c]
        refine h2 q hq (fun g hg => ?_)
        rcases List.mem_cons.mp hg with rfl | hg
        · exact Ne.symm c
        · exact hn g hg) h3.2
    rw [List.length_cons, ← I1]
    have z0 : (0 : Int32) ≤ 0 := by decide
    rcases (show e.1 = 0 ∨ e.1 = 1 ∨ e.1 = 2 ∨ e.1 = 3 by omega) with c | c | c | c <;> rw [c] at ef ⊢ <;> simp (config := {decide := true}) only [cnB, ef, if_true, if_false, z0] <;> omega
/-! the reference takes an older bid away -/
def ixB (d : Nat) : Int32 := if d = 0 then -1 else Int32.ofNat (d - 1)
theorem ixB_s : ixB (k + 1) = Int32.ofNat k := by simp [ixB]
theorem ixB_m (hk : k < 1000) : Int32.ofNat k + (-1) = ixB k := by
  cases k with
  | zero => rfl
  | succ m =>
    rw [ixB_s, ← kN_s]
    refine Int32.toInt_inj.mp ?_
    have e1 := kN_t (a := m) (by omega)
    have z1 : (1 : Int32).toInt = 1 := rfl
    have zm : (-1 : Int32).toInt = -1 := rfl
    have e2 : (Int32.ofNat m + 1).toInt = m + 1 := by rw [tAdd (by omega) (by omega), e1, z1]
    rw [tAdd (by omega) (by omega), e2, zm, e1]; omega
theorem m_remove (hj : Inj φ T) (h1 : T l = (2, 0)) (hs : J l 2 = Int32.ofNat s) (hsc : s ≤ c) (hs30 : s ≤ 30) (hr : R l 1 = some (φ w)) (hT : T w = (106, c)) (hlw : l ≠ w) (hk : k < s) (hel : ∀ k, k < s → ∃ u', R w k = some (φ u') ∧ ((T u').1 = 8 ∨ (T u').1 = 9 ∨ (T u').1 = 100)) : ∃ J' R', f_Jx4a65c_remove_915e3 (φ l) (Int32.ofNat k) (pt φ T J R τ) = some (R w k, pt φ T J' R' τ) ∧ (∀ v, v ≠ l → J' v = J v) ∧ J' l 2 = Int32.ofNat (s - 1) ∧ (∀ v, v ≠ w → R' v = R v) ∧ (∀ j, j < k → R' w j = R w j) ∧ (∀ j, k ≤ j → j < s - 1 → R' w j = R w (j + 1)) := by
  have hlk : (T l).1 = 1 + 1 := by rw [h1]
  have c1 : Int32.ofNat k < Int32.ofNat s := (kN_lt (by omega) (by omega)).mpr hk
  have c2 := kN_nn (a := k) (by omega)
  have c3 := tnK (k := k) (by omega)
  have c4 : k < c := by omega
  have sb : Int32.ofNat s - 1 = Int32.ofNat (s - 1) := by
    obtain ⟨m, rfl⟩ : ∃ m, s = m + 1 := ⟨s - 1, by omega⟩
    rw [← kN_s]; exact Int32.add_sub_cancel _ _
  have nj := kN_nn (a := s - 1) (by omega)
  have tj := tnK (k := s - 1) (by omega)
  obtain ⟨J1, hJ1⟩ : ∃ J1, J1 = up2 J l 0 (J l 0 + 1) := ⟨_, rfl⟩
  have i2 : J1 l 2 = Int32.ofNat s := by rw [hJ1, up2_k (by decide)]; exact hs
  have kJ : ∀ v, v ≠ l → up2 J1 l 2 (Int32.ofNat (s - 1)) v = J v := fun v hv => by rw [up2_row hv, hJ1, up2_row hv]
  by_cases q : k = s - 1
  · have c5 : Int32.ofNat (s - 1) ≤ Int32.ofNat k := (kN_le (by omega) (by omega)).mpr (by omega)
    refine ⟨up2 J1 l 2 (Int32.ofNat (s - 1)), up2 R w (s - 1) none, ?_, kJ, up2_at, fun v hv => up2_row hv, fun j hj => up2_k (by omega), fun j h1 h2 => by omega⟩
    have W : ∀ (K : Mem → Option (Unit × Mem)), wR 6 (pt φ T (up2 J1 l 2 (Int32.ofNat (s - 1))) R τ) (some (φ w)) (Int32.ofNat (s - 1)) none K = K (pt φ T (up2 J1 l 2 (Int32.ofNat (s - 1))) (up2 R w (s - 1) none) τ) := fun K => by
      rw [wR_pt hj (by rw [hT]) nj (by rw [hT, tj]; show s - 1 < c; omega) el_none, tj]
    rw [hJ1] at W i2 ⊢
    simp (config := {decide := true}) only [b_Jx4a65c_remove_915e3_0, f_Jx4a65c_remove_915e3, b_Jx4a65c_fastRemove_b59b0_34, b_Jx4a65c_fastRemove_b59b0_0, f_Jx4a65c_fastRemove_b59b0, b_J15_checkIndex_7cf53_0, f_J15_checkIndex_7cf53, b_J3_checkIndex_8e157_9, b_J3_checkIndex_8e157_0, f_J3_checkIndex_8e157, gI_pt hj, gR_pt hj, ob_pt hj, ck_pt hj, pI_pt hj, pB_pt hj, pR_pt hj, aI_pt hj, aR_pt hj, wI_pt hj, wJ_pt hj, aL_pt hj, cl1_s, cl1_n, cl1_i, cx1_s, cx1_x, cx1_n, cx1_i, nul_n, nul_s, nm, dv2, dv3, dv4, dv5, dv8, dv10, dv20, dv40, thr, bo, W, mI_pt hj, mT_pt hj, sB_pt, mZ_pt, mJ_pt, mJ_sJ, mZ_sJ, tn0, tn1, tn2, tn3, tn4, tn5, tn6, hlk, hs, i2, hr, hT, c1, c2, c3, c4, c5, sb, ii0, ii1, ii2, ii3, ii4, if_true, if_false, ne_eq, not_false_eq_true, not_true_eq_false, true_and, and_true, false_and, and_false, and_self, true_or, or_true, false_or, or_false, or_self, Nat.reduceAdd, Nat.reduceLT, Nat.reduceLeDiff, Nat.succ_ne_zero, reduceIte, reduceCtorEq]
  · have c5 : ¬ Int32.ofNat (s - 1) ≤ Int32.ofNat k := by rw [kN_le (by omega) (by omega)]; omega
    have sd : Int32.ofNat (s - 1) - Int32.ofNat k = Int32.ofNat (s - 1 - k) := by
      refine Int32.toInt_inj.mp ?_
      have e1 := kN_t (a := s - 1) (by omega)
      have e2 := kN_t (a := k) (by omega)
      have e3 := kN_t (a := s - 1 - k) (by omega)
      rw [tSub (by omega) (by omega), e1, e2, e3]; omega
    have n1 := kN_nn (a := k + 1) (by omega)
    have n2 := kN_nn (a := s - 1 - k) (by omega)
    have t1 := tnK (k := k + 1) (by omega)
    have t2 := tnK (k := s - 1 - k) (by omega)
    obtain ⟨R1, hR1⟩ : ∃ R1, R1 = rowS R w (va_cpy (R w) (R w) (k + 1) k (s - 1 - k)) := ⟨_, rfl⟩
    have CP : ∀ (K : Mem → Option (Unit × Mem)), cpR (pt φ T J1 R τ) (some (φ w)) (Int32.ofNat (k + 1)) (some (φ w)) (Int32.ofNat k) (Int32.ofNat (s - 1 - k)) K = K (pt φ T J1 R1 τ) := fun K => by
      rw [cpR_same hj hT n1 c2 n2 (by rw [t1, t2]; omega) (by rw [c3, t2]; omega) (fun i hi y hy => by
        rw [t2] at hi
        rw [t1] at hy
        obtain ⟨u', hu1, hu2⟩ := hel (k + 1 + i) (by omega)
        rw [hu1] at hy; cases hy
        exact el_pt hj hu2), t1, c3, t2, hR1]
    have hr1 : R1 l = R l := by rw [hR1, rowS_ne hlw]
    refine ⟨up2 J1 l 2 (Int32.ofNat (s - 1)), up2 R1 w (s - 1) none, ?_, kJ, up2_at, fun v hv => by rw [up2_row hv, hR1, rowS_ne hv], fun j hj => ?_, fun j h1 h2 => ?_⟩
    · have W : ∀ (K : Mem → Option (Unit × Mem)), wR 6 (pt φ T (up2 J1 l 2 (Int32.ofNat (s - 1))) R1 τ) (some (φ w)) (Int32.ofNat (s - 1)) none K = K (pt φ T (up2 J1 l 2 (Int32.ofNat (s - 1))) (up2 R1 w (s - 1) none) τ) := fun K => by
        rw [wR_pt hj (by rw [hT]) nj (by rw [hT, tj]; show s - 1 < c; omega) el_none, tj]
      rw [hJ1] at W i2 CP ⊢
      simp (config := {decide := true}) only [b_Jx4a65c_remove_915e3_0, f_Jx4a65c_remove_915e3, b_Jx4a65c_fastRemove_b59b0_34, b_Jx4a65c_fastRemove_b59b0_0, f_Jx4a65c_fastRemove_b59b0, b_J15_checkIndex_7cf53_0, f_J15_checkIndex_7cf53, b_J3_checkIndex_8e157_9, b_J3_checkIndex_8e157_0, f_J3_checkIndex_8e157, gI_pt hj, gR_pt hj, ob_pt hj, ck_pt hj, pI_pt hj, pB_pt hj, pR_pt hj, aI_pt hj, aR_pt hj, wI_pt hj, wJ_pt hj, aL_pt hj, cl1_s, cl1_n, cl1_i, cx1_s, cx1_x, cx1_n, cx1_i, nul_n, nul_s, nm, dv2, dv3, dv4, dv5, dv8, dv10, dv20, dv40, thr, bo, CP, W, mI_pt hj, mT_pt hj, sB_pt, mZ_pt, mJ_pt, mJ_sJ, mZ_sJ, tn0, tn1, tn2, tn3, tn4, tn5, tn6, hlk, hs, i2, hr, hT, c1, c2, c3, c4, c5, sb, sd, kN_s, ii0, ii1, ii2, ii3, ii4, if_true, if_false, ne_eq, not_false_eq_true, not_true_eq_false, true_and, and_true, false_and, and_false, and_self, true_or, or_true, false_or, or_false, or_self, Nat.reduceAdd, Nat.reduceLT, Nat.reduceLeDiff, Nat.succ_ne_zero, reduceIte, reduceCtorEq]
    · rw [up2_k (by omega), hR1, rowS_hit]; unfold va_cpy; rw [if_neg (by omega)]
    · rw [up2_k (by omega), hR1, rowS_hit]; unfold va_cpy; rw [if_pos ⟨h1, by omega⟩]; congr 1; omega
/-- no bid of this buyer from d1 to d2 -/
theorem m_bidNm (h : Cx φ T I R z e0 nS nL cS cL mx cB bl n) (iL : i < nL) (hw : w < 4) {b : List (Nat × Int32)} (hs : J (10 * i + 153) 2 = Int32.ofNat s) (hs30 : s ≤ 30) (hsc : s ≤ cB i) (hr : R' (10 * i + 153) 1 = some (φ (10 * i + 154))) (hb : ∀ (k : Nat) (e : Nat × Int32), k < d → b[k]? = some e → e.1 < 4 ∧ R' (10 * i + 154) k = some (φ (10 * i + 155 + e.1)) ∧ T (10 * i + 155 + e.1) = (100, 2) ∧ J (10 * i + 155 + e.1) 0 = Int32.ofNat e.1) (hds : d ≤ s) (hdb : d ≤ b.length) : ∀ d1 m, d1 ≤ d → d - d1 ≤ m → (∀ (k : Nat) (e : Nat × Int32), d1 ≤ k → k < d → b[k]? = some e → e.1 ≠ w) → l_X8_bid_108 e0 mi m (Int32.ofNat w) pr (some (φ (10 * i + 153))) (ixB d) (pt φ T J R' τ) = l_X8_bid_108 e0 mi (m - (d - d1)) (Int32.ofNat w) pr (some (φ (10 * i + 153))) (ixB d1) (pt φ T J R' τ) := by
  have hj := h.hj
  have key : ∀ x d1 m, d1 + x = d → x ≤ m → (∀ (k : Nat) (e : Nat × Int32), d1 ≤ k → k < d → b[k]? = some e → e.1 ≠ w) → l_X8_bid_108 e0 mi m (Int32.ofNat w) pr (some (φ (10 * i + 153))) (ixB d) (pt φ T J R' τ) = l_X8_bid_108 e0 mi (m - x) (Int32.ofNat w) pr (some (φ (10 * i + 153))) (ixB d1) (pt φ T J R' τ) := by
    intro x
    induction x with
    | zero => intro d1 m h1 _ _; rw [show d1 = d by omega]; rfl
    | succ x ih =>
      intro d1 m h1 h2 h3
      rw [ih (d1 + 1) m (by omega) (by omega) (fun k e a1 a2 a3 => h3 k e (by omega) a2 a3)]
      obtain ⟨m', hm'⟩ : ∃ m', m - x = m' + 1 := ⟨m - x - 1, by omega⟩
      rw [hm', show m - (x + 1) = m' by omega, ixB_s]
      obtain ⟨e, he⟩ : ∃ e, b[d1]? = some e := ⟨_, List.getElem?_eq_getElem (by omega)⟩
      obtain ⟨b1, b2, b3, b4⟩ := hb d1 e (by omega) he
      have ne := h3 d1 e (Nat.le_refl _) (by omega) he
      have c0 : ¬ Int32.ofNat e.1 = Int32.ofNat w := by rw [kN_eq (by omega) (by omega)]; exact ne
      have c1 : Int32.ofNat d1 < Int32.ofNat s := (kN_lt (by omega) (by omega)).mpr (by omega)
      have c2 := kN_nn (a := d1) (by omega)
      have c3 := tnK (k := d1) (by omega)
      have c4 : d1 < cB i := by omega
      have mm := ixB_m (k := d1) (by omega)
      obtain ⟨hj, hl, hx, hm, hr⟩ := h; obtain ⟨hx0, hx1, hx2, hx3, hx4, hx5, hx6, hx7, hx8, hx9, hx10, hx11, hx12, hx13, hx14, hx15, hx16, hx17, hx18, hx19, hx20, hx21, hx22, hx23, hx24, hx25, hx26, hx27⟩ := hx; obtain ⟨hm0, hm1, hm2, hm3, hm4, hm5, hm6, hm7, hm8, hm9, hm10, hm11, hm12, hm13, hm14, hm15, hm16, hm17, hm18, hm19, hm20, hm21, hm22, hm23, hm24, hm25, hm26, hm27, hm28, hm29, hm30, hm31, hm32, hm33, hm34, hm35, hm36, hm37, hm38, hm39, hm40, hm41, hm42, hm43⟩ := hm; obtain ⟨⟨⟨g1, g2⟩, ⟨g3, g4, g5, g6, g7⟩, g8, g9, g10⟩, r1, r2, r3, r4, r5, r6⟩ := hr
      have T4 := hm38 i iL (by omega)
      simp (config := {decide := true}) only [l_X8_bid_108, itr_succ, b_X8_bid_108, b_X8_bid_137, b_Jx4a65c_size_8abf5_0, f_Jx4a65c_size_8abf5, b_J3_checkIndex_8e157_9, b_J3_checkIndex_8e157_0, f_J3_checkIndex_8e157, b_J15_checkIndex_7cf53_0, f_J15_checkIndex_7cf53, b_Jx4a65c_elementData_915e3_0, f_Jx4a65c_elementData_915e3, b_Jx4a65c_get_915e3_0, f_Jx4a65c_get_915e3, gI_pt hj, gR_pt hj, ob_pt hj, ck_pt hj, pI_pt hj, pB_pt hj, pR_pt hj, aI_pt hj, aR_pt hj, wI_pt hj, wJ_pt hj, aL_pt hj, cl1_s, cl1_n, cl1_i, cx1_s, cx1_x, cx1_n, cx1_i, nul_n, nul_s, nm, dv2, dv3, dv4, dv5, dv8, dv10, dv20, dv40, thr, bo, mI_pt hj, mT_pt hj, sB_pt, mZ_pt, mJ_pt, mJ_sJ, mZ_sJ, tn0, tn1, tn2, tn3, tn4, tn5, tn6, hm35 i iL, hs, hr, T4, b2, b3, b4, c0, c1, c2, c3, c4, mm, ii0, ii1, ii2, ii3, ii4, if_true, if_false, ne_eq, not_false_eq_true, not_true_eq_false, true_and, and_true, false_and, and_false, and_self, true_or, or_true, false_or, or_false, or_self, Nat.reduceAdd, Nat.reduceLT, Nat.reduceLeDiff, Nat.succ_ne_zero, reduceIte, reduceCtorEq]
  intro d1 m h1 h2 h3
  have := key (d - d1) d1 m (by omega) (by omega) h3
  exact this
theorem m_bidRm (h : Cx φ T I R z e0 nS nL cS cL mx cB bl n) (iL : i < nL) (hw : w < 4) (hJ : ∀ v, 125 ≤ v → J v = I v) : ∃ (b' : List (Nat × Int32)) (J' : Nat → Nat → Int32) (R' : Nat → Nat → Option Nat) (m : Nat), l_X8_bid_108 e0 mi 40 (Int32.ofNat w) pr (some (φ (10 * i + 153))) (ixB (bl i).length) (pt φ T J R τ) = l_X8_bid_108 e0 mi (m + 1) (Int32.ofNat w) pr (some (φ (10 * i + 153))) (ixB 0) (pt φ T J' R' τ) ∧ (∀ v, v ≠ 10 * i + 153 → J' v = J v) ∧ (∀ v, v ≠ 10 * i + 154 → R' v = R v) ∧ J' (10 * i + 153) 2 = Int32.ofNat b'.length ∧ b'.length ≤ 3 ∧ b'.length ≤ cB i ∧ (∀ (k : Nat) (e : Nat × Int32), b'[k]? = some e → R' (10 * i + 154) k = some (φ (10 * i + 155 + e.1)) ∧ e ∈ bl i ∧ e.1 ≠ w) ∧ (∀ e ∈ bl i, e.1 ≠ w → e ∈ b') ∧ b'.Pairwise (fun e f => e.1 ≠ f.1 ∧ (I (6 * i + 24) e.1).toInt < (I (6 * i + 24) f.1).toInt) := by
  have h4 := bid_len (h.bidr iL)
  obtain ⟨B1, B2, B3, B4⟩ := h.bidr iL
  have bd := fun (k : Nat) (e : Nat × Int32) (hk : (bl i)[k]? = some e) => h.bd iL hk
  have J5 : ∀ q, J (10 * i + 155 + q) = I (10 * i + 155 + q) := fun q => hJ _ (by omega)
  obtain ⟨S36, S39, S38, S37, S35⟩ : I (10 * i + 153) 2 = Int32.ofNat (bl i).length ∧ (bl i).length ≤ cB i ∧ (cB i ≠ 0 → T (10 * i + 154) = (106, cB i)) ∧ R (10 * i + 153) 1 = some (if cB i = 0 then e0 else φ (10 * i + 154)) ∧ T (10 * i + 153) = (2, 0) := by
    obtain ⟨hj, hl, hx, hm, hr⟩ := h; obtain ⟨hx0, hx1, hx2, hx3, hx4, hx5, hx6, hx7, hx8, hx9, hx10, hx11, hx12, hx13, hx14, hx15, hx16, hx17, hx18, hx19, hx20, hx21, hx22, hx23, hx24, hx25, hx26, hx27⟩ := hx; obtain ⟨hm0, hm1, hm2, hm3, hm4, hm5, hm6, hm7, hm8, hm9, hm10, hm11, hm12, hm13, hm14, hm15, hm16, hm17, hm18, hm19, hm20, hm21, hm22, hm23, hm24, hm25, hm26, hm27, hm28, hm29, hm30, hm31, hm32, hm33, hm34, hm35, hm36, hm37, hm38, hm39, hm40, hm41, hm42, hm43⟩ := hm; obtain ⟨⟨⟨g1, g2⟩, ⟨g3, g4, g5, g6, g7⟩, g8, g9, g10⟩, r1, r2, r3, r4, r5, r6⟩ := hr
    exact ⟨hm36 i iL, hm39 i iL, hm38 i iL, hm37 i iL, hm35 i iL⟩
  have JS : J (10 * i + 153) 2 = Int32.ofNat (bl i).length := by rw [hJ _ (by omega)]; exact S36
  by_cases hex : ∃ (j : Nat) (e : Nat × Int32), (bl i)[j]? = some e ∧ e.1 = w
  · obtain ⟨j, e, he, hew⟩ := hex
    have jl := get_lt he
    have c0 : cB i ≠ 0 := by omega
    have hr : R (10 * i + 153) 1 = some (φ (10 * i + 154)) := by rw [S37, if_neg c0]
    have hT := S38 c0
    have oth : ∀ (k : Nat) (f : Nat × Int32), k ≠ j → (bl i)[k]? = some f → f.1 ≠ w := by
      intro k f hk hf
      rcases Nat.lt_or_gt_of_ne hk with y | y
      · have := (pw_idx B4 y hf he).1; omega
      · have := (pw_idx B4 y he hf).1; omega
    have N1 := m_bidNm (e0 := e0) (mi := mi) (d := (bl i).length) (b := bl i) (J := J) (R' := R) (τ := τ) (pr := pr) h iL hw JS (by omega) S39 hr (fun k e _ hk => by
      obtain ⟨b1, b2, b3, b4, -⟩ := bd k e hk
      exact ⟨b1, b2, b3, by rw [J5]; exact b4⟩) (Nat.le_refl _) (Nat.le_refl _) (j + 1) 40 (by omega) (by omega) (fun k f a1 a2 a3 => oth k f (by omega) a3)
    obtain ⟨J', R', E1, E2, E3, E4, E5, E6⟩ := m_remove (J := J) (τ := τ) (k := j) h.hj S35 JS S39 (by omega) hr hT (by omega) jl (fun k hk => by
      obtain ⟨b1, b2, b3, -, -⟩ := bd k _ (List.getElem?_eq_getElem hk)
      exact ⟨_, b2, Or.inr (Or.inr (by rw [b3]))⟩)
    have len' : ((bl i).eraseIdx j).length = (bl i).length - 1 := List.length_eraseIdx_of_lt jl
    have RB : ∀ (k : Nat) (f : Nat × Int32), ((bl i).eraseIdx j)[k]? = some f → R' (10 * i + 154) k = some (φ (10 * i + 155 + f.1)) ∧ ∃ k', k' ≠ j ∧ (bl i)[k']? = some f := by
      intro k f hf
      have kl := get_lt hf
      rw [List.getElem?_eraseIdx] at hf
      split at hf
      · rename_i hkj
        rw [E5 k hkj]
        exact ⟨(bd k f hf).2.1, k, by omega, hf⟩
      · rw [E6 k (by omega) (by omega)]
        exact ⟨(bd (k + 1) f hf).2.1, k + 1, by omega, hf⟩
    have N2 := m_bidNm (e0 := e0) (mi := mi) (d := j) (s := (bl i).length - 1) (b := bl i) (J := J') (R' := R') (τ := τ) (pr := pr) h iL hw E3 (by omega) (by omega) (by rw [E4 _ (by omega)]; exact hr) (fun k e hk hk2 => by
      obtain ⟨b1, b2, b3, b4, -⟩ := bd k e hk2
      exact ⟨b1, by rw [E5 k hk]; exact b2, b3, by rw [E2 _ (by omega), J5]; exact b4⟩) (by omega) (by omega) 0 (40 - ((bl i).length - (j + 1)) - 1) (by omega) (by omega) (fun k f a1 a2 a3 => oth k f (by omega) a3)
    obtain ⟨m', hm'⟩ : ∃ m', 40 - ((bl i).length - (j + 1)) = m' + 1 := ⟨39 - ((bl i).length - (j + 1)), by omega⟩
    refine ⟨(bl i).eraseIdx j, J', R', m' - j - 1, ?_, E2, E4, by rw [len']; exact E3, by omega, by omega, fun k f hf => ?_, fun f hf hne => ?_, B4.sublist (List.eraseIdx_sublist _ _)⟩
    · rw [N1]
      rw [hm', Nat.add_sub_cancel] at N2
      rw [hm', ixB_s, show m' - j - 1 + 1 = m' - (j - 0) by omega, ← N2]
      obtain ⟨b1, b2, b3, b4, b5⟩ := bd j e he
      have b4' : J (10 * i + 155 + e.1) 0 = Int32.ofNat w := by rw [J5, b4, hew]
      have c1 : Int32.ofNat j < Int32.ofNat (bl i).length := (kN_lt (by omega) (by omega)).mpr jl
      have c2 := kN_nn (a := j) (by omega)
      have c3 := tnK (k := j) (by omega)
      have c4 : j < cB i := by omega
      have mm := ixB_m (k := j) (by omega)
      have hj := h.hj
      simp (config := {decide := true}) only [l_X8_bid_108, itr_succ, b_X8_bid_108, b_X8_bid_137, b_Jx4a65c_size_8abf5_0, f_Jx4a65c_size_8abf5, b_J3_checkIndex_8e157_9, b_J3_checkIndex_8e157_0, f_J3_checkIndex_8e157, b_J15_checkIndex_7cf53_0, f_J15_checkIndex_7cf53, b_Jx4a65c_elementData_915e3_0, f_Jx4a65c_elementData_915e3, b_Jx4a65c_get_915e3_0, f_Jx4a65c_get_915e3, E1, gI_pt hj, gR_pt hj, ob_pt hj, ck_pt hj, pI_pt hj, pB_pt hj, pR_pt hj, aI_pt hj, aR_pt hj, wI_pt hj, wJ_pt hj, aL_pt hj, cl1_s, cl1_n, cl1_i, cx1_s, cx1_x, cx1_n, cx1_i, nul_n, nul_s, nm, dv2, dv3, dv4, dv5, dv8, dv10, dv20, dv40, thr, bo, mI_pt hj, mT_pt hj, sB_pt, mZ_pt, mJ_pt, mJ_sJ, mZ_sJ, tn0, tn1, tn2, tn3, tn4, tn5, tn6, S35, JS, hr, hT, b2, b3, b4', c1, c2, c3, c4, mm, ii0, ii1, ii2, ii3, ii4, if_true, if_false, ne_eq, not_false_eq_true, not_true_eq_false, true_and, and_true, false_and, and_false, and_self, true_or, or_true, false_or, or_false, or_self, Nat.reduceAdd, Nat.reduceLT, Nat.reduceLeDiff, Nat.succ_ne_zero, reduceIte, reduceCtorEq]
    · obtain ⟨r1, k', r2, r3⟩ := RB k f hf
      exact ⟨r1, List.mem_of_getElem? r3, oth k' f r2 r3⟩
    · obtain ⟨k', hk', he'⟩ := List.mem_iff_getElem.mp hf
      have hk2 : (bl i)[k']? = some f := by rw [← he']; exact List.getElem?_eq_getElem hk'
      have kne : k' ≠ j := by
        intro y; rw [y, he] at hk2; cases hk2; exact hne hew
      rcases Nat.lt_or_gt_of_ne kne with y | y
      · exact List.mem_of_getElem? (i := k') (by rw [List.getElem?_eraseIdx, if_pos y]; exact hk2)
      · exact List.mem_of_getElem? (i := k' - 1) (by rw [List.getElem?_eraseIdx, if_neg (by omega), show k' - 1 + 1 = k' by omega]; exact hk2)
  · have oth : ∀ (k : Nat) (f : Nat × Int32), (bl i)[k]? = some f → f.1 ≠ w := fun k f hf y => hex ⟨k, f, hf, y⟩
    have len3 : (bl i).length ≤ 3 := by
      have g : ∀ k, k < (bl i).length → ∃ e, (bl i)[k]? = some e ∧ e.1 < 4 ∧ e.1 ≠ w := fun k hk => ⟨(bl i)[k], List.getElem?_eq_getElem hk, (bd k _ (List.getElem?_eq_getElem hk)).1, oth k _ (List.getElem?_eq_getElem hk)⟩
      by_cases c : (bl i).length ≤ 3
      · exact c
      · obtain ⟨a0, p0, q0, w0⟩ := g 0 (by omega)
        obtain ⟨a1, p1, q1, w1⟩ := g 1 (by omega)
        obtain ⟨a2, p2, q2, w2⟩ := g 2 (by omega)
        obtain ⟨a3, p3, q3, w3⟩ := g 3 (by omega)
        have n01 := (pw_idx B4 (show 0 < 1 by decide) p0 p1).1
        have n02 := (pw_idx B4 (show 0 < 2 by decide) p0 p2).1
        have n03 := (pw_idx B4 (show 0 < 3 by decide) p0 p3).1
        have n12 := (pw_idx B4 (show 1 < 2 by decide) p1 p2).1
        have n13 := (pw_idx B4 (show 1 < 3 by decide) p1 p3).1
        have n23 := (pw_idx B4 (show 2 < 3 by decide) p2 p3).1
        omega
    by_cases e0l : (bl i).length = 0
    · have bnil : bl i = [] := List.length_eq_zero_iff.mp e0l
      refine ⟨bl i, J, R, 39, ?_, fun _ _ => rfl, fun _ _ => rfl, JS, len3, S39, fun k e hk => ⟨(bd k e hk).2.1, List.mem_of_getElem? hk, oth k e hk⟩, fun e he _ => he, B4⟩
      rw [e0l]
    · have c0 : cB i ≠ 0 := by omega
      have hr : R (10 * i + 153) 1 = some (φ (10 * i + 154)) := by rw [S37, if_neg c0]
      have N1 := m_bidNm (e0 := e0) (mi := mi) (d := (bl i).length) (b := bl i) (J := J) (R' := R) (τ := τ) (pr := pr) h iL hw JS (by omega) S39 hr (fun k e _ hk => by
        obtain ⟨b1, b2, b3, b4, -⟩ := bd k e hk
        exact ⟨b1, b2, b3, by rw [J5]; exact b4⟩) (Nat.le_refl _) (Nat.le_refl _) 0 40 (by omega) (by omega) (fun k f a1 a2 a3 => oth k f a3)
      refine ⟨bl i, J, R, 39 - (bl i).length, ?_, fun _ _ => rfl, fun _ _ => rfl, JS, len3, S39, fun k e hk => ⟨(bd k e hk).2.1, List.mem_of_getElem? hk, oth k e hk⟩, fun e he _ => he, B4⟩
      rw [N1]; congr 1; omega
end BI
