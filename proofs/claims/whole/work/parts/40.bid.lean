/-! BID: what both do -/
section BI
variable {φ : Nat → Nat} {T : Nat → Nat × Nat} {I : Nat → Nat → Int32} {R : Nat → Nat → Option Nat} {τ : Mem} {e0 nS nL cS cL n z : Nat} {mx : Nat → Int32} {cB : Nat → Nat} {bl : Nat → List (Nat × Int32)}
variable {mi a k i j l w s c d : Nat} {J J' : Nat → Nat → Int32} {R' : Nat → Nat → Option Nat} {p q r pr : Int32} {τ0 τ1 : Mem}
theorem x_place (h : Cx φ T I R z e0 nS nL cS cL mx cB bl n) (hi : i < 17) (hw : w < 4) : f_X0_place (φ (6 * i + 22)) (Int32.ofNat w) pr (pt φ T J R τ) = some ((), pt φ T (up2 (up2 (up2 J (6 * i + 22) 1 (J (6 * i + 22) 1 + 1)) (6 * i + 23) w pr) (6 * i + 24) w (J (6 * i + 22) 1 + 1)) R τ) := by
  obtain ⟨hj, hl, hx, hm, hr⟩ := h; obtain ⟨hx0, hx1, hx2, hx3, hx4, hx5, hx6, hx7, hx8, hx9, hx10, hx11, hx12, hx13, hx14, hx15, hx16, hx17, hx18, hx19, hx20, hx21, hx22, hx23, hx24, hx25, hx26, hx27⟩ := hx; obtain ⟨hm0, hm1, hm2, hm3, hm4, hm5, hm6, hm7, hm8, hm9, hm10, hm11, hm12, hm13, hm14, hm15, hm16, hm17, hm18, hm19, hm20, hm21, hm22, hm23, hm24, hm25, hm26, hm27, hm28, hm29, hm30, hm31, hm32, hm33, hm34, hm35, hm36, hm37, hm38, hm39, hm40, hm41, hm42, hm43, hm44⟩ := hm; obtain ⟨⟨⟨g1, g2⟩, ⟨g3, g4, g5, g6, g7⟩, g8, g9, g10⟩, r1, r2, r3, r4, r5, r6⟩ := hr
  have c4 := kN_nn (a := w) (by omega)
  have c5 := tnK (k := w) (by omega)
  have n1 : 6 * i + 22 ≠ 6 * i + 23 := by omega
  simp (config := {decide := true}) only [b_X0_place_0, f_X0_place, gI_pt hj, gR_pt hj, ob_pt hj, ck_pt hj, pI_pt hj, pB_pt hj, pR_pt hj, aI_pt hj, aR_pt hj, wI_pt hj, wJ_pt hj, aL_pt hj, cl1_s, cl1_n, cl1_i, cx1_s, cx1_x, cx1_n, cx1_i, nul_n, nul_s, nm, dv2, dv3, dv4, dv5, dv8, dv10, dv20, dv40, thr, bo, mI_pt hj, mT_pt hj, sB_pt, mZ_pt, mJ_pt, mJ_sJ, mZ_sJ, tn0, tn1, tn2, tn3, tn4, tn5, tn6, hx21 i hi, hx22 i hi, hx23 i hi, hx24 i hi, hx25 i hi, c4, c5, hw, up2_row n1, up2_at, ii0, ii1, ii2, ii3, ii4, if_true, if_false, ne_eq, not_false_eq_true, not_true_eq_false, true_and, and_true, false_and, and_false, and_self, true_or, or_true, false_or, or_false, or_self, Nat.reduceAdd, Nat.reduceLT, Nat.reduceLeDiff, Nat.succ_ne_zero, reduceIte, reduceCtorEq]
def cnB (f : Nat → Int32) : Nat → Nat
  | 0 => 0
  | k + 1 => cnB f k + if f k ≤ 0 then 0 else 1
theorem x_countB (h : Cx φ T I R z e0 nS nL cS cL mx cB bl n) (hi : i < 17) : f_X0_countBids (φ (6 * i + 22)) (pt φ T J R τ) = some (Int32.ofNat (cnB (J (6 * i + 23)) 4), pt φ T J R τ) := by
  have hj := h.hj
  have L := itr_loop (fun n (s' : Int32 × Int32) => l_X0_countBids_4 n (φ (6 * i + 22)) s'.1 s'.2 (pt φ T J R τ)) (fun k s' => s'.1 = Int32.ofNat (cnB (J (6 * i + 23)) k) ∧ s'.2 = Int32.ofNat k) 4 (by
    rintro n k ⟨acc, y⟩ hk ⟨h1, h2⟩
    simp only at h1 h2
    subst h1 h2
    refine ⟨(Int32.ofNat (cnB (J (6 * i + 23)) (k + 1)), Int32.ofNat (k + 1)), ⟨rfl, rfl⟩, ?_⟩
    have B := x_hasBid (J := J) (τ := τ) h hi hk
    have c1 : ¬ Int32.ofNat 4 ≤ Int32.ofNat k := by rw [kN_le (by omega) (by omega)]; omega
    obtain ⟨hj, hl, hx, hm, hr⟩ := h; obtain ⟨hx0, hx1, hx2, hx3, hx4, hx5, hx6, hx7, hx8, hx9, hx10, hx11, hx12, hx13, hx14, hx15, hx16, hx17, hx18, hx19, hx20, hx21, hx22, hx23, hx24, hx25, hx26, hx27⟩ := hx; obtain ⟨hm0, hm1, hm2, hm3, hm4, hm5, hm6, hm7, hm8, hm9, hm10, hm11, hm12, hm13, hm14, hm15, hm16, hm17, hm18, hm19, hm20, hm21, hm22, hm23, hm24, hm25, hm26, hm27, hm28, hm29, hm30, hm31, hm32, hm33, hm34, hm35, hm36, hm37, hm38, hm39, hm40, hm41, hm42, hm43, hm44⟩ := hm; obtain ⟨⟨⟨g1, g2⟩, ⟨g3, g4, g5, g6, g7⟩, g8, g9, g10⟩, r1, r2, r3, r4, r5, r6⟩ := hr
    by_cases c : J (6 * i + 23) k ≤ 0
    · rw [if_pos c] at B
      have e1 : cnB (J (6 * i + 23)) (k + 1) = cnB (J (6 * i + 23)) k := by simp only [cnB, c, if_true, Nat.add_zero]
      rw [e1]
      generalize cnB (J (6 * i + 23)) k = cc
      simp (config := {decide := true}) only [l_X0_countBids_4, itr_succ, b_X0_countBids_4, b_X0_countBids_24, B, gI_pt hj, gR_pt hj, ob_pt hj, ck_pt hj, pI_pt hj, pB_pt hj, pR_pt hj, aI_pt hj, aR_pt hj, wI_pt hj, wJ_pt hj, aL_pt hj, cl1_s, cl1_n, cl1_i, cx1_s, cx1_x, cx1_n, cx1_i, nul_n, nul_s, nm, dv2, dv3, dv4, dv5, dv8, dv10, dv20, dv40, thr, bo, mI_pt hj, mT_pt hj, sB_pt, mZ_pt, mJ_pt, mJ_sJ, mZ_sJ, tn0, tn1, tn2, tn3, tn4, tn5, tn6, hx21 i hi, hx22 i hi, hx24 i hi, c1, kN_s, ii0, ii1, ii2, ii3, ii4, if_true, if_false, ne_eq, not_false_eq_true, not_true_eq_false, true_and, and_true, false_and, and_false, and_self, true_or, or_true, false_or, or_false, or_self, Nat.reduceAdd, Nat.reduceLT, Nat.reduceLeDiff, Nat.succ_ne_zero, reduceIte, reduceCtorEq]
    · rw [if_neg c] at B
      have e1 : cnB (J (6 * i + 23)) (k + 1) = cnB (J (6 * i + 23)) k + 1 := by simp only [cnB, c, if_false]
      rw [e1]
      generalize cnB (J (6 * i + 23)) k = cc
      simp (config := {decide := true}) only [l_X0_countBids_4, itr_succ, b_X0_countBids_4, b_X0_countBids_24, B, gI_pt hj, gR_pt hj, ob_pt hj, ck_pt hj, pI_pt hj, pB_pt hj, pR_pt hj, aI_pt hj, aR_pt hj, wI_pt hj, wJ_pt hj, aL_pt hj, cl1_s, cl1_n, cl1_i, cx1_s, cx1_x, cx1_n, cx1_i, nul_n, nul_s, nm, dv2, dv3, dv4, dv5, dv8, dv10, dv20, dv40, thr, bo, mI_pt hj, mT_pt hj, sB_pt, mZ_pt, mJ_pt, mJ_sJ, mZ_sJ, tn0, tn1, tn2, tn3, tn4, tn5, tn6, hx21 i hi, hx22 i hi, hx24 i hi, c1, kN_s, ii0, ii1, ii2, ii3, ii4, if_true, if_false, ne_eq, not_false_eq_true, not_true_eq_false, true_and, and_true, false_and, and_false, and_self, true_or, or_true, false_or, or_false, or_self, Nat.reduceAdd, Nat.reduceLT, Nat.reduceLeDiff, Nat.succ_ne_zero, reduceIte, reduceCtorEq])
  obtain ⟨⟨acc, y⟩, ⟨h1, h2⟩, h5⟩ := L 4 0 40 (0, 0) (by omega) (by omega) ⟨by simp only [cnB]; rfl, rfl⟩
  simp only at h1 h2
  subst h1 h2
  generalize cnB (J (6 * i + 23)) 4 = cc at h5 ⊢
  have E : l_X0_countBids_4 36 (φ (6 * i + 22)) (Int32.ofNat cc) 4 (pt φ T J R τ) = some (Int32.ofNat cc, pt φ T J R τ) := by
    obtain ⟨hj, hl, hx, hm, hr⟩ := h; obtain ⟨hx0, hx1, hx2, hx3, hx4, hx5, hx6, hx7, hx8, hx9, hx10, hx11, hx12, hx13, hx14, hx15, hx16, hx17, hx18, hx19, hx20, hx21, hx22, hx23, hx24, hx25, hx26, hx27⟩ := hx; obtain ⟨hm0, hm1, hm2, hm3, hm4, hm5, hm6, hm7, hm8, hm9, hm10, hm11, hm12, hm13, hm14, hm15, hm16, hm17, hm18, hm19, hm20, hm21, hm22, hm23, hm24, hm25, hm26, hm27, hm28, hm29, hm30, hm31, hm32, hm33, hm34, hm35, hm36, hm37, hm38, hm39, hm40, hm41, hm42, hm43, hm44⟩ := hm; obtain ⟨⟨⟨g1, g2⟩, ⟨g3, g4, g5, g6, g7⟩, g8, g9, g10⟩, r1, r2, r3, r4, r5, r6⟩ := hr
    have t1 : (T (6 * i + 22)).1 = 2 + 1 := by rw [hx21 i hi]
    have t2 : 100 ≤ (T (6 * i + 23)).1 ∧ (T (6 * i + 23)).1 < 107 := by rw [hx24 i hi]; exact ⟨by omega, by omega⟩
    have t3 : Int32.ofNat (T (6 * i + 23)).2 ≤ 4 := by rw [hx24 i hi]; decide
    rw [l_X0_countBids_4, itr_36, b_X0_countBids_4, gR_pt hj t1, hx22 i hi, aL_pt hj t2, if_pos t3]
  exact h5.trans E
theorem cnB_len : ∀ (b : List (Nat × Int32)) (f : Nat → Int32), (∀ e ∈ b, e.1 < 4 ∧ ¬ f e.1 ≤ 0) → (∀ q, q < 4 → (∀ e ∈ b, e.1 ≠ q) → f q ≤ 0) → b.Pairwise (fun e g => e.1 ≠ g.1) → cnB f 4 = b.length := by
  intro b
  induction b with
  | nil =>
    intro f _ h2 _
    have h : ∀ q, q < 4 → f q ≤ 0 := fun q hq => h2 q hq (fun e he => by simp at he)
    simp only [cnB, h 0 (by omega), h 1 (by omega), h 2 (by omega), h 3 (by omega), if_true, List.length_nil]
  | cons e b ih =>
    intro f h1 h2 h3
    rw [List.pairwise_cons] at h3
    obtain ⟨e4, ef⟩ := h1 e (List.mem_cons_self ..)
    have I1 := ih (fun k => if k = e.1 then 0 else f k) (fun g hg => by
      obtain ⟨g1, g2⟩ := h1 g (List.mem_cons_of_mem _ hg)
      refine ⟨g1, ?_⟩
      have := h3.1 g hg
      simp only [if_neg (Ne.symm this)]; exact g2) (fun q hq hn => by
      by_cases c : q = e.1
      · simp only [c, if_true]; decide
      · simp only [if_neg c]
        refine h2 q hq (fun g hg => ?_)
        rcases List.mem_cons.mp hg with rfl | hg
        · exact Ne.symm c
        · exact hn g hg) h3.2
    rw [List.length_cons, ← I1]
    have z0 : (0 : Int32) ≤ 0 := by decide
    rcases (show e.1 = 0 ∨ e.1 = 1 ∨ e.1 = 2 ∨ e.1 = 3 by omega) with c | c | c | c <;> rw [c] at ef ⊢ <;> simp (config := {decide := true}) only [cnB, ef, if_true, if_false, z0] <;> omega
/-! the reference takes an older bid away -/
def ixB (d : Nat) : Int32 := if d = 0 then -1 else Int32.ofNat (d - 1)
theorem ixB_s : ixB (k + 1) = Int32.ofNat k := by simp [ixB]
theorem ixB_m (hk : k < 1000) : Int32.ofNat k + (-1) = ixB k := by
  cases k with
  | zero => rfl
  | succ m =>
    rw [ixB_s, ← kN_s]
    refine Int32.toInt_inj.mp ?_
    have e1 := kN_t (a := m) (by omega)
    have z1 : (1 : Int32).toInt = 1 := rfl
    have zm : (-1 : Int32).toInt = -1 := rfl
    have e2 : (Int32.ofNat m + 1).toInt = m + 1 := by rw [tAdd (by omega) (by omega), e1, z1]
    rw [tAdd (by omega) (by omega), e2, zm, e1]; omega
theorem m_remove (hj : Inj φ T) (h1 : T l = (2, 0)) (hs : J l 2 = Int32.ofNat s) (hsc : s ≤ c) (hs30 : s ≤ 30) (hr : R l 1 = some (φ w)) (hT : T w = (106, c)) (hlw : l ≠ w) (hk : k < s) (hel : ∀ k, k < s → ∃ u', R w k = some (φ u') ∧ ((T u').1 = 8 ∨ (T u').1 = 9 ∨ (T u').1 = 100)) : ∃ J' R', f_Jx4a65c_remove_915e3 (φ l) (Int32.ofNat k) (pt φ T J R τ) = some (R w k, pt φ T J' R' τ) ∧ (∀ v, v ≠ l → J' v = J v) ∧ J' l 2 = Int32.ofNat (s - 1) ∧ (∀ v, v ≠ w → R' v = R v) ∧ (∀ j, j < k → R' w j = R w j) ∧ (∀ j, k ≤ j → j < s - 1 → R' w j = R w (j + 1)) := by
  have hlk : (T l).1 = 1 + 1 := by rw [h1]
  have c1 : Int32.ofNat k < Int32.ofNat s := (kN_lt (by omega) (by omega)).mpr hk
  have c2 := kN_nn (a := k) (by omega)
  have c3 := tnK (k := k) (by omega)
  have c4 : k < c := by omega
  have sb : Int32.ofNat s - 1 = Int32.ofNat (s - 1) := by
    obtain ⟨m, rfl⟩ : ∃ m, s = m + 1 := ⟨s - 1, by omega⟩
    rw [← kN_s]; exact Int32.add_sub_cancel _ _
  have nj := kN_nn (a := s - 1) (by omega)
  have tj := tnK (k := s - 1) (by omega)
  obtain ⟨J1, hJ1⟩ : ∃ J1, J1 = up2 J l 0 (J l 0 + 1) := ⟨_, rfl⟩
  have i2 : J1 l 2 = Int32.ofNat s := by rw [hJ1, up2_k (by decide)]; exact hs
  have kJ : ∀ v, v ≠ l → up2 J1 l 2 (Int32.ofNat (s - 1)) v = J v := fun v hv => by rw [up2_row hv, hJ1, up2_row hv]
  by_cases q : k = s - 1
  · have c5 : Int32.ofNat (s - 1) ≤ Int32.ofNat k := (kN_le (by omega) (by omega)).mpr (by omega)
    refine ⟨up2 J1 l 2 (Int32.ofNat (s - 1)), up2 R w (s - 1) none, ?_, kJ, up2_at, fun v hv => up2_row hv, fun j hj => up2_k (by omega), fun j h1 h2 => by omega⟩
    have W : ∀ (K : Mem → Option (Unit × Mem)), wR 6 (pt φ T (up2 J1 l 2 (Int32.ofNat (s - 1))) R τ) (some (φ w)) (Int32.ofNat (s - 1)) none K = K (pt φ T (up2 J1 l 2 (Int32.ofNat (s - 1))) (up2 R w (s - 1) none) τ) := fun K => by
      rw [wR_pt hj (by rw [hT]) nj (by rw [hT, tj]; show s - 1 < c; omega) el_none, tj]
    rw [hJ1] at W i2 ⊢
    simp (config := {decide := true}) only [b_Jx4a65c_remove_915e3_0, f_Jx4a65c_remove_915e3, b_Jx4a65c_fastRemove_b59b0_34, b_Jx4a65c_fastRemove_b59b0_0, f_Jx4a65c_fastRemove_b59b0, b_J15_checkIndex_7cf53_0, f_J15_checkIndex_7cf53, b_J3_checkIndex_8e157_9, b_J3_checkIndex_8e157_0, f_J3_checkIndex_8e157, gI_pt hj, gR_pt hj, ob_pt hj, ck_pt hj, pI_pt hj, pB_pt hj, pR_pt hj, aI_pt hj, aR_pt hj, wI_pt hj, wJ_pt hj, aL_pt hj, cl1_s, cl1_n, cl1_i, cx1_s, cx1_x, cx1_n, cx1_i, nul_n, nul_s, nm, dv2, dv3, dv4, dv5, dv8, dv10, dv20, dv40, thr, bo, W, mI_pt hj, mT_pt hj, sB_pt, mZ_pt, mJ_pt, mJ_sJ, mZ_sJ, tn0, tn1, tn2, tn3, tn4, tn5, tn6, hlk, hs, i2, hr, hT, c1, c2, c3, c4, c5, sb, ii0, ii1, ii2, ii3, ii4, if_true, if_false, ne_eq, not_false_eq_true, not_true_eq_false, true_and, and_true, false_and, and_false, and_self, true_or, or_true, false_or, or_false, or_self, Nat.reduceAdd, Nat.reduceLT, Nat.reduceLeDiff, Nat.succ_ne_zero, reduceIte, reduceCtorEq]
  · have c5 : ¬ Int32.ofNat (s - 1) ≤ Int32.ofNat k := by rw [kN_le (by omega) (by omega)]; omega
    have sd : Int32.ofNat (s - 1) - Int32.ofNat k = Int32.ofNat (s - 1 - k) := by
      refine Int32.toInt_inj.mp ?_
      have e1 := kN_t (a := s - 1) (by omega)
      have e2 := kN_t (a := k) (by omega)
      have e3 := kN_t (a := s - 1 - k) (by omega)
      rw [tSub (by omega) (by omega), e1, e2, e3]; omega
    have n1 := kN_nn (a := k + 1) (by omega)
    have n2 := kN_nn (a := s - 1 - k) (by omega)
    have t1 := tnK (k := k + 1) (by omega)
    have t2 := tnK (k := s - 1 - k) (by omega)
    obtain ⟨R1, hR1⟩ : ∃ R1, R1 = rowS R w (va_cpy (R w) (R w) (k + 1) k (s - 1 - k)) := ⟨_, rfl⟩
    have CP : ∀ (K : Mem → Option (Unit × Mem)), cpR (pt φ T J1 R τ) (some (φ w)) (Int32.ofNat (k + 1)) (some (φ w)) (Int32.ofNat k) (Int32.ofNat (s - 1 - k)) K = K (pt φ T J1 R1 τ) := fun K => by
      rw [cpR_same hj hT n1 c2 n2 (by rw [t1, t2]; omega) (by rw [c3, t2]; omega) (fun i hi y hy => by
        rw [t2] at hi
        rw [t1] at hy
        obtain ⟨u', hu1, hu2⟩ := hel (k + 1 + i) (by omega)
        rw [hu1] at hy; cases hy
        exact el_pt hj hu2), t1, c3, t2, hR1]
    have hr1 : R1 l = R l := by rw [hR1, rowS_ne hlw]
    refine ⟨up2 J1 l 2 (Int32.ofNat (s - 1)), up2 R1 w (s - 1) none, ?_, kJ, up2_at, fun v hv => by rw [up2_row hv, hR1, rowS_ne hv], fun j hj => ?_, fun j h1 h2 => ?_⟩
    · have W : ∀ (K : Mem → Option (Unit × Mem)), wR 6 (pt φ T (up2 J1 l 2 (Int32.ofNat (s - 1))) R1 τ) (some (φ w)) (Int32.ofNat (s - 1)) none K = K (pt φ T (up2 J1 l 2 (Int32.ofNat (s - 1))) (up2 R1 w (s - 1) none) τ) := fun K => by
        rw [wR_pt hj (by rw [hT]) nj (by rw [hT, tj]; show s - 1 < c; omega) el_none, tj]
      rw [hJ1] at W i2 CP ⊢
      simp (config := {decide := true}) only [b_Jx4a65c_remove_915e3_0, f_Jx4a65c_remove_915e3, b_Jx4a65c_fastRemove_b59b0_34, b_Jx4a65c_fastRemove_b59b0_0, f_Jx4a65c_fastRemove_b59b0, b_J15_checkIndex_7cf53_0, f_J15_checkIndex_7cf53, b_J3_checkIndex_8e157_9, b_J3_checkIndex_8e157_0, f_J3_checkIndex_8e157, gI_pt hj, gR_pt hj, ob_pt hj, ck_pt hj, pI_pt hj, pB_pt hj, pR_pt hj, aI_pt hj, aR_pt hj, wI_pt hj, wJ_pt hj, aL_pt hj, cl1_s, cl1_n, cl1_i, cx1_s, cx1_x, cx1_n, cx1_i, nul_n, nul_s, nm, dv2, dv3, dv4, dv5, dv8, dv10, dv20, dv40, thr, bo, CP, W, mI_pt hj, mT_pt hj, sB_pt, mZ_pt, mJ_pt, mJ_sJ, mZ_sJ, tn0, tn1, tn2, tn3, tn4, tn5, tn6, hlk, hs, i2, hr, hT, c1, c2, c3, c4, c5, sb, sd, kN_s, ii0, ii1, ii2, ii3, ii4, if_true, if_false, ne_eq, not_false_eq_true, not_true_eq_false, true_and, and_true, false_and, and_false, and_self, true_or, or_true, false_or, or_false, or_self, Nat.reduceAdd, Nat.reduceLT, Nat.reduceLeDiff, Nat.succ_ne_zero, reduceIte, reduceCtorEq]
    · rw [up2_k (by omega), hR1, rowS_hit]; unfold va_cpy; rw [if_neg (by omega)]
    · rw [up2_k (by omega), hR1, rowS_hit]; unfold va_cpy; rw [if_pos ⟨h1, by omega⟩]; congr 1; omega
/-- no bid of this buyer from d1 to d2 -/
theorem m_bidNm (h : Cx φ T I R z e0 nS nL cS cL mx cB bl n) (iL : i < nL) (hw : w < 4) {b : List (Nat × Int32)} (hs : J (10 * i + 153) 2 = Int32.ofNat s) (hs30 : s ≤ 30) (hsc : s ≤ cB i) (hr : R' (10 * i + 153) 1 = some (φ (10 * i + 154))) (hb : ∀ (k : Nat) (e : Nat × Int32), k < d → b[k]? = some e → e.1 < 4 ∧ R' (10 * i + 154) k = some (φ (10 * i + 155 + e.1)) ∧ T (10 * i + 155 + e.1) = (100, 2) ∧ J (10 * i + 155 + e.1) 0 = Int32.ofNat e.1) (hds : d ≤ s) (hdb : d ≤ b.length) : ∀ d1 m, d1 ≤ d → d - d1 ≤ m → (∀ (k : Nat) (e : Nat × Int32), d1 ≤ k → k < d → b[k]? = some e → e.1 ≠ w) → l_X8_bid_108 e0 mi m (Int32.ofNat w) pr (some (φ (10 * i + 153))) (ixB d) (pt φ T J R' τ) = l_X8_bid_108 e0 mi (m - (d - d1)) (Int32.ofNat w) pr (some (φ (10 * i + 153))) (ixB d1) (pt φ T J R' τ) := by
  have hj := h.hj
  have key : ∀ x d1 m, d1 + x = d → x ≤ m → (∀ (k : Nat) (e : Nat × Int32), d1 ≤ k → k < d → b[k]? = some e → e.1 ≠ w) → l_X8_bid_108 e0 mi m (Int32.ofNat w) pr (some (φ (10 * i + 153))) (ixB d) (pt φ T J R' τ) = l_X8_bid_108 e0 mi (m - x) (Int32.ofNat w) pr (some (φ (10 * i + 153))) (ixB d1) (pt φ T J R' τ) := by
    intro x
    induction x with
    | zero => intro d1 m h1 _ _; rw [show d1 = d by omega]; rfl
    | succ x ih =>
      intro d1 m h1 h2 h3
      rw [ih (d1 + 1) m (by omega) (by omega) (fun k e a1 a2 a3 => h3 k e (by omega) a2 a3)]
      obtain ⟨m', hm'⟩ : ∃ m', m - x = m' + 1 := ⟨m - x - 1, by omega⟩
      rw [hm', show m - (x + 1) = m' by omega, ixB_s]
      obtain ⟨e, he⟩ : ∃ e, b[d1]? = some e := ⟨_, List.getElem?_eq_getElem (by omega)⟩
      obtain ⟨b1, b2, b3, b4⟩ := hb d1 e (by omega) he
      have ne := h3 d1 e (Nat.le_refl _) (by omega) he
      have c0 : ¬ Int32.ofNat e.1 = Int32.ofNat w := by rw [kN_eq (by omega) (by omega)]; exact ne
      have c1 : Int32.ofNat d1 < Int32.ofNat s := (kN_lt (by omega) (by omega)).mpr (by omega)
      have c2 := kN_nn (a := d1) (by omega)
      have c3 := tnK (k := d1) (by omega)
      have c4 : d1 < cB i := by omega
      have mm := ixB_m (k := d1) (by omega)
      obtain ⟨hj, hl, hx, hm, hr⟩ := h; obtain ⟨hx0, hx1, hx2, hx3, hx4, hx5, hx6, hx7, hx8, hx9, hx10, hx11, hx12, hx13, hx14, hx15, hx16, hx17, hx18, hx19, hx20, hx21, hx22, hx23, hx24, hx25, hx26, hx27⟩ := hx; obtain ⟨hm0, hm1, hm2, hm3, hm4, hm5, hm6, hm7, hm8, hm9, hm10, hm11, hm12, hm13, hm14, hm15, hm16, hm17, hm18, hm19, hm20, hm21, hm22, hm23, hm24, hm25, hm26, hm27, hm28, hm29, hm30, hm31, hm32, hm33, hm34, hm35, hm36, hm37, hm38, hm39, hm40, hm41, hm42, hm43, hm44⟩ := hm; obtain ⟨⟨⟨g1, g2⟩, ⟨g3, g4, g5, g6, g7⟩, g8, g9, g10⟩, r1, r2, r3, r4, r5, r6⟩ := hr
      have T4 := hm38 i iL (by omega)
      simp (config := {decide := true}) only [l_X8_bid_108, itr_succ, b_X8_bid_108, b_X8_bid_137, b_Jx4a65c_size_8abf5_0, f_Jx4a65c_size_8abf5, b_J3_checkIndex_8e157_9, b_J3_checkIndex_8e157_0, f_J3_checkIndex_8e157, b_J15_checkIndex_7cf53_0, f_J15_checkIndex_7cf53, b_Jx4a65c_elementData_915e3_0, f_Jx4a65c_elementData_915e3, b_Jx4a65c_get_915e3_0, f_Jx4a65c_get_915e3, gI_pt hj, gR_pt hj, ob_pt hj, ck_pt hj, pI_pt hj, pB_pt hj, pR_pt hj, aI_pt hj, aR_pt hj, wI_pt hj, wJ_pt hj, aL_pt hj, cl1_s, cl1_n, cl1_i, cx1_s, cx1_x, cx1_n, cx1_i, nul_n, nul_s, nm, dv2, dv3, dv4, dv5, dv8, dv10, dv20, dv40, thr, bo, mI_pt hj, mT_pt hj, sB_pt, mZ_pt, mJ_pt, mJ_sJ, mZ_sJ, tn0, tn1, tn2, tn3, tn4, tn5, tn6, hm35 i iL, hs, hr, T4, b2, b3, b4, c0, c1, c2, c3, c4, mm, ii0, ii1, ii2, ii3, ii4, if_true, if_false, ne_eq, not_false_eq_true, not_true_eq_false, true_and, and_true, false_and, and_false, and_self, true_or, or_true, false_or, or_false, or_self, Nat.reduceAdd, Nat.reduceLT, Nat.reduceLeDiff, Nat.succ_ne_zero, reduceIte, reduceCtorEq]
  intro d1 m h1 h2 h3
  have := key (d - d1) d1 m (by omega) (by omega) h3
  exact this
theorem m_bidRm (h : Cx φ T I R z e0 nS nL cS cL mx cB bl n) (iL : i < nL) (hw : w < 4) (hJ : ∀ v, 125 ≤ v → J v = I v) : ∃ (b' : List (Nat × Int32)) (J' : Nat → Nat → Int32) (R' : Nat → Nat → Option Nat) (m : Nat), l_X8_bid_108 e0 mi 40 (Int32.ofNat w) pr (some (φ (10 * i + 153))) (ixB (bl i).length) (pt φ T J R τ) = l_X8_bid_108 e0 mi (m + 1) (Int32.ofNat w) pr (some (φ (10 * i + 153))) (ixB 0) (pt φ T J' R' τ) ∧ (∀ v, v ≠ 10 * i + 153 → J' v = J v) ∧ (∀ v, v ≠ 10 * i + 154 → R' v = R v) ∧ J' (10 * i + 153) 2 = Int32.ofNat b'.length ∧ b'.length ≤ 3 ∧ b'.length ≤ cB i ∧ (∀ (k : Nat) (e : Nat × Int32), b'[k]? = some e → R' (10 * i + 154) k = some (φ (10 * i + 155 + e.1)) ∧ e ∈ bl i ∧ e.1 ≠ w) ∧ (∀ e ∈ bl i, e.1 ≠ w → e ∈ b') ∧ b'.Pairwise (fun e f => e.1 ≠ f.1 ∧ (I (6 * i + 24) e.1).toInt < (I (6 * i + 24) f.1).toInt) := by
  have h4 := bid_len (h.bidr iL)
  obtain ⟨B1, B2, B3, B4⟩ := h.bidr iL
  have bd := fun (k : Nat) (e : Nat × Int32) (hk : (bl i)[k]? = some e) => h.bd iL hk
  have J5 : ∀ q, J (10 * i + 155 + q) = I (10 * i + 155 + q) := fun q => hJ _ (by omega)
  obtain ⟨S36, S39, S38, S37, S35⟩ : I (10 * i + 153) 2 = Int32.ofNat (bl i).length ∧ (bl i).length ≤ cB i ∧ (cB i ≠ 0 → T (10 * i + 154) = (106, cB i)) ∧ R (10 * i + 153) 1 = some (if cB i = 0 then e0 else φ (10 * i + 154)) ∧ T (10 * i + 153) = (2, 0) := by
    obtain ⟨hj, hl, hx, hm, hr⟩ := h; obtain ⟨hx0, hx1, hx2, hx3, hx4, hx5, hx6, hx7, hx8, hx9, hx10, hx11, hx12, hx13, hx14, hx15, hx16, hx17, hx18, hx19, hx20, hx21, hx22, hx23, hx24, hx25, hx26, hx27⟩ := hx; obtain ⟨hm0, hm1, hm2, hm3, hm4, hm5, hm6, hm7, hm8, hm9, hm10, hm11, hm12, hm13, hm14, hm15, hm16, hm17, hm18, hm19, hm20, hm21, hm22, hm23, hm24, hm25, hm26, hm27, hm28, hm29, hm30, hm31, hm32, hm33, hm34, hm35, hm36, hm37, hm38, hm39, hm40, hm41, hm42, hm43, hm44⟩ := hm; obtain ⟨⟨⟨g1, g2⟩, ⟨g3, g4, g5, g6, g7⟩, g8, g9, g10⟩, r1, r2, r3, r4, r5, r6⟩ := hr
    exact ⟨hm36 i iL, hm39 i iL, hm38 i iL, hm37 i iL, hm35 i iL⟩
  have JS : J (10 * i + 153) 2 = Int32.ofNat (bl i).length := by rw [hJ _ (by omega)]; exact S36
  by_cases hex : ∃ (j : Nat) (e : Nat × Int32), (bl i)[j]? = some e ∧ e.1 = w
  · obtain ⟨j, e, he, hew⟩ := hex
    have jl := get_lt he
    have c0 : cB i ≠ 0 := by omega
    have hr : R (10 * i + 153) 1 = some (φ (10 * i + 154)) := by rw [S37, if_neg c0]
    have hT := S38 c0
    have oth : ∀ (k : Nat) (f : Nat × Int32), k ≠ j → (bl i)[k]? = some f → f.1 ≠ w := by
      intro k f hk hf
      rcases Nat.lt_or_gt_of_ne hk with y | y
      · have := (pw_idx B4 y hf he).1; omega
      · have := (pw_idx B4 y he hf).1; omega
    have N1 := m_bidNm (e0 := e0) (mi := mi) (d := (bl i).length) (b := bl i) (J := J) (R' := R) (τ := τ) (pr := pr) h iL hw JS (by omega) S39 hr (fun k e _ hk => by
      obtain ⟨b1, b2, b3, b4, -⟩ := bd k e hk
      exact ⟨b1, b2, b3, by rw [J5]; exact b4⟩) (Nat.le_refl _) (Nat.le_refl _) (j + 1) 40 (by omega) (by omega) (fun k f a1 a2 a3 => oth k f (by omega) a3)
    obtain ⟨J', R', E1, E2, E3, E4, E5, E6⟩ := m_remove (J := J) (τ := τ) (k := j) h.hj S35 JS S39 (by omega) hr hT (by omega) jl (fun k hk => by
      obtain ⟨b1, b2, b3, -, -⟩ := bd k _ (List.getElem?_eq_getElem hk)
      exact ⟨_, b2, Or.inr (Or.inr (by rw [b3]))⟩)
    have len' : ((bl i).eraseIdx j).length = (bl i).length - 1 := List.length_eraseIdx_of_lt jl
    have RB : ∀ (k : Nat) (f : Nat × Int32), ((bl i).eraseIdx j)[k]? = some f → R' (10 * i + 154) k = some (φ (10 * i + 155 + f.1)) ∧ ∃ k', k' ≠ j ∧ (bl i)[k']? = some f := by
      intro k f hf
      have kl := get_lt hf
      rw [List.getElem?_eraseIdx] at hf
      split at hf
      · rename_i hkj
        rw [E5 k hkj]
        exact ⟨(bd k f hf).2.1, k, by omega, hf⟩
      · rw [E6 k (by omega) (by omega)]
        exact ⟨(bd (k + 1) f hf).2.1, k + 1, by omega, hf⟩
    have N2 := m_bidNm (e0 := e0) (mi := mi) (d := j) (s := (bl i).length - 1) (b := bl i) (J := J') (R' := R') (τ := τ) (pr := pr) h iL hw E3 (by omega) (by omega) (by rw [E4 _ (by omega)]; exact hr) (fun k e hk hk2 => by
      obtain ⟨b1, b2, b3, b4, -⟩ := bd k e hk2
      exact ⟨b1, by rw [E5 k hk]; exact b2, b3, by rw [E2 _ (by omega), J5]; exact b4⟩) (by omega) (by omega) 0 (40 - ((bl i).length - (j + 1)) - 1) (by omega) (by omega) (fun k f a1 a2 a3 => oth k f (by omega) a3)
    obtain ⟨m', hm'⟩ : ∃ m', 40 - ((bl i).length - (j + 1)) = m' + 1 := ⟨39 - ((bl i).length - (j + 1)), by omega⟩
    refine ⟨(bl i).eraseIdx j, J', R', m' - j - 1, ?_, E2, E4, by rw [len']; exact E3, by omega, by omega, fun k f hf => ?_, fun f hf hne => ?_, B4.sublist (List.eraseIdx_sublist _ _)⟩
    · rw [N1]
      rw [hm', Nat.add_sub_cancel] at N2
      rw [hm', ixB_s, show m' - j - 1 + 1 = m' - (j - 0) by omega, ← N2]
      obtain ⟨b1, b2, b3, b4, b5⟩ := bd j e he
      have b4' : J (10 * i + 155 + e.1) 0 = Int32.ofNat w := by rw [J5, b4, hew]
      have c1 : Int32.ofNat j < Int32.ofNat (bl i).length := (kN_lt (by omega) (by omega)).mpr jl
      have c2 := kN_nn (a := j) (by omega)
      have c3 := tnK (k := j) (by omega)
      have c4 : j < cB i := by omega
      have mm := ixB_m (k := j) (by omega)
      have hj := h.hj
      simp (config := {decide := true}) only [l_X8_bid_108, itr_succ, b_X8_bid_108, b_X8_bid_137, b_Jx4a65c_size_8abf5_0, f_Jx4a65c_size_8abf5, b_J3_checkIndex_8e157_9, b_J3_checkIndex_8e157_0, f_J3_checkIndex_8e157, b_J15_checkIndex_7cf53_0, f_J15_checkIndex_7cf53, b_Jx4a65c_elementData_915e3_0, f_Jx4a65c_elementData_915e3, b_Jx4a65c_get_915e3_0, f_Jx4a65c_get_915e3, E1, gI_pt hj, gR_pt hj, ob_pt hj, ck_pt hj, pI_pt hj, pB_pt hj, pR_pt hj, aI_pt hj, aR_pt hj, wI_pt hj, wJ_pt hj, aL_pt hj, cl1_s, cl1_n, cl1_i, cx1_s, cx1_x, cx1_n, cx1_i, nul_n, nul_s, nm, dv2, dv3, dv4, dv5, dv8, dv10, dv20, dv40, thr, bo, mI_pt hj, mT_pt hj, sB_pt, mZ_pt, mJ_pt, mJ_sJ, mZ_sJ, tn0, tn1, tn2, tn3, tn4, tn5, tn6, S35, JS, hr, hT, b2, b3, b4', c1, c2, c3, c4, mm, ii0, ii1, ii2, ii3, ii4, if_true, if_false, ne_eq, not_false_eq_true, not_true_eq_false, true_and, and_true, false_and, and_false, and_self, true_or, or_true, false_or, or_false, or_self, Nat.reduceAdd, Nat.reduceLT, Nat.reduceLeDiff, Nat.succ_ne_zero, reduceIte, reduceCtorEq]
    · obtain ⟨r1, k', r2, r3⟩ := RB k f hf
      exact ⟨r1, List.mem_of_getElem? r3, oth k' f r2 r3⟩
    · obtain ⟨k', hk', he'⟩ := List.mem_iff_getElem.mp hf
      have hk2 : (bl i)[k']? = some f := by rw [← he']; exact List.getElem?_eq_getElem hk'
      have kne : k' ≠ j := by
        intro y; rw [y, he] at hk2; cases hk2; exact hne hew
      rcases Nat.lt_or_gt_of_ne kne with y | y
      · exact List.mem_of_getElem? (i := k') (by rw [List.getElem?_eraseIdx, if_pos y]; exact hk2)
      · exact List.mem_of_getElem? (i := k' - 1) (by rw [List.getElem?_eraseIdx, if_neg (by omega), show k' - 1 + 1 = k' by omega]; exact hk2)
  · have oth : ∀ (k : Nat) (f : Nat × Int32), (bl i)[k]? = some f → f.1 ≠ w := fun k f hf y => hex ⟨k, f, hf, y⟩
    have len3 : (bl i).length ≤ 3 := by
      have g : ∀ k, k < (bl i).length → ∃ e, (bl i)[k]? = some e ∧ e.1 < 4 ∧ e.1 ≠ w := fun k hk => ⟨(bl i)[k], List.getElem?_eq_getElem hk, (bd k _ (List.getElem?_eq_getElem hk)).1, oth k _ (List.getElem?_eq_getElem hk)⟩
      by_cases c : (bl i).length ≤ 3
      · exact c
      · obtain ⟨a0, p0, q0, w0⟩ := g 0 (by omega)
        obtain ⟨a1, p1, q1, w1⟩ := g 1 (by omega)
        obtain ⟨a2, p2, q2, w2⟩ := g 2 (by omega)
        obtain ⟨a3, p3, q3, w3⟩ := g 3 (by omega)
        have n01 := (pw_idx B4 (show 0 < 1 by decide) p0 p1).1
        have n02 := (pw_idx B4 (show 0 < 2 by decide) p0 p2).1
        have n03 := (pw_idx B4 (show 0 < 3 by decide) p0 p3).1
        have n12 := (pw_idx B4 (show 1 < 2 by decide) p1 p2).1
        have n13 := (pw_idx B4 (show 1 < 3 by decide) p1 p3).1
        have n23 := (pw_idx B4 (show 2 < 3 by decide) p2 p3).1
        omega
    by_cases e0l : (bl i).length = 0
    · have bnil : bl i = [] := List.length_eq_zero_iff.mp e0l
      refine ⟨bl i, J, R, 39, ?_, fun _ _ => rfl, fun _ _ => rfl, JS, len3, S39, fun k e hk => ⟨(bd k e hk).2.1, List.mem_of_getElem? hk, oth k e hk⟩, fun e he _ => he, B4⟩
      rw [e0l]
    · have c0 : cB i ≠ 0 := by omega
      have hr : R (10 * i + 153) 1 = some (φ (10 * i + 154)) := by rw [S37, if_neg c0]
      have N1 := m_bidNm (e0 := e0) (mi := mi) (d := (bl i).length) (b := bl i) (J := J) (R' := R) (τ := τ) (pr := pr) h iL hw JS (by omega) S39 hr (fun k e _ hk => by
        obtain ⟨b1, b2, b3, b4, -⟩ := bd k e hk
        exact ⟨b1, b2, b3, by rw [J5]; exact b4⟩) (Nat.le_refl _) (Nat.le_refl _) 0 40 (by omega) (by omega) (fun k f a1 a2 a3 => oth k f a3)
      refine ⟨bl i, J, R, 39 - (bl i).length, ?_, fun _ _ => rfl, fun _ _ => rfl, JS, len3, S39, fun k e hk => ⟨(bd k e hk).2.1, List.mem_of_getElem? hk, oth k e hk⟩, fun e he _ => he, B4⟩
      rw [N1]; congr 1; omega
end BI

/-! BID -/
section BO
variable {φ : Nat → Nat} {T : Nat → Nat × Nat} {I : Nat → Nat → Int32} {R : Nat → Nat → Option Nat} {τ : Mem} {e0 nS nL cS cL n z : Nat} {mx : Nat → Int32} {cB : Nat → Nat} {bl : Nat → List (Nat × Int32)}
variable {mi a k i j w s c d : Nat} {J J' : Nat → Nat → Int32} {R' : Nat → Nat → Option Nat} {p q r pr : Int32} {τ0 τ1 : Mem}
theorem ixB_of {s : Nat} (h : s < 1000) : Int32.ofNat s - 1 = ixB s := by
  cases s with
  | zero => rfl
  | succ m => rw [ixB_s, ← kN_s]; exact Int32.add_sub_cancel _ _
theorem op_bid {x m o : Nat} {σ : Mem} (q p r : Int32) (hn : n < 600) (h : Jn e0 x m o n σ) : Agr e0 x m o n (f_L_bid (some x) q p r (some o) σ) (fun σ => f_X8_bid e0 mi m q p r σ) := by
  obtain ⟨φ, T, I, R, τ, nS, nL, cS, cL, mx, cB, bl, rfl, ⟨rfl, rfl, rfl⟩, h⟩ := h
  have h : Cx φ T I R (mZ τ) e0 nS nL cS cL mx cB bl n := h
  have hj := h.hj
  have h0 := h.m.1
  have hx0 := h.m.2.2.2.2.2.2.2
  have h132 := h.m.2.2.2.2.2.2.1
  have h7 := h.m.2.2.2.1
  have h6 := h.m.2.2.1
  have hN := h.m.2.2.2.2.1
  have hS := h.m.2.2.2.2.2.1
  have h' : Cx φ T I R (mZ (sB τ)) e0 nS nL cS cL mx cB bl n := h.up (Nat.le_succ _)
  by_cases hq : InN q 4
  · have Q := x_reqI (N := 4) (pt φ T I R τ) (by omega) hq
    by_cases hp : InN p nL
    · have iL := (idx h.m.2.2.2.2.1 hp.1 hp.2).2.2.2.2
      generalize hi : p.toNatClampNeg = i at iL
      have T8 := h.t8 iL
      have E13 : I (6 * i + 22) 0 = I (10 * i + 150) 13 := (h.lr iL).1.2.2.2.2.2.2.2.2.2.2.2.2
      obtain ⟨T4, R15, T3, M14, T153⟩ : T (6 * i + 19) = (4, 0) ∧ R (6 * i + 19) 15 = some (φ (6 * i + 22)) ∧ T (6 * i + 22) = (3, 0) ∧ R (10 * i + 150) 14 = some (φ (10 * i + 153)) ∧ T (10 * i + 153) = (2, 0) := by
        obtain ⟨hj, hl, hx, hm, hr⟩ := h; obtain ⟨hx0, hx1, hx2, hx3, hx4, hx5, hx6, hx7, hx8, hx9, hx10, hx11, hx12, hx13, hx14, hx15, hx16, hx17, hx18, hx19, hx20, hx21, hx22, hx23, hx24, hx25, hx26, hx27⟩ := hx; obtain ⟨hm0, hm1, hm2, hm3, hm4, hm5, hm6, hm7, hm8, hm9, hm10, hm11, hm12, hm13, hm14, hm15, hm16, hm17, hm18, hm19, hm20, hm21, hm22, hm23, hm24, hm25, hm26, hm27, hm28, hm29, hm30, hm31, hm32, hm33, hm34, hm35, hm36, hm37, hm38, hm39, hm40, hm41, hm42, hm43, hm44⟩ := hm; obtain ⟨⟨⟨g1, g2⟩, ⟨g3, g4, g5, g6, g7⟩, g8, g9, g10⟩, r1, r2, r3, r4, r5, r6⟩ := hr
        exact ⟨hx15 i (by omega), hx18 i (by omega), hx21 i (by omega), hm34 i iL, hm35 i iL⟩
      have A := x_lotAt h hp hi
      have JJ : ∀ v, 125 ≤ v → up2 I 124 0 0 v = I v := fun v hv => up2_row (by omega)
      by_cases hr : 1 ≤ r ∧ r ≤ 99
      · by_cases hs : I (6 * i + 22) 0 ≤ 0
        · refine Agr.bad (k := 3) (b := 0) h (by decide) ?_ ?_
          · have O := x_isOpen (I := I) (R := R) (τ := τ) hj T3
            rw [if_pos hs] at O
            simp (config := {decide := true}) only [f_L_bid, b_L_bid_0, f_X4_bid, b_X4_bid_0, Q, show (4 : Int32) = Int32.ofNat 4 from rfl, A, x_req _ hr.1 hr.2, O, x_st0, gI_pt hj, gR_pt hj, ob_pt hj, ck_pt hj, pI_pt hj, pB_pt hj, pR_pt hj, aI_pt hj, aR_pt hj, wI_pt hj, wJ_pt hj, aL_pt hj, cl1_s, cl1_n, cl1_i, cx1_s, cx1_x, cx1_n, cx1_i, nul_n, nul_s, nm, dv2, dv3, dv4, dv5, dv8, dv10, dv20, dv40, thr, bo, mI_pt hj, mT_pt hj, sB_pt, mZ_pt, mJ_pt, mJ_sJ, mZ_sJ, tn0, tn1, tn2, tn3, tn4, tn5, tn6, hx0, T4, R15, T3, ii0, ii1, ii2, ii3, ii4, if_true, if_false, ne_eq, not_false_eq_true, not_true_eq_false, true_and, and_true, false_and, and_false, and_self, true_or, or_true, false_or, or_false, or_self, Nat.reduceAdd, Nat.reduceLT, Nat.reduceLeDiff, Nat.succ_ne_zero, reduceIte, reduceCtorEq]
          · have G := m_getJ (J := up2 I 124 0 0) (τ := sB τ) h' (JJ 126 (by omega)) hp hi
            have O := m_isOff (I := up2 I 124 0 0) (R := R) (τ := sB τ) hj T8
            rw [JJ _ (by omega), ← E13, if_pos hs] at O
            simp (config := {decide := true}) only [f_X8_bid, b_X8_bid_0, b_X8_bid_21, b_X8_bid_44, b_X8_bid_74, b_X8_bid_81, m_noBuy _ hq, m_noLot h' hp, m_start0 hj h0, m_isIn _ hr.1 hr.2, m_ref0 hj h0, m_ref1 hj h0 (show ¬ (3 : Int32) ≤ 0 by decide), G, O, gI_pt hj, gR_pt hj, ob_pt hj, ck_pt hj, pI_pt hj, pB_pt hj, pR_pt hj, aI_pt hj, aR_pt hj, wI_pt hj, wJ_pt hj, aL_pt hj, cl1_s, cl1_n, cl1_i, cx1_s, cx1_x, cx1_n, cx1_i, nul_n, nul_s, nm, dv2, dv3, dv4, dv5, dv8, dv10, dv20, dv40, thr, bo, mI_pt hj, mT_pt hj, sB_pt, mZ_pt, mJ_pt, mJ_sJ, mZ_sJ, tn0, tn1, tn2, tn3, tn4, tn5, tn6, h0, h7, h6, T8, ii0, ii1, ii2, ii3, ii4, if_true, if_false, ne_eq, not_false_eq_true, not_true_eq_false, true_and, and_true, false_and, and_false, and_self, true_or, or_true, false_or, or_false, or_self, Nat.reduceAdd, Nat.reduceLT, Nat.reduceLeDiff, Nat.succ_ne_zero, reduceIte, reduceCtorEq]
        · -- a bid
          obtain ⟨w, w4, rfl⟩ := hq.num (by decide)
          have l1 := leT hr.1
          have l2 := leT hr.2
          have z0 : (0 : Int32).toInt = 0 := rfl
          have z1' : (1 : Int32).toInt = 1 := rfl
          have z99 : (99 : Int32).toInt = 99 := rfl
          have h4 := bid_len (h.bidr iL)
          obtain ⟨⟨B1a, B1b⟩, B2, B3, B4⟩ := h.bidr iL
          have tt : (I (6 * i + 22) 1 + 1).toInt = (I (6 * i + 22) 1).toInt + 1 := tAdd (by omega) (by omega)
          obtain ⟨I1, hI1⟩ : ∃ I1, I1 = up2 (up2 (up2 I (6 * i + 22) 1 (I (6 * i + 22) 1 + 1)) (6 * i + 23) w r) (6 * i + 24) w (I (6 * i + 22) 1 + 1) := ⟨_, rfl⟩
          have f1 : ∀ v, v ≠ 6 * i + 22 → v ≠ 6 * i + 23 → v ≠ 6 * i + 24 → I1 v = I v := fun v y1 y2 y3 => by rw [hI1, up2_row y3, up2_row y2, up2_row y1]
          have f23 : ∀ k, I1 (6 * i + 23) k = if k = w then r else I (6 * i + 23) k := fun k => by
            rw [hI1, up2_row (by omega)]
            by_cases y : k = w
            · rw [y, up2_at, if_pos rfl]
            · rw [up2_k y, up2_row (by omega), if_neg y]
          have f24 : ∀ k, I1 (6 * i + 24) k = if k = w then I (6 * i + 22) 1 + 1 else I (6 * i + 24) k := fun k => by
            rw [hI1]
            by_cases y : k = w
            · rw [y, up2_at, if_pos rfl]
            · rw [up2_k y, up2_row (by omega), up2_row (by omega), if_neg y]
          have f22 : ∀ k, I1 (6 * i + 22) k = if k = 1 then I (6 * i + 22) 1 + 1 else I (6 * i + 22) k := fun k => by
            rw [hI1, up2_row (by omega), up2_row (by omega)]
            by_cases y : k = 1
            · rw [y, up2_at, if_pos rfl]
            · rw [up2_k y, if_neg y]
          obtain ⟨J, hJd⟩ : ∃ J, J = up2 I1 124 0 0 := ⟨_, rfl⟩
          have JI : ∀ v, 125 ≤ v → J v = I v := fun v hv => by rw [hJd, up2_row (by omega), f1 _ (by omega) (by omega) (by omega)]
          obtain ⟨v, hv⟩ : ∃ v, v = Int32.ofNat (cnB (I1 (6 * i + 23)) 4) := ⟨_, rfl⟩
          obtain ⟨τ1, hτ1⟩ : ∃ τ1, τ1 = sJ τ (φ 132) 0 v.toInt64 := ⟨_, rfl⟩
          have z1 : mZ τ1 = mZ τ := by rw [hτ1]; rfl
          have j1 : mJ τ1 (φ 132) 0 = v.toInt64 := by rw [hτ1]; exact sJ_at
          have hl1 : live T φ (mZ τ1) := by rw [z1]; exact h.hl
          obtain ⟨b', J', R', m, LL, D1, D2, D3, D4, D5, D6, D7, D8⟩ := m_bidRm (e0 := e0) (mi := mi) (pr := r) (J := J) (τ := τ1) h iL w4 JI
          have pb : (b' ++ [(w, r)]).Pairwise (fun e g => e.1 ≠ g.1 ∧ (I1 (6 * i + 24) e.1).toInt < (I1 (6 * i + 24) g.1).toInt) := by
            rw [List.pairwise_append]
            refine ⟨?_, List.pairwise_singleton _ _, fun e he g hg => ?_⟩
            · refine D8.imp_of_mem ?_
              intro e g he hg hp
              obtain ⟨ke, e1, e2⟩ := List.mem_iff_getElem.mp he
              obtain ⟨kg, g1, g2⟩ := List.mem_iff_getElem.mp hg
              have en := (D6 ke e (by rw [← e2]; exact List.getElem?_eq_getElem e1)).2.2
              have gn := (D6 kg g (by rw [← g2]; exact List.getElem?_eq_getElem g1)).2.2
              rw [f24, f24, if_neg en, if_neg gn]; exact hp
            · obtain ⟨ke, e1, e2⟩ := List.mem_iff_getElem.mp he
              obtain ⟨-, em, en⟩ := D6 ke e (by rw [← e2]; exact List.getElem?_eq_getElem e1)
              have gw : g = (w, r) := by simpa using hg
              rw [gw, f24, f24, if_neg en, if_pos rfl, tt]
              have := (B2 e em).2.2.2.2
              exact ⟨en, by omega⟩
          have mem' : ∀ e ∈ b', e ∈ bl i ∧ e.1 ≠ w := fun e he => by
            obtain ⟨ke, e1, e2⟩ := List.mem_iff_getElem.mp he
            exact (D6 ke e (by rw [← e2]; exact List.getElem?_eq_getElem e1)).2
          have hv2 : v = Int32.ofNat (b'.length + 1) := by
            rw [hv, cnB_len (b' ++ [(w, r)]) (I1 (6 * i + 23)) (fun e he => ?_) (fun x hx hne => ?_) (pb.imp (fun y => y.1)), len_app]
            · rcases List.mem_append.mp he with he | he
              · obtain ⟨em, en⟩ := mem' e he
                obtain ⟨y1, y2, y3, y4, y5⟩ := B2 e em
                rw [f23, if_neg en, y4]
                exact ⟨y1, fun q => by have := leT q; omega⟩
              · have ew : e = (w, r) := by simpa using he
                rw [ew, f23, if_pos rfl]
                exact ⟨w4, fun q => by have := leT q; omega⟩
            · have xw : x ≠ w := fun y => hne (w, r) (List.mem_append.mpr (Or.inr (by simp))) y.symm
              rw [f23, if_neg xw, B3 x hx (fun e he y => ?_)]
              · exact Int32.le_refl _
              · exact hne e (List.mem_append.mpr (Or.inl (D7 e he (by rw [y]; exact xw)))) y
          -- the new row of two
          have hoz : Off φ T (mZ τ1) := Off.of hl1 (Nat.le_refl _)
          obtain ⟨τ2, W, T2, Z2, -, K2, z2⟩ := nA_ex (J := J') (R := R') (τ1 := τ1) (p := 2) (c := 2) (t := 0) (bd := 2) hoz (by decide) rfl (by decide)
          obtain ⟨τ3, W1, T3', A3, B3', K3, z3⟩ := wI_ex (J := J') (R := R') (p := 0) (v := Int32.ofNat w) (k := 0) hj hoz T2 (by decide) rfl (by decide)
          obtain ⟨τ4, W2, T4', A4, B4', K4, z4⟩ := wI_ex (J := J') (R := R') (p := 1) (v := r) (k := 1) hj hoz T3' (by decide) rfl (by decide)
          have zz4 : mZ τ4 = mZ τ1 + 1 := by rw [z4, z3, z2]
          obtain ⟨φ1, T1, J1, R1, τ5, eq1, inj1, live1, ph1, pT1, pI1, pR1, aP1, aT1, aI1, aR1, zz1, of1, jj1⟩ := take1 (I := J') (R := R') (10 * i + 155 + w) hj hl1 (Nat.le_refl _) T4' (by decide)
          have hm' := h.2.2.2.1
          have hr' := h.2.2.2.2
          have hx' := h.2.2.1
          obtain ⟨hm0, hm1, hm2, hm3, hm4, hm5, hm6, hm7, hm8, hm9, hm10, hm11, hm12, hm13, hm14, hm15, hm16, hm17, hm18, hm19, hm20, hm21, hm22, hm23, hm24, hm25, hm26, hm27, hm28, hm29, hm30, hm31, hm32, hm33, hm34, hm35, hm36, hm37, hm38, hm39, hm40, hm41, hm42, hm43, hm44⟩ := hm'
          have n39 := hm39 i iL
          have n43 := hm43 i iL
          have L := list_add (e0 := e0) (mi := mi) (l := 10 * i + 153) (w := 10 * i + 154) (s := b'.length) (c := cB i) (u := 10 * i + 155 + w) (I := J1) (R := R1) (τ := τ5) inj1 (by rw [zz1, zz4]; exact live1) (by rw [aT1 _ (by omega)]; exact hm35 i iL) (by omega) (by rw [aI1 _ (by omega)]; exact D3) D5 (by omega) (by omega) (by
              rw [aR1 _ (by omega), D2 _ (by omega), hm37 i iL]
              by_cases q0 : cB i = 0
              · rw [if_pos q0, if_pos q0]
              · rw [if_neg q0, if_neg q0, aP1 _ (by omega)]) (by
              intro hc; rw [aT1 _ (by omega)]; exact hm38 i iL hc) (by rw [aT1 _ (by omega)]; exact hm41) (by rw [aP1 _ (by omega)]; exact hm42) (by omega) (by omega) (by
              right; right; rw [pT1]) (fun k hk => by
              obtain ⟨e1, e2, e3⟩ := D6 k _ (List.getElem?_eq_getElem hk)
              obtain ⟨ke, k1, k2⟩ := List.mem_iff_getElem.mp e2
              obtain ⟨y1, y2, y3, -, -⟩ := h.bd (k := ke) iL (show (bl i)[ke]? = some b'[k] by rw [← k2]; exact List.getElem?_eq_getElem k1)
              exact ⟨10 * i + 155 + b'[k].1, by rw [aR1 _ (by omega), e1, aP1 _ (by omega)], Or.inr (Or.inr (by rw [aT1 _ (by omega), y3]))⟩)
          obtain ⟨φ3, T3'', I3, R3, τ6, c3, LA, inj3, live3, ⟨c3a, c3b⟩, LT, LP, LI, L2, LI2, LR, LR2, L1, LRk, LRs, Lz, Lj, Lnn⟩ := L
          have fP : ∀ v, v ≠ 10 * i + 154 → v ≠ 10 * i + 155 + w → φ3 v = φ v := fun v y1 y2 => by rw [(LP v y1).1, aP1 v y2]
          have fT : ∀ v, v ≠ 10 * i + 154 → v ≠ 10 * i + 155 + w → T3'' v = T v := fun v y1 y2 => by rw [(LP v y1).2, aT1 v y2]
          have fR : ∀ v, v ≠ 10 * i + 154 → v ≠ 10 * i + 153 → v ≠ 10 * i + 155 + w → R3 v = R v := fun v y1 y2 y3 => by rw [LR v y1 y2, aR1 v y3, D2 v y1]
          have fJ : ∀ v, v ≠ 10 * i + 154 → v ≠ 10 * i + 153 → v ≠ 10 * i + 155 + w → I3 v = J v := fun v y1 y2 y3 => by rw [LI v y1 y2, aI1 v y3, D1 v y2]
          have fI : ∀ v, v ≠ 10 * i + 154 → v ≠ 10 * i + 153 → v ≠ 10 * i + 155 + w → v ≠ 124 → v ≠ 6 * i + 22 → v ≠ 6 * i + 23 → v ≠ 6 * i + 24 → I3 v = I v := fun v y1 y2 y3 y4 y5 y6 y7 => by rw [fJ v y1 y2 y3, hJd, up2_row y4, f1 v y5 y6 y7]
          have g22 : ∀ k, I3 (6 * i + 22) k = if k = 1 then I (6 * i + 22) 1 + 1 else I (6 * i + 22) k := fun k => by rw [fJ _ (by omega) (by omega) (by omega), hJd, up2_row (by omega), f22]
          have g23 : ∀ k, I3 (6 * i + 23) k = if k = w then r else I (6 * i + 23) k := fun k => by rw [fJ _ (by omega) (by omega) (by omega), hJd, up2_row (by omega), f23]
          have g24 : I3 (6 * i + 24) = I1 (6 * i + 24) := by rw [fJ _ (by omega) (by omega) (by omega), hJd, up2_row (by omega)]
          have g124 : ∀ k, k ≠ 0 → I3 124 k = I 124 k := fun k hk => by rw [fJ _ (by omega) (by omega) (by omega), hJd, up2_k hk, f1 _ (by omega) (by omega) (by omega)]
          have g124' : I3 124 0 = 0 := by rw [fJ _ (by omega) (by omega) (by omega), hJd, up2_at]
          have a36 := L2
          have a37 := L1
          have a38 := LT
          have a40 : ∀ (k : Nat) (b : Nat × Int32), b'[k]? = some b → b.1 < 4 ∧ R3 (10 * i + 154) k = some (φ3 (10 * i + 155 + b.1)) ∧ T3'' (10 * i + 155 + b.1) = (100, 2) ∧ I3 (10 * i + 155 + b.1) 0 = Int32.ofNat b.1 ∧ I3 (10 * i + 155 + b.1) 1 = b.2 := by
            intro k b hb
            obtain ⟨e1, e2, e3⟩ := D6 k b hb
            obtain ⟨ke, k1, k2⟩ := List.mem_iff_getElem.mp e2
            obtain ⟨y1, y2, y3, y4, y5⟩ := h.bd (k := ke) iL (show (bl i)[ke]? = some b by rw [← k2]; exact List.getElem?_eq_getElem k1)
            refine ⟨y1, ?_, ?_, ?_, ?_⟩
            · rw [LRk k (get_lt hb), aR1 _ (by omega), e1, fP _ (by omega) (by omega)]
            · rw [fT _ (by omega) (by omega)]; exact y3
            · rw [fI _ (by omega) (by omega) (by omega) (by omega) (by omega) (by omega) (by omega)]; exact y4
            · rw [fI _ (by omega) (by omega) (by omega) (by omega) (by omega) (by omega) (by omega)]; exact y5
          have a40' : w < 4 ∧ R3 (10 * i + 154) b'.length = some (φ3 (10 * i + 155 + w)) ∧ T3'' (10 * i + 155 + w) = (100, 2) ∧ I3 (10 * i + 155 + w) 0 = Int32.ofNat w ∧ I3 (10 * i + 155 + w) 1 = r := by
            refine ⟨w4, ?_, ?_, ?_, ?_⟩
            · rw [LRs, (LP _ (by omega)).1]
            · rw [(LP _ (by omega)).2, pT1]
            · rw [LI _ (by omega) (by omega), pI1, B4' 0 (by decide)]; exact A3
            · rw [LI _ (by omega) (by omega), pI1]; exact A4
          have hCx : Cx φ3 T3'' I3 R3 (mZ τ6) e0 nS nL cS cL mx (rowS cB i c3) (rowS bl i (b' ++ [(w, r)])) (n + 1) := by
            refine ⟨inj3, live3, hx'.frame (fun v hv => fP v (by omega) (by omega)) (fun v hv => fT v (by omega) (by omega)) (fun v hv => fR v (by omega) (by omega) (by omega)), ?_, ?_⟩
            · unfold SM
              refine ⟨?_, ?_, ?_, ?_, ?_, ?_, ?_, ?_, ?_, ?_, ?_, ?_, ?_, ?_, ?_, ?_, ?_, ?_, ?_, ?_, ?_, ?_, ?_, ?_, ?_, ?_, ?_, ?_, ?_, ?_, ?_, ?_, ?_, ?_, ?_, ?_, ?_, ?_, ?_, ?_, ?_, ?_, ?_, ?_, ?_⟩
              · (try simp (disch := omega) only [fP, fT, fR]); exact hm0
              · (try simp (disch := omega) only [fP, fT, fR]); exact hm1
              · (try simp (disch := omega) only [fP, fT, fR]); exact hm2
              · (try simp (disch := omega) only [fP, fT, fR]); exact hm3
              · (try simp (disch := omega) only [fP, fT, fR]); exact hm4
              · (try simp (disch := omega) only [fP, fT, fR]); exact hm5
              · (try simp (disch := omega) only [fP, fT, fR]); exact hm6
              · (try simp (disch := omega) only [fP, fT, fR]); exact hm7
              · (try simp (disch := omega) only [fP, fT, fR]); exact hm8
              · (try simp (disch := omega) only [fP, fT, fR]); exact hm9
              · intro i hi; (try simp (disch := omega) only [fP, fT, fR]); exact hm10 i hi
              · intro i hi; (try simp (disch := omega) only [fP, fT, fR]); exact hm11 i hi
              · rw [fI 125 (by omega) (by omega) (by omega) (by omega) (by omega) (by omega) (by omega)]; exact hm12
              · rw [fI 126 (by omega) (by omega) (by omega) (by omega) (by omega) (by omega) (by omega)]; exact hm13
              · (try simp (disch := omega) only [fP, fT, fR]); exact hm14
              · (try simp (disch := omega) only [fP, fT, fR]); exact hm15
              · intro hi; (try simp (disch := omega) only [fP, fT, fR]); exact hm16 hi
              · intro hi; (try simp (disch := omega) only [fP, fT, fR]); exact hm17 hi
              · exact hm18
              · exact hm19
              · exact hm20
              · exact hm21
              · exact hm22
              · exact hm23
              · intro i hi; (try simp (disch := omega) only [fP, fT, fR]); exact hm24 i hi
              · intro i hi; (try simp (disch := omega) only [fP, fT, fR]); exact hm25 i hi
              · intro i hi; (try simp (disch := omega) only [fP, fT, fR]); exact hm26 i hi
              · intro i hi; (try simp (disch := omega) only [fP, fT, fR]); exact hm27 i hi
              · intro i hi; (try simp (disch := omega) only [fP, fT, fR]); exact hm28 i hi
              · intro i hi; (try simp (disch := omega) only [fP, fT, fR]); exact hm29 i hi
              · intro i hi; (try simp (disch := omega) only [fP, fT, fR]); exact hm30 i hi
              · intro i hi; (try simp (disch := omega) only [fP, fT, fR]); exact hm31 i hi
              · intro i hi; (try simp (disch := omega) only [fP, fT, fR]); exact hm32 i hi
              · intro i hi; (try simp (disch := omega) only [fP, fT, fR]); exact hm33 i hi
              · intro i hi; (try simp (disch := omega) only [fP, fT, fR]); exact hm34 i hi
              · intro i hi; (try simp (disch := omega) only [fP, fT, fR]); exact hm35 i hi
              · intro i' hi'
                by_cases q : i' = i
                · subst q; rw [rowS_hit, len_app]; exact a36
                · have q2 : ¬ i' = i := q
                  simp (disch := omega) only [rowS_ne q, fP, fT, fR, fI]; exact hm36 i' hi'
              · intro i' hi'
                by_cases q : i' = i
                · subst q; rw [rowS_hit, if_neg (by omega)]; exact a37
                · have q2 : ¬ i' = i := q
                  simp (disch := omega) only [rowS_ne q, fP, fT, fR, fI]; exact hm37 i' hi'
              · intro i' hi'
                by_cases q : i' = i
                · subst q; rw [rowS_hit]; exact fun _ => a38
                · have q2 : ¬ i' = i := q
                  simp (disch := omega) only [rowS_ne q, fP, fT, fR, fI]; exact hm38 i' hi'
              · intro i' hi'
                by_cases q : i' = i
                · subst q; rw [rowS_hit, rowS_hit, len_app]; omega
                · rw [rowS_ne q, rowS_ne q]; exact hm39 i' hi'
              · intro i' hi' k b hb
                by_cases q : i' = i
                · subst q
                  rw [rowS_hit] at hb
                  rcases get_app hb with hb | ⟨hb, hb2⟩
                  · exact a40 k b hb
                  · rw [hb, hb2]; exact a40'
                · rw [rowS_ne q] at hb
                  have hb4 := (hm40 i' hi' k b hb).1
                  simp (disch := omega) only [fP, fT, fR, fI]
                  exact hm40 i' hi' k b hb
              · (try simp (disch := omega) only [fP, fT, fR]); exact hm41
              · (try simp (disch := omega) only [fP, fT, fR]); exact hm42
              · intro i' hi'
                by_cases q : i' = i
                · subst q; rw [rowS_hit]; omega
                · rw [rowS_ne q]; exact hm43 i' hi'
              · intro k' y1 y2; (try simp (disch := omega) only [fP, fT, fR]); exact hm44 k' y1 y2
            · obtain ⟨⟨⟨g1, g2⟩, ⟨g3, g4, g5, g6, g7⟩, g8, g9, g10⟩, r1, r2, r3, r4, r5, r6⟩ := hr'
              refine ⟨⟨⟨?_, ?_⟩, ⟨?_, ?_, ?_, ?_, ?_⟩, ?_, ?_, ?_⟩, fun i' hi' => ?_, fun i' y1 y2 => ?_, fun i' hi' => ?_, fun i' y1 y2 => ?_, fun i' hi' => ?_, ?_⟩
              · simp (disch := omega) only [fI]; exact g1
              · simp (disch := omega) only [fI]; exact g2
              · rw [g124 1 (by decide)]; simp (disch := omega) only [fI]; exact g3
              · rw [g124 2 (by decide)]; simp (disch := omega) only [fI]; exact g4
              · rw [g124 3 (by decide)]; simp (disch := omega) only [fI]; exact g5
              · rw [g124 4 (by decide)]; simp (disch := omega) only [fI]; exact g6
              · rw [g124 5 (by decide)]; simp (disch := omega) only [fI]; exact g7
              · simp (disch := omega) only [fI]; exact g8
              · simp (disch := omega) only [fI]; exact g9
              · simp (disch := omega) only [fI]; exact g10
              · by_cases q : i' = i
                · subst q
                  rw [rowS_hit]
                  obtain ⟨⟨E0, E2, E3, E4, E5, E6, E7, E8, E9, E10, E11, E12, E13⟩, qB, qC, qD, qE, qF, qG, ⟨qH1, qH2, qH3, qH4⟩, qK⟩ := r1 i' hi'
                  simp (disch := omega) only [fI]
                  have x0 : I3 (6 * i' + 22) 0 = I (6 * i' + 22) 0 := by rw [g22]; rfl
                  have x1 : I3 (6 * i' + 22) 1 = I (6 * i' + 22) 1 + 1 := by rw [g22]; rfl
                  refine ⟨⟨E0, E2, E3, E4, E5, E6, E7, E8, E9, E10, E11, E12, by rw [x0]; exact E13⟩, qB, qC, qD, qE, qF, ⟨qG.1, by have := qG.2; omega⟩, ⟨by rw [x0]; exact qH1, by rw [x0]; exact qH2, by rw [x0]; exact qH3, fun _ => ?_⟩, ⟨⟨by rw [x1, tt]; omega, by rw [x1, tt]; omega⟩, fun e he => ?_, fun x hx hne => ?_, ?_⟩⟩
                  · rw [x0]; intro y; rw [y] at hs; exact hs (by decide)
                  · rcases List.mem_append.mp he with he | he
                    · obtain ⟨em, en⟩ := mem' e he
                      obtain ⟨y1, y2, y3, y4, y5⟩ := B2 e em
                      rw [g23, if_neg en, g24, f24, if_neg en, x1, tt]
                      exact ⟨y1, y2, y3, y4, by omega⟩
                    · have ew : e = (w, r) := by simpa using he
                      rw [ew, g23, if_pos rfl, g24, f24, if_pos rfl, x1]
                      exact ⟨w4, (show 1 ≤ r.toInt by omega), (show r.toInt ≤ 99 by omega), rfl, Int.le_refl _⟩
                  · have xw : x ≠ w := fun y => hne (w, r) (List.mem_append.mpr (Or.inr (by simp))) y.symm
                    rw [g23, if_neg xw]
                    exact B3 x hx (fun e he y => hne e (List.mem_append.mpr (Or.inl (D7 e he (by rw [y]; exact xw)))) y)
                  · rw [g24]; exact pb
                · rw [rowS_ne q]
                  simp (disch := omega) only [fI]; exact (r1 i' hi').mono (Nat.le_succ _)
              · simp (disch := omega) only [fI]; exact r2 i' y1 y2
              · simp (disch := omega) only [fI]; exact (r3 i' hi').mono (Nat.le_succ _)
              · simp (disch := omega) only [fI]; exact r4 i' y1 y2
              · simp (disch := omega) only [fI]; exact (r5 i' hi').mono (Nat.le_succ _)
              · unfold SumR
                rw [sumZ_congr (g := fun i => (I (6 * i + 19) 1).toInt)]
                · exact r6
                · intro j hj; simp (disch := omega) only [fI]
          have e132 : φ3 132 = φ 132 := fP 132 (by omega) (by omega)
          have e0' : φ3 0 = φ 0 := fP 0 (by omega) (by omega)
          have e124 : φ3 124 = φ 124 := fP 124 (by omega) (by omega)
          have G := Agr.fin (X := f_L_bid (some (φ 0)) (Int32.ofNat w) p r (some (φ 132)) (pt φ T I R τ)) (M := fun σ => f_X8_bid e0 mi (φ 124) (Int32.ofNat w) p r σ) (b := v) (σ1 := pt φ T I1 R τ1) hCx ?_ ?_ g124' ?_
          · rw [e132, e0', e124] at G; exact G
          · have O := x_isOpen (I := I) (R := R) (τ := τ) hj T3
            rw [if_neg hs] at O
            have PL := x_place (J := I) (τ := τ) (pr := r) h (show i < 17 by omega) w4
            rw [← hI1] at PL
            have CN := x_countB (J := I1) (τ := τ) h (show i < 17 by omega)
            rw [← hv] at CN
            simp (config := {decide := true}) only [f_L_bid, b_L_bid_0, f_X4_bid, b_X4_bid_0, Q, show (4 : Int32) = Int32.ofNat 4 from rfl, A, x_req _ hr.1 hr.2, O, x_st1, PL, CN, gI_pt hj, gR_pt hj, ob_pt hj, ck_pt hj, pI_pt hj, pB_pt hj, pR_pt hj, aI_pt hj, aR_pt hj, wI_pt hj, wJ_pt hj, aL_pt hj, cl1_s, cl1_n, cl1_i, cx1_s, cx1_x, cx1_n, cx1_i, nul_n, nul_s, nm, dv2, dv3, dv4, dv5, dv8, dv10, dv20, dv40, thr, bo, mI_pt hj, mT_pt hj, sB_pt, mZ_pt, mJ_pt, mJ_sJ, mZ_sJ, tn0, tn1, tn2, tn3, tn4, tn5, tn6, hx0, T4, R15, T3, h132, ii0, ii1, ii2, ii3, ii4, if_true, if_false, ne_eq, not_false_eq_true, not_true_eq_false, true_and, and_true, false_and, and_false, and_self, true_or, or_true, false_or, or_false, or_self, Nat.reduceAdd, Nat.reduceLT, Nat.reduceLeDiff, Nat.succ_ne_zero, reduceIte, reduceCtorEq]
            rw [hτ1]
          · have h1' : Cx φ T I R (mZ τ1) e0 nS nL cS cL mx cB bl n := by rw [z1]; exact h
            have NL := m_noLotJ (J := I1) (τ := τ1) h (f1 126 (by omega) (by omega) (by omega)) hp
            have G1 := m_getJ (J := J) (τ := τ1) h (JI 126 (by omega)) hp hi
            have O := m_isOff (I := J) (R := R) (τ := τ1) hj T8
            rw [JI _ (by omega), ← E13, if_neg hs] at O
            have ixb := ixB_of (s := (bl i).length) (by omega)
            have S153 : J (10 * i + 153) 2 = Int32.ofNat (bl i).length := by rw [JI _ (by omega)]; exact hm36 i iL
            have LB : f_Jx4a65c_add_9ea2d e0 mi (φ (10 * i + 153)) (some (mZ τ1)) (pt φ T J' R' τ4) = some (1, pt φ3 T3'' I3 R3 τ6) := by
              have u2 : φ1 (10 * i + 153) = φ (10 * i + 153) := aP1 _ (by omega)
              rw [ph1, u2] at LA
              rw [eq1]; exact LA
            have SZ : f_Jx4a65c_size_8abf5 (φ (10 * i + 153)) (pt φ3 T3'' I3 R3 τ6) = some (v, pt φ3 T3'' I3 R3 τ6) := by
              have u2 : φ3 (10 * i + 153) = φ (10 * i + 153) := fP _ (by omega) (by omega)
              have t2 : (T3'' (10 * i + 153)).1 = 1 + 1 := by rw [fT _ (by omega) (by omega), hm35 i iL]
              rw [← u2, f_Jx4a65c_size_8abf5, b_Jx4a65c_size_8abf5_0, gI_pt inj3 t2, a36, hv2]
            have OB3 : ∀ {β : Type} (K : Nat → Option β), ob 1 (pt φ3 T3'' I3 R3 τ6) (some (φ (10 * i + 153))) K = K (φ (10 * i + 153)) := by
              intro β K
              have u2 : φ3 (10 * i + 153) = φ (10 * i + 153) := fP _ (by omega) (by omega)
              have t2 : (T3'' (10 * i + 153)).1 = 1 + 1 := by rw [fT _ (by omega) (by omega), hm35 i iL]
              rw [← u2, ob_pt inj3 t2]
            have EX : l_X8_bid_108 e0 mi (m + 1) (Int32.ofNat w) r (some (φ (10 * i + 153))) (ixB 0) (pt φ T J' R' τ1) = some (v, pt φ3 T3'' I3 R3 τ6) := by
              simp (config := {decide := true}) only [l_X8_bid_108, itr_succ, b_X8_bid_108, show ixB 0 = -1 from rfl, show (-1 : Int32) < 0 by decide, W, W1, W2, LB, gI_pt hj, gR_pt hj, ob_pt hj, ck_pt hj, pI_pt hj, pB_pt hj, pR_pt hj, aI_pt hj, aR_pt hj, wI_pt hj, wJ_pt hj, aL_pt hj, cl1_s, cl1_n, cl1_i, cx1_s, cx1_x, cx1_n, cx1_i, nul_n, nul_s, nm, dv2, dv3, dv4, dv5, dv8, dv10, dv20, dv40, thr, bo, mI_pt hj, mT_pt hj, sB_pt, mZ_pt, mJ_pt, mJ_sJ, mZ_sJ, tn0, tn1, tn2, tn3, tn4, tn5, tn6, T153, ii0, ii1, ii2, ii3, ii4, if_true, if_false, ne_eq, not_false_eq_true, not_true_eq_false, true_and, and_true, false_and, and_false, and_self, true_or, or_true, false_or, or_false, or_self, Nat.reduceAdd, Nat.reduceLT, Nat.reduceLeDiff, Nat.succ_ne_zero, reduceIte, reduceCtorEq]
              rw [OB3, SZ, cl1_s]
            rw [hJd] at G1 O S153 LL
            simp (config := {decide := true}) only [f_X8_bid, b_X8_bid_0, b_X8_bid_21, b_X8_bid_44, b_X8_bid_74, m_noBuy _ hq, NL, m_start0 hj h0, m_isIn _ hr.1 hr.2, m_ref0 hj h0, G1, O, b_Jx4a65c_size_8abf5_0, f_Jx4a65c_size_8abf5, S153, ixb, LL, EX, gI_pt hj, gR_pt hj, ob_pt hj, ck_pt hj, pI_pt hj, pB_pt hj, pR_pt hj, aI_pt hj, aR_pt hj, wI_pt hj, wJ_pt hj, aL_pt hj, cl1_s, cl1_n, cl1_i, cx1_s, cx1_x, cx1_n, cx1_i, nul_n, nul_s, nm, dv2, dv3, dv4, dv5, dv8, dv10, dv20, dv40, thr, bo, mI_pt hj, mT_pt hj, sB_pt, mZ_pt, mJ_pt, mJ_sJ, mZ_sJ, tn0, tn1, tn2, tn3, tn4, tn5, tn6, h0, h7, h6, T8, M14, T153, ii0, ii1, ii2, ii3, ii4, if_true, if_false, ne_eq, not_false_eq_true, not_true_eq_false, true_and, and_true, false_and, and_false, and_self, true_or, or_true, false_or, or_false, or_self, Nat.reduceAdd, Nat.reduceLT, Nat.reduceLeDiff, Nat.succ_ne_zero, reduceIte, reduceCtorEq]
          · rw [e132, Lj _ (by rw [zz1, zz4, z1]; exact Nat.lt_succ_of_lt h.out), jj1, (K4.2 _ (by rw [z1]; exact h.out)).2.2.1, (K3.2 _ (by rw [z1]; exact h.out)).2.2.1, (K2.2 _ (by rw [z1]; exact h.out)).2.2.1]; exact j1
      · refine Agr.bad (k := 2) (b := 0) h (by decide) ?_ ?_
        · simp (config := {decide := true}) only [f_L_bid, b_L_bid_0, f_X4_bid, b_X4_bid_0, Q, show (4 : Int32) = Int32.ofNat 4 from rfl, A, x_reqN _ hr, gI_pt hj, gR_pt hj, ob_pt hj, ck_pt hj, pI_pt hj, pB_pt hj, pR_pt hj, aI_pt hj, aR_pt hj, wI_pt hj, wJ_pt hj, aL_pt hj, cl1_s, cl1_n, cl1_i, cx1_s, cx1_x, cx1_n, cx1_i, nul_n, nul_s, nm, dv2, dv3, dv4, dv5, dv8, dv10, dv20, dv40, thr, bo, mI_pt hj, mT_pt hj, sB_pt, mZ_pt, mJ_pt, mJ_sJ, mZ_sJ, tn0, tn1, tn2, tn3, tn4, tn5, tn6, hx0, T4, R15, T3, ii0, ii1, ii2, ii3, ii4, if_true, if_false, ne_eq, not_false_eq_true, not_true_eq_false, true_and, and_true, false_and, and_false, and_self, true_or, or_true, false_or, or_false, or_self, Nat.reduceAdd, Nat.reduceLT, Nat.reduceLeDiff, Nat.succ_ne_zero, reduceIte, reduceCtorEq]
        · simp (config := {decide := true}) only [f_X8_bid, b_X8_bid_0, b_X8_bid_21, b_X8_bid_44, b_X8_bid_81, m_noBuy _ hq, m_noLot h' hp, m_start0 hj h0, m_isInN _ hr, m_ref1 hj h0 (show ¬ (2 : Int32) ≤ 0 by decide), gI_pt hj, gR_pt hj, ob_pt hj, ck_pt hj, pI_pt hj, pB_pt hj, pR_pt hj, aI_pt hj, aR_pt hj, wI_pt hj, wJ_pt hj, aL_pt hj, cl1_s, cl1_n, cl1_i, cx1_s, cx1_x, cx1_n, cx1_i, nul_n, nul_s, nm, dv2, dv3, dv4, dv5, dv8, dv10, dv20, dv40, thr, bo, mI_pt hj, mT_pt hj, sB_pt, mZ_pt, mJ_pt, mJ_sJ, mZ_sJ, tn0, tn1, tn2, tn3, tn4, tn5, tn6, h0, ii0, ii1, ii2, ii3, ii4, if_true, if_false, ne_eq, not_false_eq_true, not_true_eq_false, true_and, and_true, false_and, and_false, and_self, true_or, or_true, false_or, or_false, or_self, Nat.reduceAdd, Nat.reduceLT, Nat.reduceLeDiff, Nat.succ_ne_zero, reduceIte, reduceCtorEq]
    · refine Agr.bad (k := 1) (b := 0) h (by decide) ?_ ?_
      · simp (config := {decide := true}) only [f_L_bid, b_L_bid_0, f_X4_bid, b_X4_bid_0, Q, show (4 : Int32) = Int32.ofNat 4 from rfl, x_lotAtN h hp, gI_pt hj, gR_pt hj, ob_pt hj, ck_pt hj, pI_pt hj, pB_pt hj, pR_pt hj, aI_pt hj, aR_pt hj, wI_pt hj, wJ_pt hj, aL_pt hj, cl1_s, cl1_n, cl1_i, cx1_s, cx1_x, cx1_n, cx1_i, nul_n, nul_s, nm, dv2, dv3, dv4, dv5, dv8, dv10, dv20, dv40, thr, bo, mI_pt hj, mT_pt hj, sB_pt, mZ_pt, mJ_pt, mJ_sJ, mZ_sJ, tn0, tn1, tn2, tn3, tn4, tn5, tn6, hx0, ii0, ii1, ii2, ii3, ii4, if_true, if_false, ne_eq, not_false_eq_true, not_true_eq_false, true_and, and_true, false_and, and_false, and_self, true_or, or_true, false_or, or_false, or_self, Nat.reduceAdd, Nat.reduceLT, Nat.reduceLeDiff, Nat.succ_ne_zero, reduceIte, reduceCtorEq]
      · simp (config := {decide := true}) only [f_X8_bid, b_X8_bid_0, b_X8_bid_16, b_X8_bid_21, b_X8_bid_81, m_noBuy _ hq, m_noLotN h' hp, m_start1 hj h0 (show ¬ (1 : Int32) ≤ 0 by decide), gI_pt hj, gR_pt hj, ob_pt hj, ck_pt hj, pI_pt hj, pB_pt hj, pR_pt hj, aI_pt hj, aR_pt hj, wI_pt hj, wJ_pt hj, aL_pt hj, cl1_s, cl1_n, cl1_i, cx1_s, cx1_x, cx1_n, cx1_i, nul_n, nul_s, nm, dv2, dv3, dv4, dv5, dv8, dv10, dv20, dv40, thr, bo, mI_pt hj, mT_pt hj, sB_pt, mZ_pt, mJ_pt, mJ_sJ, mZ_sJ, tn0, tn1, tn2, tn3, tn4, tn5, tn6, h0, ii0, ii1, ii2, ii3, ii4, if_true, if_false, ne_eq, not_false_eq_true, not_true_eq_false, true_and, and_true, false_and, and_false, and_self, true_or, or_true, false_or, or_false, or_self, Nat.reduceAdd, Nat.reduceLT, Nat.reduceLeDiff, Nat.succ_ne_zero, reduceIte, reduceCtorEq]
  · refine Agr.bad (k := 1) (b := 0) h (by decide) ?_ ?_
    · have Q := x_reqIN (N := 4) (pt φ T I R τ) (by omega) hq
      simp (config := {decide := true}) only [f_L_bid, b_L_bid_0, f_X4_bid, b_X4_bid_0, Q, show (4 : Int32) = Int32.ofNat 4 from rfl, gI_pt hj, gR_pt hj, ob_pt hj, ck_pt hj, pI_pt hj, pB_pt hj, pR_pt hj, aI_pt hj, aR_pt hj, wI_pt hj, wJ_pt hj, aL_pt hj, cl1_s, cl1_n, cl1_i, cx1_s, cx1_x, cx1_n, cx1_i, nul_n, nul_s, nm, dv2, dv3, dv4, dv5, dv8, dv10, dv20, dv40, thr, bo, mI_pt hj, mT_pt hj, sB_pt, mZ_pt, mJ_pt, mJ_sJ, mZ_sJ, tn0, tn1, tn2, tn3, tn4, tn5, tn6, hx0, ii0, ii1, ii2, ii3, ii4, if_true, if_false, ne_eq, not_false_eq_true, not_true_eq_false, true_and, and_true, false_and, and_false, and_self, true_or, or_true, false_or, or_false, or_self, Nat.reduceAdd, Nat.reduceLT, Nat.reduceLeDiff, Nat.succ_ne_zero, reduceIte, reduceCtorEq]
    · simp (config := {decide := true}) only [f_X8_bid, b_X8_bid_0, b_X8_bid_16, b_X8_bid_21, b_X8_bid_81, m_noBuyN _ hq, m_start1 hj h0 (show ¬ (1 : Int32) ≤ 0 by decide), gI_pt hj, gR_pt hj, ob_pt hj, ck_pt hj, pI_pt hj, pB_pt hj, pR_pt hj, aI_pt hj, aR_pt hj, wI_pt hj, wJ_pt hj, aL_pt hj, cl1_s, cl1_n, cl1_i, cx1_s, cx1_x, cx1_n, cx1_i, nul_n, nul_s, nm, dv2, dv3, dv4, dv5, dv8, dv10, dv20, dv40, thr, bo, mI_pt hj, mT_pt hj, sB_pt, mZ_pt, mJ_pt, mJ_sJ, mZ_sJ, tn0, tn1, tn2, tn3, tn4, tn5, tn6, h0, ii0, ii1, ii2, ii3, ii4, if_true, if_false, ne_eq, not_false_eq_true, not_true_eq_false, true_and, and_true, false_and, and_false, and_self, true_or, or_true, false_or, or_false, or_self, Nat.reduceAdd, Nat.reduceLT, Nat.reduceLeDiff, Nat.succ_ne_zero, reduceIte, reduceCtorEq]
end BO
