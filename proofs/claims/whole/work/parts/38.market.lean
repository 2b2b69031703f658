/-! who can have it, and what it costs: the reference -/
section MC
variable {φ : Nat → Nat} {T : Nat → Nat × Nat} {I : Nat → Nat → Int32} {R : Nat → Nat → Option Nat} {τ : Mem} {e0 nS nL cS cL n z : Nat} {mx : Nat → Int32} {cB : Nat → Nat} {bl : Nat → List (Nat × Int32)}
variable {mi a k i la : Nat} {J : Nat → Nat → Int32} {p q r : Int32} {τ0 τ1 : Mem} {b : Nat × Int32}
def okM (rs d : Int32) (pu : Nat → Int32) (e : Nat × Int32) : Bool := decide (rs ≤ e.2) && decide (e.2 * d / 10 ≤ pu e.1)
theorem okM_t {rs d : Int32} {pu : Nat → Int32} {e : Nat × Int32} : okM rs d pu e = true ↔ (rs ≤ e.2 ∧ e.2 * d / 10 ≤ pu e.1) := by
  simp [okM]
def AL (I : Nat → Nat → Int32) (bl : Nat → List (Nat × Int32)) (i k : Nat) : List (Nat × Int32) := abl (okM (I (10 * i + 150) 13) (I (6 * i + 19) 1) (I 128)) (bl i) k
theorem Cx.e0z (h : Cx φ T I R (mZ τ) e0 nS nL cS cL mx cB bl n) : e0 < mZ τ := by
  have hl := h.hl
  obtain ⟨hj, hl, hx, hm, hr⟩ := h; obtain ⟨hx0, hx1, hx2, hx3, hx4, hx5, hx6, hx7, hx8, hx9, hx10, hx11, hx12, hx13, hx14, hx15, hx16, hx17, hx18, hx19, hx20, hx21, hx22, hx23, hx24, hx25, hx26, hx27⟩ := hx; obtain ⟨hm0, hm1, hm2, hm3, hm4, hm5, hm6, hm7, hm8, hm9, hm10, hm11, hm12, hm13, hm14, hm15, hm16, hm17, hm18, hm19, hm20, hm21, hm22, hm23, hm24, hm25, hm26, hm27, hm28, hm29, hm30, hm31, hm32, hm33, hm34, hm35, hm36, hm37, hm38, hm39, hm40, hm41, hm42, hm43, hm44⟩ := hm; obtain ⟨⟨⟨g1, g2⟩, ⟨g3, g4, g5, g6, g7⟩, g8, g9, g10⟩, r1, r2, r3, r4, r5, r6⟩ := hr
  rw [← hm42]; exact hl 123 (by rw [hm41]; decide)
theorem Itr.kq {τ2 : Mem} {l : Nat} {mc : Int32} (h : Itr τ1 a l mc k) (hq : Kq la τ1 τ2) (ha : a < mZ τ1) (hla : a ≠ la) : Itr τ2 a l mc k := by
  obtain ⟨h1, h2, h3, h4⟩ := h
  obtain ⟨q1, q2, q3⟩ := hq
  have t := q2 a ha
  obtain ⟨q4, q5, q6⟩ := q3 a ha hla (by rw [h1]; decide)
  exact ⟨by rw [t]; exact h1, by rw [q5]; exact h2, by rw [q4]; exact h3, by rw [q4]; exact h4⟩
theorem m_able (h : Cx φ T I R (mZ τ) e0 nS nL cS cL mx cB bl n) (hJ : ∀ v, 125 ≤ v → J v = I v) (hz : mZ τ ≤ mZ τ1) (iL : i < nL) : ∃ τ', f_X8_able e0 mi (φ 124) (some (φ (10 * i + 150))) (pt φ T J R τ1) = some (some (mZ τ1), pt φ T J R τ') ∧ OL e0 τ' (mZ τ1) ((AL I bl i (bl i).length).map (fun e => φ (10 * i + 155 + e.1))) ∧ Kp (mZ τ1) τ1 τ' := by
  have hj := h.hj
  have hl1 : live T φ (mZ τ1) := fun v hv => Nat.lt_of_lt_of_le (h.hl v hv) hz
  have he0 : e0 < mZ τ1 := Nat.lt_of_lt_of_le h.e0z hz
  have h4 := bid_len (h.bidr iL)
  obtain ⟨la, hla⟩ : ∃ la, la = mZ τ1 := ⟨_, rfl⟩
  obtain ⟨τ2, N1, N2, N3, N4⟩ := ol_new (e0 := e0) (mi := mi) (I := J) (R := R) hj hl1 (Nat.le_refl _)
  rw [← hla] at N1 N2 N3 N4 hl1 he0 ⊢
  have hza : mZ τ ≤ la := by omega
  have hoa : Off φ T (la + 1) := Off.of hl1 (Nat.le_succ _)
  have hK0 : Kp la τ1 (itN τ2 (φ (10 * i + 153)) (I (10 * i + 153) 0)) := N3.trans (itN_K (by omega))
  have hI0 := itN_I τ2 (φ (10 * i + 153)) (I (10 * i + 153) 0)
  have hO0 : OL e0 (itN τ2 (φ (10 * i + 153)) (I (10 * i + 153) 0)) la [] := N2.kp (itN_K (Nat.le_refl _))
  have hz0 : mZ (itN τ2 (φ (10 * i + 153)) (I (10 * i + 153) 0)) = la + 2 := by rw [itN_Z, N4]
  rw [N4] at hI0
  have JL : J (10 * i + 150) = I (10 * i + 150) := hJ _ (by omega)
  have J128 : J 128 = I 128 := hJ _ (by omega)
  have L := itr_loop (fun n (s' : Mem) => l_X8_able_16 e0 mi n (φ 124) (some (φ (10 * i + 150))) (some la) (some (la + 1)) s') (fun k s' => ∃ τ3, s' = pt φ T J R τ3 ∧ Itr τ3 (la + 1) (φ (10 * i + 153)) (I (10 * i + 153) 0) k ∧ OL e0 τ3 la ((AL I bl i k).map (fun e => φ (10 * i + 155 + e.1))) ∧ Kp la τ1 τ3 ∧ la + 1 < mZ τ3) (bl i).length (by
    rintro n k σ hk ⟨τ3, rfl, hi, hO, hK, hzz⟩
    obtain ⟨e, he⟩ : ∃ e, (bl i)[k]? = some e := ⟨_, List.getElem?_eq_getElem hk⟩
    obtain ⟨e1, e2⟩ := m_itB (mi := mi) h iL (hJ _ (by omega)) (show mZ τ ≤ la + 1 by omega) hi he
    obtain ⟨b1, b2, b3, b4, b5⟩ := h.bd iL he
    have J5 := hJ (10 * i + 155 + e.1) (by omega)
    have i1 := hi.1
    have i2 : mT (itS τ3 (la + 1) k) (la + 1) = (1, 0) := hi.1
    have T8 := h.t8 iL
    have DD := m_dryJ (J := J) (τ := itS τ3 (la + 1) k) h iL (hJ _ (by omega))
    have AS : AL I bl i (k + 1) = if okM (I (10 * i + 150) 13) (I (6 * i + 19) 1) (I 128) e then AL I bl i k ++ [e] else AL I bl i k := abl_some he
    have c4 := kN_nn (a := e.1) (by omega)
    have c5 := tnK (k := e.1) (by omega)
    have hO1 : OL e0 (itS τ3 (la + 1) k) la ((AL I bl i k).map (fun e => φ (10 * i + 155 + e.1))) := hO.it (by omega) (by rw [i1]; decide)
    have hK1 : Kp la τ1 (itS τ3 (la + 1) k) := hK.trans (itS_K (Nat.le_succ _))
    have S0 : ∀ (h1 : ¬ okM (I (10 * i + 150) 13) (I (6 * i + 19) 1) (I 128) e = true), ∃ τ3', pt φ T J R (itS τ3 (la + 1) k) = pt φ T J R τ3' ∧ Itr τ3' (la + 1) (φ (10 * i + 153)) (I (10 * i + 153) 0) (k + 1) ∧ OL e0 τ3' la ((AL I bl i (k + 1)).map (fun e => φ (10 * i + 155 + e.1))) ∧ Kp la τ1 τ3' ∧ la + 1 < mZ τ3' := by
      intro h1
      rw [AS, if_neg h1]
      exact ⟨_, rfl, itS_I hi, hO1, hK1, hzz⟩
    by_cases c1 : e.2 < I (10 * i + 150) 13
    · refine ⟨_, S0 (fun q => ?_), ?_⟩
      · exact (Int32.not_le.mpr c1) (okM_t.mp q).1
      · obtain ⟨hj, hl, hx, hm, hr⟩ := h; obtain ⟨hx0, hx1, hx2, hx3, hx4, hx5, hx6, hx7, hx8, hx9, hx10, hx11, hx12, hx13, hx14, hx15, hx16, hx17, hx18, hx19, hx20, hx21, hx22, hx23, hx24, hx25, hx26, hx27⟩ := hx; obtain ⟨hm0, hm1, hm2, hm3, hm4, hm5, hm6, hm7, hm8, hm9, hm10, hm11, hm12, hm13, hm14, hm15, hm16, hm17, hm18, hm19, hm20, hm21, hm22, hm23, hm24, hm25, hm26, hm27, hm28, hm29, hm30, hm31, hm32, hm33, hm34, hm35, hm36, hm37, hm38, hm39, hm40, hm41, hm42, hm43, hm44⟩ := hm; obtain ⟨⟨⟨g1, g2⟩, ⟨g3, g4, g5, g6, g7⟩, g8, g9, g10⟩, r1, r2, r3, r4, r5, r6⟩ := hr
        simp (config := {decide := true}) only [l_X8_able_16, itr_succ, b_X8_able_16, b_X8_able_78, e1, e2, gI_pt hj, gR_pt hj, ob_pt hj, ck_pt hj, pI_pt hj, pB_pt hj, pR_pt hj, aI_pt hj, aR_pt hj, wI_pt hj, wJ_pt hj, aL_pt hj, cl1_s, cl1_n, cl1_i, cx1_s, cx1_x, cx1_n, cx1_i, nul_n, nul_s, nm, dv2, dv3, dv4, dv5, dv8, dv10, dv20, dv40, thr, bo, gI_off, gR_off, ob_off, ck_off, pI_off, pB_off, pR_off, aI_off, wI_off, aR_off, nA_off, nO_off, mT_sI, mT_sR, mT_sJ, mT_sN_at, mI_sN_at, mR_sN_at, mI_sI, mI_sR, mI_sJ, mR_sI, mR_sR, mR_sJ, mZ_sI, mZ_sR, mZ_sN, mJ_sI, mJ_sR, hoa, mI_pt hj, mT_pt hj, sB_pt, mZ_pt, mJ_pt, mJ_sJ, mZ_sJ, tn0, tn1, tn2, tn3, tn4, tn5, tn6, i1, i2, b3, J5, b5, T8, JL, c1, ii0, ii1, ii2, ii3, ii4, if_true, if_false, ne_eq, not_false_eq_true, not_true_eq_false, true_and, and_true, false_and, and_false, and_self, true_or, or_true, false_or, or_false, or_self, Nat.reduceAdd, Nat.reduceLT, Nat.reduceLeDiff, Nat.succ_ne_zero, reduceIte, reduceCtorEq]
    · by_cases c2 : I 128 e.1 < e.2 * I (6 * i + 19) 1 / 10
      · refine ⟨_, S0 (fun q => ?_), ?_⟩
        · exact (Int32.not_le.mpr c2) (okM_t.mp q).2
        · obtain ⟨hj, hl, hx, hm, hr⟩ := h; obtain ⟨hx0, hx1, hx2, hx3, hx4, hx5, hx6, hx7, hx8, hx9, hx10, hx11, hx12, hx13, hx14, hx15, hx16, hx17, hx18, hx19, hx20, hx21, hx22, hx23, hx24, hx25, hx26, hx27⟩ := hx; obtain ⟨hm0, hm1, hm2, hm3, hm4, hm5, hm6, hm7, hm8, hm9, hm10, hm11, hm12, hm13, hm14, hm15, hm16, hm17, hm18, hm19, hm20, hm21, hm22, hm23, hm24, hm25, hm26, hm27, hm28, hm29, hm30, hm31, hm32, hm33, hm34, hm35, hm36, hm37, hm38, hm39, hm40, hm41, hm42, hm43, hm44⟩ := hm; obtain ⟨⟨⟨g1, g2⟩, ⟨g3, g4, g5, g6, g7⟩, g8, g9, g10⟩, r1, r2, r3, r4, r5, r6⟩ := hr
          simp (config := {decide := true}) only [l_X8_able_16, itr_succ, b_X8_able_16, b_X8_able_78, e1, e2, gI_pt hj, gR_pt hj, ob_pt hj, ck_pt hj, pI_pt hj, pB_pt hj, pR_pt hj, aI_pt hj, aR_pt hj, wI_pt hj, wJ_pt hj, aL_pt hj, cl1_s, cl1_n, cl1_i, cx1_s, cx1_x, cx1_n, cx1_i, nul_n, nul_s, nm, dv2, dv3, dv4, dv5, dv8, dv10, dv20, dv40, thr, bo, gI_off, gR_off, ob_off, ck_off, pI_off, pB_off, pR_off, aI_off, wI_off, aR_off, nA_off, nO_off, mT_sI, mT_sR, mT_sJ, mT_sN_at, mI_sN_at, mR_sN_at, mI_sI, mI_sR, mI_sJ, mR_sI, mR_sR, mR_sJ, mZ_sI, mZ_sR, mZ_sN, mJ_sI, mJ_sR, hoa, mI_pt hj, mT_pt hj, sB_pt, mZ_pt, mJ_pt, mJ_sJ, mZ_sJ, tn0, tn1, tn2, tn3, tn4, tn5, tn6, i1, i2, b3, J5, b4, b5, b1, T8, JL, J128, hm0, hm4, hm8, c1, c2, c4, c5, DD, ii0, ii1, ii2, ii3, ii4, if_true, if_false, ne_eq, not_false_eq_true, not_true_eq_false, true_and, and_true, false_and, and_false, and_self, true_or, or_true, false_or, or_false, or_self, Nat.reduceAdd, Nat.reduceLT, Nat.reduceLeDiff, Nat.succ_ne_zero, reduceIte, reduceCtorEq]
      · have ok : okM (I (10 * i + 150) 13) (I (6 * i + 19) 1) (I 128) e = true := okM_t.mpr ⟨Int32.not_lt.mp c1, Int32.not_lt.mp c2⟩
        have yl : φ (10 * i + 155 + e.1) < la := hl1 _ (by rw [b3]; decide)
        have lenA : ((AL I bl i k).map (fun e => φ (10 * i + 155 + e.1))).length ≤ 9 := by
          rw [List.length_map]
          have := abl_len (ok := okM (I (10 * i + 150) 13) (I (6 * i + 19) 1) (I 128)) (b := bl i) k
          show (abl _ _ _).length ≤ 9
          omega
        obtain ⟨τ4, A1, A2, A3, A4, A5⟩ := ol_add (e0 := e0) (mi := mi) (I := J) (R := R) (y := φ (10 * i + 155 + e.1)) hj hl1 hO1 lenA he0 (by rw [mT_pt hj (by rw [b3]; decide), b3]; right; right; rfl) (by rw [itS_Z]; omega)
        refine ⟨pt φ T J R τ4, ⟨τ4, rfl, (itS_I hi).kq A4 (by rw [itS_Z]; exact hzz) (by omega), ?_, hK1.trans A3, Nat.lt_of_lt_of_le hzz A4.1⟩, ?_⟩
        · rw [AS, if_pos ok, List.map_append]; exact A2
        · have t2 : (mT (itS τ3 (la + 1) k) la).1 = 1 + 1 := by rw [hO1.1]
          have hol : Off φ T la := Off.of hl1 (Nat.le_refl _)
          obtain ⟨hj, hl, hx, hm, hr⟩ := h; obtain ⟨hx0, hx1, hx2, hx3, hx4, hx5, hx6, hx7, hx8, hx9, hx10, hx11, hx12, hx13, hx14, hx15, hx16, hx17, hx18, hx19, hx20, hx21, hx22, hx23, hx24, hx25, hx26, hx27⟩ := hx; obtain ⟨hm0, hm1, hm2, hm3, hm4, hm5, hm6, hm7, hm8, hm9, hm10, hm11, hm12, hm13, hm14, hm15, hm16, hm17, hm18, hm19, hm20, hm21, hm22, hm23, hm24, hm25, hm26, hm27, hm28, hm29, hm30, hm31, hm32, hm33, hm34, hm35, hm36, hm37, hm38, hm39, hm40, hm41, hm42, hm43, hm44⟩ := hm; obtain ⟨⟨⟨g1, g2⟩, ⟨g3, g4, g5, g6, g7⟩, g8, g9, g10⟩, r1, r2, r3, r4, r5, r6⟩ := hr
          simp (config := {decide := true}) only [l_X8_able_16, itr_succ, b_X8_able_16, b_X8_able_78, e1, e2, A1, gI_pt hj, gR_pt hj, ob_pt hj, ck_pt hj, pI_pt hj, pB_pt hj, pR_pt hj, aI_pt hj, aR_pt hj, wI_pt hj, wJ_pt hj, aL_pt hj, cl1_s, cl1_n, cl1_i, cx1_s, cx1_x, cx1_n, cx1_i, nul_n, nul_s, nm, dv2, dv3, dv4, dv5, dv8, dv10, dv20, dv40, thr, bo, gI_off, gR_off, ob_off, ck_off, pI_off, pB_off, pR_off, aI_off, wI_off, aR_off, nA_off, nO_off, mT_sI, mT_sR, mT_sJ, mT_sN_at, mI_sN_at, mR_sN_at, mI_sI, mI_sR, mI_sJ, mR_sI, mR_sR, mR_sJ, mZ_sI, mZ_sR, mZ_sN, mJ_sI, mJ_sR, hoa, hol, mI_pt hj, mT_pt hj, sB_pt, mZ_pt, mJ_pt, mJ_sJ, mZ_sJ, tn0, tn1, tn2, tn3, tn4, tn5, tn6, i1, i2, t2, b3, J5, b4, b5, b1, T8, JL, J128, hm0, hm4, hm8, c1, c2, c4, c5, DD, ii0, ii1, ii2, ii3, ii4, if_true, if_false, ne_eq, not_false_eq_true, not_true_eq_false, true_and, and_true, false_and, and_false, and_self, true_or, or_true, false_or, or_false, or_self, Nat.reduceAdd, Nat.reduceLT, Nat.reduceLeDiff, Nat.succ_ne_zero, reduceIte, reduceCtorEq])
  obtain ⟨σ, ⟨τ3, rfl, hi, hO, hK, hzz⟩, h5⟩ := L (bl i).length 0 5 (pt φ T J R (itN τ2 (φ (10 * i + 153)) (I (10 * i + 153) 0))) (by omega) (by omega) ⟨_, rfl, hI0, hO0, hK0, by rw [hz0]; omega⟩
  refine ⟨τ3, ?_, hO, hK⟩
  have e1 := m_itB0 h iL (hJ _ (by omega)) (show mZ τ ≤ la + 1 by omega) hi
  have i1 := hi.1
  obtain ⟨m, hm⟩ : ∃ m, 5 - (bl i).length = m + 1 := ⟨4 - (bl i).length, by omega⟩
  simp only [hm] at h5
  have E : l_X8_able_16 e0 mi (m + 1) (φ 124) (some (φ (10 * i + 150))) (some la) (some (la + 1)) (pt φ T J R τ3) = some (some la, pt φ T J R τ3) := by
    simp (config := {decide := true}) only [l_X8_able_16, itr_succ, b_X8_able_16, e1, gI_pt hj, gR_pt hj, ob_pt hj, ck_pt hj, pI_pt hj, pB_pt hj, pR_pt hj, aI_pt hj, aR_pt hj, wI_pt hj, wJ_pt hj, aL_pt hj, cl1_s, cl1_n, cl1_i, cx1_s, cx1_x, cx1_n, cx1_i, nul_n, nul_s, nm, dv2, dv3, dv4, dv5, dv8, dv10, dv20, dv40, thr, bo, gI_off, gR_off, ob_off, ck_off, pI_off, pB_off, pR_off, aI_off, wI_off, aR_off, nA_off, nO_off, mT_sI, mT_sR, mT_sJ, mT_sN_at, mI_sN_at, mR_sN_at, mI_sI, mI_sR, mI_sJ, mR_sI, mR_sR, mR_sJ, mZ_sI, mZ_sR, mZ_sN, mJ_sI, mJ_sR, hoa, mI_pt hj, mT_pt hj, sB_pt, mZ_pt, mJ_pt, mJ_sJ, mZ_sJ, tn0, tn1, tn2, tn3, tn4, tn5, tn6, i1, ii0, ii1, ii2, ii3, ii4, if_true, if_false, ne_eq, not_false_eq_true, not_true_eq_false, true_and, and_true, false_and, and_false, and_self, true_or, or_true, false_or, or_false, or_self, Nat.reduceAdd, Nat.reduceLT, Nat.reduceLeDiff, Nat.succ_ne_zero, reduceIte, reduceCtorEq]
  have T8 := h.t8 iL
  have hol : Off φ T la := Off.of hl1 (Nat.le_refl _)
  have ZZ : ∀ (K : Mem → Option Nat → Option (Option Nat × Mem)), nO 1 (pt φ T J R τ1) K = K (pt φ T J R (sN τ1 (2, 0))) (some la) := fun K => by
    rw [hla, nO_off (by rw [← hla]; exact hol)]
  have OB1 : ∀ (K : Nat → Option (Option Nat × Mem)), ob 1 (pt φ T J R (sN τ1 (2, 0))) (some la) K = K la := fun K => by
    rw [ob_off hol (by rw [hla, mT_sN_at])]
  obtain ⟨hj, hl, hx, hm, hr⟩ := h; obtain ⟨hx0, hx1, hx2, hx3, hx4, hx5, hx6, hx7, hx8, hx9, hx10, hx11, hx12, hx13, hx14, hx15, hx16, hx17, hx18, hx19, hx20, hx21, hx22, hx23, hx24, hx25, hx26, hx27⟩ := hx; obtain ⟨hm0, hm1, hm2, hm3, hm4, hm5, hm6, hm7, hm8, hm9, hm10, hm11, hm12, hm13, hm14, hm15, hm16, hm17, hm18, hm19, hm20, hm21, hm22, hm23, hm24, hm25, hm26, hm27, hm28, hm29, hm30, hm31, hm32, hm33, hm34, hm35, hm36, hm37, hm38, hm39, hm40, hm41, hm42, hm43, hm44⟩ := hm; obtain ⟨⟨⟨g1, g2⟩, ⟨g3, g4, g5, g6, g7⟩, g8, g9, g10⟩, r1, r2, r3, r4, r5, r6⟩ := hr
  have MI := m_iter (I := J) (R := R) (τ := τ2) hj (by rw [N4]; exact hoa) (hm35 i iL)
  rw [hJ (10 * i + 153) (by omega), N4] at MI
  simp (config := {decide := true}) only [f_X8_able, b_X8_able_0, ZZ, OB1, N1, MI, h5, E, gI_pt hj, gR_pt hj, ob_pt hj, ck_pt hj, pI_pt hj, pB_pt hj, pR_pt hj, aI_pt hj, aR_pt hj, wI_pt hj, wJ_pt hj, aL_pt hj, cl1_s, cl1_n, cl1_i, cx1_s, cx1_x, cx1_n, cx1_i, nul_n, nul_s, nm, dv2, dv3, dv4, dv5, dv8, dv10, dv20, dv40, thr, bo, mI_pt hj, mT_pt hj, sB_pt, mZ_pt, mJ_pt, mJ_sJ, mZ_sJ, tn0, tn1, tn2, tn3, tn4, tn5, tn6, T8, hm34 i iL, hm35 i iL, ii0, ii1, ii2, ii3, ii4, if_true, if_false, ne_eq, not_false_eq_true, not_true_eq_false, true_and, and_true, false_and, and_false, and_self, true_or, or_true, false_or, or_false, or_self, Nat.reduceAdd, Nat.reduceLT, Nat.reduceLeDiff, Nat.succ_ne_zero, reduceIte, reduceCtorEq]
theorem oc_none {A : List (Nat × Int32)} (h : (oc A k).1 = none) : (oc A k).2 = 0 := by
  induction k with
  | zero => rfl
  | succ k ih =>
    simp only [oc] at h ⊢
    split at h
    · rename_i e he
      split at h
      · cases h
      · split at h <;> cases h
    · exact ih h
theorem oc_mem {A : List (Nat × Int32)} : ∀ (k : Nat) (e : Nat × Int32), (oc A k).1 = some e → ∃ j : Nat, j < k ∧ A[j]? = some e := by
  intro k
  induction k with
  | zero => intro e h; cases h
  | succ k ih =>
    intro e h
    simp only [oc] at h
    split at h
    · rename_i e' he'
      split at h
      · cases h; exact ⟨k, Nat.lt_succ_self _, he'⟩
      · rename_i f hf
        split at h
        · cases h; obtain ⟨j, h1, h2⟩ := ih _ hf; exact ⟨j, by omega, h2⟩
        · cases h; exact ⟨k, Nat.lt_succ_self _, he'⟩
    · obtain ⟨j, h1, h2⟩ := ih _ h; exact ⟨j, by omega, h2⟩
theorem m_outcome (h : Cx φ T I R (mZ τ) e0 nS nL cS cL mx cB bl n) (hJ : ∀ v, 125 ≤ v → J v = I v) (hz : mZ τ ≤ mZ τ1) (iL : i < nL) {A : List (Nat × Int32)} (hA : A = AL I bl i (bl i).length) : ∃ τ' r, f_X8_outcome e0 mi (φ 124) (some (φ (10 * i + 150))) (pt φ T J R τ1) = some (r, pt φ T J R τ') ∧ Kp (mZ τ1) τ1 τ' ∧ (((oc A A.length).1 = none ∧ r = none) ∨ ∃ e a, (oc A A.length).1 = some e ∧ r = some a ∧ mZ τ1 ≤ a ∧ mT τ' a = (100, 2) ∧ mI τ' a 0 = Int32.ofNat e.1 ∧ mI τ' a 1 = prM (I (10 * i + 150) 13) e (oc A A.length).2) := by
  have hj := h.hj
  have h4 := bid_len (h.bidr iL)
  obtain ⟨τ2, B1, B2, B3⟩ := m_able (mi := mi) h hJ hz iL
  rw [← hA] at B2
  have lenA : A.length ≤ 4 := by
    rw [hA]
    have := abl_len (ok := okM (I (10 * i + 150) 13) (I (6 * i + 19) 1) (I 128)) (b := bl i) (bl i).length
    show (abl _ _ _).length ≤ 4
    omega
  have memA : ∀ (j : Nat) (e : Nat × Int32), A[j]? = some e → ∃ k' : Nat, (bl i)[k']? = some e := by
    intro j e he
    rw [hA] at he
    obtain ⟨k', -, h2, -⟩ := abl_mem _ j e he
    exact ⟨k', h2⟩
  obtain ⟨la, hla⟩ : ∃ la, la = mZ τ1 := ⟨_, rfl⟩
  have hl1 : live T φ la := fun v hv => Nat.lt_of_lt_of_le (h.hl v hv) (by omega)
  rw [← hla] at B1 B2 B3 ⊢
  obtain ⟨a, ha⟩ : ∃ a, a = mZ τ2 := ⟨_, rfl⟩
  have laa : la < a := by rw [ha]; exact B2.2.1
  have hoa : Off φ T a := Off.of hl1 (Nat.le_of_lt laa)
  have hol : Off φ T la := Off.of hl1 (Nat.le_refl _)
  obtain ⟨mc, hmc⟩ : ∃ mc, mc = mI τ2 la 0 := ⟨_, rfl⟩
  have MI := ol_iter (I := J) (R := R) hj hl1 B2 (Nat.le_refl _)
  rw [← ha, ← hmc] at MI
  have hI0 : Itr (itN τ2 la mc) a la mc 0 := by rw [ha]; exact itN_I _ _ _
  have hO0 : OL e0 (itN τ2 la mc) la (A.map (fun e => φ (10 * i + 155 + e.1))) := B2.kp (itN_K (Nat.le_refl _))
  have hz0 : mZ (itN τ2 la mc) = a + 1 := by rw [itN_Z, ha]
  have m0 : mI (itN τ2 la mc) la 0 = mc := by
    rw [((itN_K (τ := τ2) (l := la) (mc := mc) (Nat.le_refl (mZ τ2))).2 la (by omega)).1]; exact hmc.symm
  have JL : J (10 * i + 150) = I (10 * i + 150) := hJ _ (by omega)
  have T8 := h.t8 iL
  have L := itr_loop (fun n (s' : Option Nat × Int32 × Mem) => l_X8_outcome_14 e0 mi n (some (φ (10 * i + 150))) s'.1 s'.2.1 (some a) s'.2.2) (fun k s' => s'.1 = (oc A k).1.map (fun e => φ (10 * i + 155 + e.1)) ∧ s'.2.1 = (oc A k).2 ∧ ∃ τ3, s'.2.2 = pt φ T J R τ3 ∧ Itr τ3 a la mc k ∧ OL e0 τ3 la (A.map (fun e => φ (10 * i + 155 + e.1))) ∧ Kp la τ1 τ3 ∧ a < mZ τ3 ∧ mI τ3 la 0 = mc) A.length (by
    rintro n k ⟨x2, x3, σ⟩ hk ⟨hx2, hx3, τ3, hσ, hi, hO, hK, hzz, hm3⟩
    simp only at hx2 hx3 hσ
    subst hσ
    obtain ⟨e, he⟩ : ∃ e, A[k]? = some e := ⟨_, List.getElem?_eq_getElem hk⟩
    obtain ⟨k1, hk1⟩ := memA k e he
    obtain ⟨b1, b2, b3, b4, b5⟩ := h.bd iL hk1
    obtain ⟨e1, e2⟩ := ol_it (mi := mi) (I := J) (R := R) hj hl1 hO (Nat.le_refl _) (Nat.le_of_lt laa) (by rw [hm3]; exact hi) (by rw [List.length_map]; exact hk)
    have e2 := e2 (φ (10 * i + 155 + e.1)) (by rw [List.getElem?_map, he]; rfl)
    have J5 := hJ (10 * i + 155 + e.1) (by omega)
    have i1 := hi.1
    have i2 : mT (itS τ3 a k) a = (1, 0) := hi.1
    have hO1 : OL e0 (itS τ3 a k) la (A.map (fun e => φ (10 * i + 155 + e.1))) := hO.it (by omega) (by rw [i1]; decide)
    have hK1 : Kp la τ1 (itS τ3 a k) := hK.trans (itS_K (by omega))
    have hm4 : mI (itS τ3 a k) la 0 = mc := by rw [itS_Io (by omega)]; exact hm3
    refine ⟨((oc A (k + 1)).1.map (fun e => φ (10 * i + 155 + e.1)), (oc A (k + 1)).2, pt φ T J R (itS τ3 a k)), ⟨rfl, rfl, _, rfl, itS_I hi, hO1, hK1, hzz, hm4⟩, ?_⟩
    subst hx2 hx3
    cases hf : (oc A k).1 with
    | none =>
      have O1 : oc A (k + 1) = (some e, 0) := by simp only [oc, he, hf]
      rw [O1]
      simp only [Option.map_none, Option.map_some]
      simp (config := {decide := true}) only [l_X8_outcome_14, itr_succ, b_X8_outcome_14, b_X8_outcome_50, b_X8_outcome_61, b_X8_outcome_77, e1, e2, gI_pt hj, gR_pt hj, ob_pt hj, ck_pt hj, pI_pt hj, pB_pt hj, pR_pt hj, aI_pt hj, aR_pt hj, wI_pt hj, wJ_pt hj, aL_pt hj, cl1_s, cl1_n, cl1_i, cx1_s, cx1_x, cx1_n, cx1_i, nul_n, nul_s, nm, dv2, dv3, dv4, dv5, dv8, dv10, dv20, dv40, thr, bo, gI_off, gR_off, ob_off, ck_off, pI_off, pB_off, pR_off, aI_off, wI_off, aR_off, nA_off, nO_off, mT_sI, mT_sR, mT_sJ, mT_sN_at, mI_sN_at, mR_sN_at, mI_sI, mI_sR, mI_sJ, mR_sI, mR_sR, mR_sJ, mZ_sI, mZ_sR, mZ_sN, mJ_sI, mJ_sR, hoa, mI_pt hj, mT_pt hj, sB_pt, mZ_pt, mJ_pt, mJ_sJ, mZ_sJ, tn0, tn1, tn2, tn3, tn4, tn5, tn6, i1, i2, b3, ii0, ii1, ii2, ii3, ii4, if_true, if_false, ne_eq, not_false_eq_true, not_true_eq_false, true_and, and_true, false_and, and_false, and_self, true_or, or_true, false_or, or_false, or_self, Nat.reduceAdd, Nat.reduceLT, Nat.reduceLeDiff, Nat.succ_ne_zero, reduceIte, reduceCtorEq]
    | some f =>
      obtain ⟨j, -, hj2⟩ := oc_mem k f hf
      obtain ⟨k2, hk2⟩ := memA j f hj2
      obtain ⟨f1, f2, f3, f4, f5⟩ := h.bd iL hk2
      have J6 := hJ (10 * i + 155 + f.1) (by omega)
      by_cases c : e.2 ≤ f.2
      · have O1 : oc A (k + 1) = (some f, if (oc A k).2 < e.2 then e.2 else (oc A k).2) := by simp only [oc, he, hf, c, if_true]
        rw [O1]
        simp only [Option.map_some]
        simp (config := {decide := true}) only [l_X8_outcome_14, itr_succ, b_X8_outcome_14, b_X8_outcome_50, b_X8_outcome_61, b_X8_outcome_77, e1, e2, gI_pt hj, gR_pt hj, ob_pt hj, ck_pt hj, pI_pt hj, pB_pt hj, pR_pt hj, aI_pt hj, aR_pt hj, wI_pt hj, wJ_pt hj, aL_pt hj, cl1_s, cl1_n, cl1_i, cx1_s, cx1_x, cx1_n, cx1_i, nul_n, nul_s, nm, dv2, dv3, dv4, dv5, dv8, dv10, dv20, dv40, thr, bo, gI_off, gR_off, ob_off, ck_off, pI_off, pB_off, pR_off, aI_off, wI_off, aR_off, nA_off, nO_off, mT_sI, mT_sR, mT_sJ, mT_sN_at, mI_sN_at, mR_sN_at, mI_sI, mI_sR, mI_sJ, mR_sI, mR_sR, mR_sJ, mZ_sI, mZ_sR, mZ_sN, mJ_sI, mJ_sR, hoa, mI_pt hj, mT_pt hj, sB_pt, mZ_pt, mJ_pt, mJ_sJ, mZ_sJ, tn0, tn1, tn2, tn3, tn4, tn5, tn6, i1, i2, b3, f3, J5, J6, b5, f5, c, ii0, ii1, ii2, ii3, ii4, if_true, if_false, ne_eq, not_false_eq_true, not_true_eq_false, true_and, and_true, false_and, and_false, and_self, true_or, or_true, false_or, or_false, or_self, Nat.reduceAdd, Nat.reduceLT, Nat.reduceLeDiff, Nat.succ_ne_zero, reduceIte, reduceCtorEq]
      · have O1 : oc A (k + 1) = (some e, f.2) := by simp only [oc, he, hf, c, if_false]
        rw [O1]
        simp only [Option.map_some]
        simp (config := {decide := true}) only [l_X8_outcome_14, itr_succ, b_X8_outcome_14, b_X8_outcome_50, b_X8_outcome_61, b_X8_outcome_77, e1, e2, gI_pt hj, gR_pt hj, ob_pt hj, ck_pt hj, pI_pt hj, pB_pt hj, pR_pt hj, aI_pt hj, aR_pt hj, wI_pt hj, wJ_pt hj, aL_pt hj, cl1_s, cl1_n, cl1_i, cx1_s, cx1_x, cx1_n, cx1_i, nul_n, nul_s, nm, dv2, dv3, dv4, dv5, dv8, dv10, dv20, dv40, thr, bo, gI_off, gR_off, ob_off, ck_off, pI_off, pB_off, pR_off, aI_off, wI_off, aR_off, nA_off, nO_off, mT_sI, mT_sR, mT_sJ, mT_sN_at, mI_sN_at, mR_sN_at, mI_sI, mI_sR, mI_sJ, mR_sI, mR_sR, mR_sJ, mZ_sI, mZ_sR, mZ_sN, mJ_sI, mJ_sR, hoa, mI_pt hj, mT_pt hj, sB_pt, mZ_pt, mJ_pt, mJ_sJ, mZ_sJ, tn0, tn1, tn2, tn3, tn4, tn5, tn6, i1, i2, b3, f3, J5, J6, b5, f5, c, ii0, ii1, ii2, ii3, ii4, if_true, if_false, ne_eq, not_false_eq_true, not_true_eq_false, true_and, and_true, false_and, and_false, and_self, true_or, or_true, false_or, or_false, or_self, Nat.reduceAdd, Nat.reduceLT, Nat.reduceLeDiff, Nat.succ_ne_zero, reduceIte, reduceCtorEq])
  obtain ⟨⟨x2, x3, σ⟩, ⟨hx2, hx3, τ3, hσ, hi, hO, hK, hzz, hm3⟩, h5⟩ := L A.length 0 5 (none, 0, pt φ T J R (itN τ2 la mc)) (by omega) (by omega) ⟨rfl, rfl, _, rfl, hI0, hO0, B3.trans (itN_K (by omega)), by rw [hz0]; omega, m0⟩
  simp only at hx2 hx3 hσ
  subst hσ
  have e1 := ol_it0 (I := J) (R := R) hj hl1 hO (Nat.le_refl _) (Nat.le_of_lt laa) (mc := mc) (by rw [List.length_map]; exact hi)
  have i1 := hi.1
  obtain ⟨m, hm⟩ : ∃ m, 5 - A.length = m + 1 := ⟨4 - A.length, by omega⟩
  simp only [hm] at h5
  have OB1 : ∀ {β : Type} (K : Nat → Option β), ob 1 (pt φ T J R τ2) (some la) K = K la := fun K => by
    rw [ob_off hol (by rw [B2.1])]
  have h124 := h.m.1
  have START : ∀ v, l_X8_outcome_14 e0 mi (m + 1) (some (φ (10 * i + 150))) x2 x3 (some a) (pt φ T J R τ3) = v → f_X8_outcome e0 mi (φ 124) (some (φ (10 * i + 150))) (pt φ T J R τ1) = v := by
    intro v hv
    rw [← hv, ← h5]
    simp (config := {decide := true}) only [f_X8_outcome, b_X8_outcome_0, B1, OB1, MI, gI_pt hj, gR_pt hj, ob_pt hj, ck_pt hj, pI_pt hj, pB_pt hj, pR_pt hj, aI_pt hj, aR_pt hj, wI_pt hj, wJ_pt hj, aL_pt hj, cl1_s, cl1_n, cl1_i, cx1_s, cx1_x, cx1_n, cx1_i, nul_n, nul_s, nm, dv2, dv3, dv4, dv5, dv8, dv10, dv20, dv40, thr, bo, mI_pt hj, mT_pt hj, sB_pt, mZ_pt, mJ_pt, mJ_sJ, mZ_sJ, tn0, tn1, tn2, tn3, tn4, tn5, tn6, h124, ii0, ii1, ii2, ii3, ii4, if_true, if_false, ne_eq, not_false_eq_true, not_true_eq_false, true_and, and_true, false_and, and_false, and_self, true_or, or_true, false_or, or_false, or_self, Nat.reduceAdd, Nat.reduceLT, Nat.reduceLeDiff, Nat.succ_ne_zero, reduceIte, reduceCtorEq]
  cases hf : (oc A A.length).1 with
  | none =>
    rw [hf] at hx2
    refine ⟨τ3, none, START _ ?_, hK, Or.inl ⟨rfl, rfl⟩⟩
    rw [hx2]
    simp only [Option.map_none]
    simp (config := {decide := true}) only [l_X8_outcome_14, itr_succ, b_X8_outcome_14, e1, gI_pt hj, gR_pt hj, ob_pt hj, ck_pt hj, pI_pt hj, pB_pt hj, pR_pt hj, aI_pt hj, aR_pt hj, wI_pt hj, wJ_pt hj, aL_pt hj, cl1_s, cl1_n, cl1_i, cx1_s, cx1_x, cx1_n, cx1_i, nul_n, nul_s, nm, dv2, dv3, dv4, dv5, dv8, dv10, dv20, dv40, thr, bo, gI_off, gR_off, ob_off, ck_off, pI_off, pB_off, pR_off, aI_off, wI_off, aR_off, nA_off, nO_off, mT_sI, mT_sR, mT_sJ, mT_sN_at, mI_sN_at, mR_sN_at, mI_sI, mI_sR, mI_sJ, mR_sI, mR_sR, mR_sJ, mZ_sI, mZ_sR, mZ_sN, mJ_sI, mJ_sR, hoa, mI_pt hj, mT_pt hj, sB_pt, mZ_pt, mJ_pt, mJ_sJ, mZ_sJ, tn0, tn1, tn2, tn3, tn4, tn5, tn6, i1, ii0, ii1, ii2, ii3, ii4, if_true, if_false, ne_eq, not_false_eq_true, not_true_eq_false, true_and, and_true, false_and, and_false, and_self, true_or, or_true, false_or, or_false, or_self, Nat.reduceAdd, Nat.reduceLT, Nat.reduceLeDiff, Nat.succ_ne_zero, reduceIte, reduceCtorEq]
  | some f =>
    rw [hf] at hx2
    obtain ⟨j, -, hj2⟩ := oc_mem _ f hf
    obtain ⟨k2, hk2⟩ := memA j f hj2
    obtain ⟨f1, f2, f3, f4, f5⟩ := h.bd iL hk2
    have J6 := hJ (10 * i + 155 + f.1) (by omega)
    have hoz : Off φ T (mZ τ3) := Off.of hl1 (by omega)
    obtain ⟨τ4, W, T4, Z4, -, K4, z4⟩ := nA_ex (J := J) (R := R) (τ1 := τ3) (p := 2) (c := 2) (t := 0) (bd := 2) hoz (by decide) rfl (by decide)
    obtain ⟨τ5, W1, T5, A5, B5, K5, z5⟩ := wI_ex (J := J) (R := R) (p := 0) (v := Int32.ofNat f.1) (k := 0) hj hoz T4 (by decide) rfl (by decide)
    obtain ⟨τ6, W2, T6, A6, B6, K6, z6⟩ := wI_ex (J := J) (R := R) (p := 1) (v := prM (I (10 * i + 150) 13) f (oc A A.length).2) (k := 1) hj hoz T5 (by decide) rfl (by decide)
    refine ⟨τ6, some (mZ τ3), START _ ?_, (hK.trans (K4.less (by omega))).trans ((K5.less (by omega)).trans (K6.less (by omega))), Or.inr ⟨f, mZ τ3, rfl, rfl, by omega, T6, ?_, A6⟩⟩
    · rw [hx2, hx3]
      simp only [Option.map_some]
      by_cases c : (oc A A.length).2 = 0
      · have P : prM (I (10 * i + 150) 13) f (oc A A.length).2 = I (10 * i + 150) 13 := by simp only [prM, c, if_true]
        rw [P] at W2
        rw [c]
        simp (config := {decide := true}) only [l_X8_outcome_14, itr_succ, b_X8_outcome_14, b_X8_outcome_117, e1, W, W1, W2, gI_pt hj, gR_pt hj, ob_pt hj, ck_pt hj, pI_pt hj, pB_pt hj, pR_pt hj, aI_pt hj, aR_pt hj, wI_pt hj, wJ_pt hj, aL_pt hj, cl1_s, cl1_n, cl1_i, cx1_s, cx1_x, cx1_n, cx1_i, nul_n, nul_s, nm, dv2, dv3, dv4, dv5, dv8, dv10, dv20, dv40, thr, bo, gI_off, gR_off, ob_off, ck_off, pI_off, pB_off, pR_off, aI_off, wI_off, aR_off, nA_off, nO_off, mT_sI, mT_sR, mT_sJ, mT_sN_at, mI_sN_at, mR_sN_at, mI_sI, mI_sR, mI_sJ, mR_sI, mR_sR, mR_sJ, mZ_sI, mZ_sR, mZ_sN, mJ_sI, mJ_sR, hoa, mI_pt hj, mT_pt hj, sB_pt, mZ_pt, mJ_pt, mJ_sJ, mZ_sJ, tn0, tn1, tn2, tn3, tn4, tn5, tn6, i1, f3, f4, J6, T8, JL, ii0, ii1, ii2, ii3, ii4, if_true, if_false, ne_eq, not_false_eq_true, not_true_eq_false, true_and, and_true, false_and, and_false, and_self, true_or, or_true, false_or, or_false, or_self, Nat.reduceAdd, Nat.reduceLT, Nat.reduceLeDiff, Nat.succ_ne_zero, reduceIte, reduceCtorEq]
      · have P : prM (I (10 * i + 150) 13) f (oc A A.length).2 = if (oc A A.length).2 + 1 < f.2 then (oc A A.length).2 + 1 else f.2 := by simp only [prM, c, if_false]
        rw [P] at W2
        simp (config := {decide := true}) only [l_X8_outcome_14, itr_succ, b_X8_outcome_14, b_X8_outcome_117, e1, W, W1, W2, gI_pt hj, gR_pt hj, ob_pt hj, ck_pt hj, pI_pt hj, pB_pt hj, pR_pt hj, aI_pt hj, aR_pt hj, wI_pt hj, wJ_pt hj, aL_pt hj, cl1_s, cl1_n, cl1_i, cx1_s, cx1_x, cx1_n, cx1_i, nul_n, nul_s, nm, dv2, dv3, dv4, dv5, dv8, dv10, dv20, dv40, thr, bo, gI_off, gR_off, ob_off, ck_off, pI_off, pB_off, pR_off, aI_off, wI_off, aR_off, nA_off, nO_off, mT_sI, mT_sR, mT_sJ, mT_sN_at, mI_sN_at, mR_sN_at, mI_sI, mI_sR, mI_sJ, mR_sI, mR_sR, mR_sJ, mZ_sI, mZ_sR, mZ_sN, mJ_sI, mJ_sR, hoa, mI_pt hj, mT_pt hj, sB_pt, mZ_pt, mJ_pt, mJ_sJ, mZ_sJ, tn0, tn1, tn2, tn3, tn4, tn5, tn6, i1, f3, f4, f5, J6, T8, JL, c, ii0, ii1, ii2, ii3, ii4, if_true, if_false, ne_eq, not_false_eq_true, not_true_eq_false, true_and, and_true, false_and, and_false, and_self, true_or, or_true, false_or, or_false, or_self, Nat.reduceAdd, Nat.reduceLT, Nat.reduceLeDiff, Nat.succ_ne_zero, reduceIte, reduceCtorEq]
    · rw [B6 0 (by decide)]; exact A5
end MC

/-! who can have it, and what it costs: the garden, and that both are the same -/
section MD
variable {φ : Nat → Nat} {T : Nat → Nat × Nat} {I : Nat → Nat → Int32} {R : Nat → Nat → Option Nat} {τ : Mem} {e0 nS nL cS cL n z : Nat} {mx : Nat → Int32} {cB : Nat → Nat} {bl : Nat → List (Nat × Int32)}
variable {mi a k i j : Nat} {J : Nat → Nat → Int32} {p q r : Int32} {τ0 τ1 : Mem}
def okX (I : Nat → Nat → Int32) (i q : Nat) : Prop := ¬ I (6 * i + 23) q ≤ 0 ∧ I (6 * i + 22) 0 ≤ I (6 * i + 23) q ∧ I (6 * i + 23) q * I (6 * i + 19) 1 / 10 ≤ I 10 q
def Ah (I : Nat → Nat → Int32) (i q w : Nat) : Prop := I (6 * i + 23) w < I (6 * i + 23) q ∨ (I (6 * i + 23) q = I (6 * i + 23) w ∧ I (6 * i + 24) q < I (6 * i + 24) w)
theorem x_cost (hj : Inj φ T) {v : Nat} (h : T v = (4, 0)) (x : Int32) : f_X4_costOf (some (φ v)) x (pt φ T I R τ) = some (x * I v 1 / 10, pt φ T I R τ) := by
  simp (config := {decide := true}) only [b_X4_costOf_0, f_X4_costOf, gI_pt hj, gR_pt hj, ob_pt hj, ck_pt hj, pI_pt hj, pB_pt hj, pR_pt hj, aI_pt hj, aR_pt hj, wI_pt hj, wJ_pt hj, aL_pt hj, cl1_s, cl1_n, cl1_i, cx1_s, cx1_x, cx1_n, cx1_i, nul_n, nul_s, nm, dv2, dv3, dv4, dv5, dv8, dv10, dv20, dv40, thr, bo, mI_pt hj, mT_pt hj, sB_pt, mZ_pt, mJ_pt, mJ_sJ, mZ_sJ, tn0, tn1, tn2, tn3, tn4, tn5, tn6, h, ii0, ii1, ii2, ii3, ii4, if_true, if_false, ne_eq, not_false_eq_true, not_true_eq_false, true_and, and_true, false_and, and_false, and_self, true_or, or_true, false_or, or_false, or_self, Nat.reduceAdd, Nat.reduceLT, Nat.reduceLeDiff, Nat.succ_ne_zero, reduceIte, reduceCtorEq]
theorem x_mayBuy (h : Cx φ T I R z e0 nS nL cS cL mx cB bl n) (hi : i < 17) {w : Nat} (hw : w < 4) : (okX I i w ∧ f_X4_mayBuy (φ 0) (some (φ (6 * i + 19))) (Int32.ofNat w) (pt φ T I R τ) = some (1, pt φ T I R τ)) ∨ (¬ okX I i w ∧ f_X4_mayBuy (φ 0) (some (φ (6 * i + 19))) (Int32.ofNat w) (pt φ T I R τ) = some (0, pt φ T I R τ)) := by
  have B := x_hasBid (J := I) (τ := τ) h hi hw
  have C := x_cost (I := I) (R := R) (τ := τ) h.hj (h.t4 hi) (I (6 * i + 23) w)
  obtain ⟨hj, hl, hx, hm, hr⟩ := h; obtain ⟨hx0, hx1, hx2, hx3, hx4, hx5, hx6, hx7, hx8, hx9, hx10, hx11, hx12, hx13, hx14, hx15, hx16, hx17, hx18, hx19, hx20, hx21, hx22, hx23, hx24, hx25, hx26, hx27⟩ := hx; obtain ⟨hm0, hm1, hm2, hm3, hm4, hm5, hm6, hm7, hm8, hm9, hm10, hm11, hm12, hm13, hm14, hm15, hm16, hm17, hm18, hm19, hm20, hm21, hm22, hm23, hm24, hm25, hm26, hm27, hm28, hm29, hm30, hm31, hm32, hm33, hm34, hm35, hm36, hm37, hm38, hm39, hm40, hm41, hm42, hm43, hm44⟩ := hm; obtain ⟨⟨⟨g1, g2⟩, ⟨g3, g4, g5, g6, g7⟩, g8, g9, g10⟩, r1, r2, r3, r4, r5, r6⟩ := hr
  have c4 := kN_nn (a := w) (by omega)
  have c5 := tnK (k := w) (by omega)
  by_cases c1 : I (6 * i + 23) w ≤ 0
  · rw [if_pos c1] at B
    refine Or.inr ⟨fun q => q.1 c1, ?_⟩
    simp (config := {decide := true}) only [b_X4_mayBuy_51, b_X4_mayBuy_50, b_X4_mayBuy_0, f_X4_mayBuy, B, gI_pt hj, gR_pt hj, ob_pt hj, ck_pt hj, pI_pt hj, pB_pt hj, pR_pt hj, aI_pt hj, aR_pt hj, wI_pt hj, wJ_pt hj, aL_pt hj, cl1_s, cl1_n, cl1_i, cx1_s, cx1_x, cx1_n, cx1_i, nul_n, nul_s, nm, dv2, dv3, dv4, dv5, dv8, dv10, dv20, dv40, thr, bo, mI_pt hj, mT_pt hj, sB_pt, mZ_pt, mJ_pt, mJ_sJ, mZ_sJ, tn0, tn1, tn2, tn3, tn4, tn5, tn6, hx15 i hi, hx18 i hi, hx21 i hi, hx22 i hi, hx24 i hi, c4, c5, hw, ii0, ii1, ii2, ii3, ii4, if_true, if_false, ne_eq, not_false_eq_true, not_true_eq_false, true_and, and_true, false_and, and_false, and_self, true_or, or_true, false_or, or_false, or_self, Nat.reduceAdd, Nat.reduceLT, Nat.reduceLeDiff, Nat.succ_ne_zero, reduceIte, reduceCtorEq]
  · rw [if_neg c1] at B
    by_cases c2 : I (6 * i + 23) w < I (6 * i + 22) 0
    · refine Or.inr ⟨fun q => Int32.not_le.mpr c2 q.2.1, ?_⟩
      simp (config := {decide := true}) only [b_X4_mayBuy_51, b_X4_mayBuy_50, b_X4_mayBuy_0, f_X4_mayBuy, B, gI_pt hj, gR_pt hj, ob_pt hj, ck_pt hj, pI_pt hj, pB_pt hj, pR_pt hj, aI_pt hj, aR_pt hj, wI_pt hj, wJ_pt hj, aL_pt hj, cl1_s, cl1_n, cl1_i, cx1_s, cx1_x, cx1_n, cx1_i, nul_n, nul_s, nm, dv2, dv3, dv4, dv5, dv8, dv10, dv20, dv40, thr, bo, mI_pt hj, mT_pt hj, sB_pt, mZ_pt, mJ_pt, mJ_sJ, mZ_sJ, tn0, tn1, tn2, tn3, tn4, tn5, tn6, hx15 i hi, hx18 i hi, hx21 i hi, hx22 i hi, hx24 i hi, c4, c5, hw, c2, ii0, ii1, ii2, ii3, ii4, if_true, if_false, ne_eq, not_false_eq_true, not_true_eq_false, true_and, and_true, false_and, and_false, and_self, true_or, or_true, false_or, or_false, or_self, Nat.reduceAdd, Nat.reduceLT, Nat.reduceLeDiff, Nat.succ_ne_zero, reduceIte, reduceCtorEq]
    · by_cases c3 : I 10 w < I (6 * i + 23) w * I (6 * i + 19) 1 / 10
      · refine Or.inr ⟨fun q => Int32.not_le.mpr c3 q.2.2, ?_⟩
        simp (config := {decide := true}) only [b_X4_mayBuy_51, b_X4_mayBuy_50, b_X4_mayBuy_0, f_X4_mayBuy, B, C, gI_pt hj, gR_pt hj, ob_pt hj, ck_pt hj, pI_pt hj, pB_pt hj, pR_pt hj, aI_pt hj, aR_pt hj, wI_pt hj, wJ_pt hj, aL_pt hj, cl1_s, cl1_n, cl1_i, cx1_s, cx1_x, cx1_n, cx1_i, nul_n, nul_s, nm, dv2, dv3, dv4, dv5, dv8, dv10, dv20, dv40, thr, bo, mI_pt hj, mT_pt hj, sB_pt, mZ_pt, mJ_pt, mJ_sJ, mZ_sJ, tn0, tn1, tn2, tn3, tn4, tn5, tn6, hx0, hx5, hx9, hx15 i hi, hx18 i hi, hx21 i hi, hx22 i hi, hx24 i hi, c4, c5, hw, c2, c3, ii0, ii1, ii2, ii3, ii4, if_true, if_false, ne_eq, not_false_eq_true, not_true_eq_false, true_and, and_true, false_and, and_false, and_self, true_or, or_true, false_or, or_false, or_self, Nat.reduceAdd, Nat.reduceLT, Nat.reduceLeDiff, Nat.succ_ne_zero, reduceIte, reduceCtorEq]
      · refine Or.inl ⟨⟨c1, Int32.not_lt.mp c2, Int32.not_lt.mp c3⟩, ?_⟩
        simp (config := {decide := true}) only [b_X4_mayBuy_51, b_X4_mayBuy_50, b_X4_mayBuy_0, f_X4_mayBuy, B, C, gI_pt hj, gR_pt hj, ob_pt hj, ck_pt hj, pI_pt hj, pB_pt hj, pR_pt hj, aI_pt hj, aR_pt hj, wI_pt hj, wJ_pt hj, aL_pt hj, cl1_s, cl1_n, cl1_i, cx1_s, cx1_x, cx1_n, cx1_i, nul_n, nul_s, nm, dv2, dv3, dv4, dv5, dv8, dv10, dv20, dv40, thr, bo, mI_pt hj, mT_pt hj, sB_pt, mZ_pt, mJ_pt, mJ_sJ, mZ_sJ, tn0, tn1, tn2, tn3, tn4, tn5, tn6, hx0, hx5, hx9, hx15 i hi, hx18 i hi, hx21 i hi, hx22 i hi, hx24 i hi, c4, c5, hw, c2, c3, ii0, ii1, ii2, ii3, ii4, if_true, if_false, ne_eq, not_false_eq_true, not_true_eq_false, true_and, and_true, false_and, and_false, and_self, true_or, or_true, false_or, or_false, or_self, Nat.reduceAdd, Nat.reduceLT, Nat.reduceLeDiff, Nat.succ_ne_zero, reduceIte, reduceCtorEq]
theorem x_ahead (h : Cx φ T I R z e0 nS nL cS cL mx cB bl n) (hi : i < 17) {w v : Nat} (hw : w < 4) (hv : v < 4) : (Ah I i v w ∧ f_X0_isAhead (φ (6 * i + 22)) (Int32.ofNat v) (Int32.ofNat w) (pt φ T I R τ) = some (1, pt φ T I R τ)) ∨ (¬ Ah I i v w ∧ f_X0_isAhead (φ (6 * i + 22)) (Int32.ofNat v) (Int32.ofNat w) (pt φ T I R τ) = some (0, pt φ T I R τ)) := by
  obtain ⟨hj, hl, hx, hm, hr⟩ := h; obtain ⟨hx0, hx1, hx2, hx3, hx4, hx5, hx6, hx7, hx8, hx9, hx10, hx11, hx12, hx13, hx14, hx15, hx16, hx17, hx18, hx19, hx20, hx21, hx22, hx23, hx24, hx25, hx26, hx27⟩ := hx; obtain ⟨hm0, hm1, hm2, hm3, hm4, hm5, hm6, hm7, hm8, hm9, hm10, hm11, hm12, hm13, hm14, hm15, hm16, hm17, hm18, hm19, hm20, hm21, hm22, hm23, hm24, hm25, hm26, hm27, hm28, hm29, hm30, hm31, hm32, hm33, hm34, hm35, hm36, hm37, hm38, hm39, hm40, hm41, hm42, hm43, hm44⟩ := hm; obtain ⟨⟨⟨g1, g2⟩, ⟨g3, g4, g5, g6, g7⟩, g8, g9, g10⟩, r1, r2, r3, r4, r5, r6⟩ := hr
  have c4 := kN_nn (a := w) (by omega)
  have c5 := tnK (k := w) (by omega)
  have d4 := kN_nn (a := v) (by omega)
  have d5 := tnK (k := v) (by omega)
  by_cases c1 : I (6 * i + 23) w < I (6 * i + 23) v
  · refine Or.inl ⟨Or.inl c1, ?_⟩
    simp (config := {decide := true}) only [b_X0_isAhead_50, b_X0_isAhead_45, b_X0_isAhead_49, b_X0_isAhead_0, f_X0_isAhead, gI_pt hj, gR_pt hj, ob_pt hj, ck_pt hj, pI_pt hj, pB_pt hj, pR_pt hj, aI_pt hj, aR_pt hj, wI_pt hj, wJ_pt hj, aL_pt hj, cl1_s, cl1_n, cl1_i, cx1_s, cx1_x, cx1_n, cx1_i, nul_n, nul_s, nm, dv2, dv3, dv4, dv5, dv8, dv10, dv20, dv40, thr, bo, mI_pt hj, mT_pt hj, sB_pt, mZ_pt, mJ_pt, mJ_sJ, mZ_sJ, tn0, tn1, tn2, tn3, tn4, tn5, tn6, hx21 i hi, hx22 i hi, hx23 i hi, hx24 i hi, hx25 i hi, c4, c5, hw, d4, d5, hv, c1, ii0, ii1, ii2, ii3, ii4, if_true, if_false, ne_eq, not_false_eq_true, not_true_eq_false, true_and, and_true, false_and, and_false, and_self, true_or, or_true, false_or, or_false, or_self, Nat.reduceAdd, Nat.reduceLT, Nat.reduceLeDiff, Nat.succ_ne_zero, reduceIte, reduceCtorEq]
  · by_cases c2 : I (6 * i + 23) v = I (6 * i + 23) w
    · have c1' : ¬ I (6 * i + 23) w < I (6 * i + 23) w := fun q => by have := ltT q; omega
      by_cases c3 : I (6 * i + 24) w ≤ I (6 * i + 24) v
      · refine Or.inr ⟨fun q => q.elim c1 (fun q => Int32.not_lt.mpr c3 q.2), ?_⟩
        simp (config := {decide := true}) only [b_X0_isAhead_50, b_X0_isAhead_45, b_X0_isAhead_49, b_X0_isAhead_0, f_X0_isAhead, gI_pt hj, gR_pt hj, ob_pt hj, ck_pt hj, pI_pt hj, pB_pt hj, pR_pt hj, aI_pt hj, aR_pt hj, wI_pt hj, wJ_pt hj, aL_pt hj, cl1_s, cl1_n, cl1_i, cx1_s, cx1_x, cx1_n, cx1_i, nul_n, nul_s, nm, dv2, dv3, dv4, dv5, dv8, dv10, dv20, dv40, thr, bo, mI_pt hj, mT_pt hj, sB_pt, mZ_pt, mJ_pt, mJ_sJ, mZ_sJ, tn0, tn1, tn2, tn3, tn4, tn5, tn6, hx21 i hi, hx22 i hi, hx23 i hi, hx24 i hi, hx25 i hi, c4, c5, hw, d4, d5, hv, c1, c1', c2, c3, ii0, ii1, ii2, ii3, ii4, if_true, if_false, ne_eq, not_false_eq_true, not_true_eq_false, true_and, and_true, false_and, and_false, and_self, true_or, or_true, false_or, or_false, or_self, Nat.reduceAdd, Nat.reduceLT, Nat.reduceLeDiff, Nat.succ_ne_zero, reduceIte, reduceCtorEq]
      · refine Or.inl ⟨Or.inr ⟨c2, Int32.not_le.mp c3⟩, ?_⟩
        simp (config := {decide := true}) only [b_X0_isAhead_50, b_X0_isAhead_45, b_X0_isAhead_49, b_X0_isAhead_0, f_X0_isAhead, gI_pt hj, gR_pt hj, ob_pt hj, ck_pt hj, pI_pt hj, pB_pt hj, pR_pt hj, aI_pt hj, aR_pt hj, wI_pt hj, wJ_pt hj, aL_pt hj, cl1_s, cl1_n, cl1_i, cx1_s, cx1_x, cx1_n, cx1_i, nul_n, nul_s, nm, dv2, dv3, dv4, dv5, dv8, dv10, dv20, dv40, thr, bo, mI_pt hj, mT_pt hj, sB_pt, mZ_pt, mJ_pt, mJ_sJ, mZ_sJ, tn0, tn1, tn2, tn3, tn4, tn5, tn6, hx21 i hi, hx22 i hi, hx23 i hi, hx24 i hi, hx25 i hi, c4, c5, hw, d4, d5, hv, c1, c1', c2, c3, ii0, ii1, ii2, ii3, ii4, if_true, if_false, ne_eq, not_false_eq_true, not_true_eq_false, true_and, and_true, false_and, and_false, and_self, true_or, or_true, false_or, or_false, or_self, Nat.reduceAdd, Nat.reduceLT, Nat.reduceLeDiff, Nat.succ_ne_zero, reduceIte, reduceCtorEq]
    · refine Or.inr ⟨fun q => q.elim c1 (fun q => c2 q.1), ?_⟩
      simp (config := {decide := true}) only [b_X0_isAhead_50, b_X0_isAhead_45, b_X0_isAhead_49, b_X0_isAhead_0, f_X0_isAhead, gI_pt hj, gR_pt hj, ob_pt hj, ck_pt hj, pI_pt hj, pB_pt hj, pR_pt hj, aI_pt hj, aR_pt hj, wI_pt hj, wJ_pt hj, aL_pt hj, cl1_s, cl1_n, cl1_i, cx1_s, cx1_x, cx1_n, cx1_i, nul_n, nul_s, nm, dv2, dv3, dv4, dv5, dv8, dv10, dv20, dv40, thr, bo, mI_pt hj, mT_pt hj, sB_pt, mZ_pt, mJ_pt, mJ_sJ, mZ_sJ, tn0, tn1, tn2, tn3, tn4, tn5, tn6, hx21 i hi, hx22 i hi, hx23 i hi, hx24 i hi, hx25 i hi, c4, c5, hw, d4, d5, hv, c1, c2, ii0, ii1, ii2, ii3, ii4, if_true, if_false, ne_eq, not_false_eq_true, not_true_eq_false, true_and, and_true, false_and, and_false, and_self, true_or, or_true, false_or, or_false, or_self, Nat.reduceAdd, Nat.reduceLT, Nat.reduceLeDiff, Nat.succ_ne_zero, reduceIte, reduceCtorEq]
def WinX (I : Nat → Nat → Int32) (i k : Nat) (w : Int32) : Prop := (w = -1 ∧ ∀ q, q < k → ¬ okX I i q) ∨ ∃ j, j < k ∧ w = Int32.ofNat j ∧ okX I i j ∧ ∀ q, q < k → okX I i q → q ≠ j → Ah I i j q
theorem oN_neg {j : Nat} (h : j < 1000) : ¬ Int32.ofNat j = -1 := by
  intro q
  have := kN_t (a := j) (by omega)
  rw [q] at this
  have e : (-1 : Int32).toInt = -1 := rfl
  omega
theorem x_winner (h : Cx φ T I R z e0 nS nL cS cL mx cB bl n) (hi : i < 17) (hd : ∀ q w, q < 4 → w < 4 → q ≠ w → okX I i q → okX I i w → (I (6 * i + 24) q).toInt ≠ (I (6 * i + 24) w).toInt) : ∃ w, f_X4_winnerOf (φ 0) (some (φ (6 * i + 19))) (pt φ T I R τ) = some (w, pt φ T I R τ) ∧ WinX I i 4 w := by
  have hj := h.hj
  have hx0 := h.m.2.2.2.2.2.2.2
  have T4 := h.t4 hi
  have R15 : R (6 * i + 19) 15 = some (φ (6 * i + 22)) := by
    obtain ⟨hj, hl, hx, hm, hr⟩ := h; obtain ⟨hx0, hx1, hx2, hx3, hx4, hx5, hx6, hx7, hx8, hx9, hx10, hx11, hx12, hx13, hx14, hx15, hx16, hx17, hx18, hx19, hx20, hx21, hx22, hx23, hx24, hx25, hx26, hx27⟩ := hx; obtain ⟨hm0, hm1, hm2, hm3, hm4, hm5, hm6, hm7, hm8, hm9, hm10, hm11, hm12, hm13, hm14, hm15, hm16, hm17, hm18, hm19, hm20, hm21, hm22, hm23, hm24, hm25, hm26, hm27, hm28, hm29, hm30, hm31, hm32, hm33, hm34, hm35, hm36, hm37, hm38, hm39, hm40, hm41, hm42, hm43, hm44⟩ := hm; obtain ⟨⟨⟨g1, g2⟩, ⟨g3, g4, g5, g6, g7⟩, g8, g9, g10⟩, r1, r2, r3, r4, r5, r6⟩ := hr
    exact hx18 i hi
  have T3 : T (6 * i + 22) = (3, 0) := by
    obtain ⟨hj, hl, hx, hm, hr⟩ := h; obtain ⟨hx0, hx1, hx2, hx3, hx4, hx5, hx6, hx7, hx8, hx9, hx10, hx11, hx12, hx13, hx14, hx15, hx16, hx17, hx18, hx19, hx20, hx21, hx22, hx23, hx24, hx25, hx26, hx27⟩ := hx; obtain ⟨hm0, hm1, hm2, hm3, hm4, hm5, hm6, hm7, hm8, hm9, hm10, hm11, hm12, hm13, hm14, hm15, hm16, hm17, hm18, hm19, hm20, hm21, hm22, hm23, hm24, hm25, hm26, hm27, hm28, hm29, hm30, hm31, hm32, hm33, hm34, hm35, hm36, hm37, hm38, hm39, hm40, hm41, hm42, hm43, hm44⟩ := hm; obtain ⟨⟨⟨g1, g2⟩, ⟨g3, g4, g5, g6, g7⟩, g8, g9, g10⟩, r1, r2, r3, r4, r5, r6⟩ := hr
    exact hx21 i hi
  have L := itr_loop (fun n (s' : Int32 × Int32) => l_X4_winnerOf_4 n (φ 0) (some (φ (6 * i + 19))) s'.1 s'.2 (pt φ T I R τ)) (fun k s' => WinX I i k s'.1 ∧ s'.2 = Int32.ofNat k) 4 (by
    rintro n k ⟨w, x⟩ hk ⟨hw, hx⟩
    simp only at hw hx
    subst hx
    have c1 : ¬ (4 : Int32) ≤ Int32.ofNat k := by rw [show (4 : Int32) = Int32.ofNat 4 from rfl, kN_le (by omega) (by omega)]; omega
    rcases x_mayBuy (τ := τ) h hi hk with ⟨m1, m2⟩ | ⟨m1, m2⟩
    · rcases hw with ⟨rfl, hw⟩ | ⟨j, j1, rfl, j2, j3⟩
      · refine ⟨(Int32.ofNat k, Int32.ofNat (k + 1)), ⟨Or.inr ⟨k, Nat.lt_succ_self _, rfl, m1, fun q hq hok hne => absurd hok (hw q (by omega))⟩, rfl⟩, ?_⟩
        simp (config := {decide := true}) only [l_X4_winnerOf_4, itr_succ, b_X4_winnerOf_4, b_X4_winnerOf_35, b_X4_winnerOf_37, m2, gI_pt hj, gR_pt hj, ob_pt hj, ck_pt hj, pI_pt hj, pB_pt hj, pR_pt hj, aI_pt hj, aR_pt hj, wI_pt hj, wJ_pt hj, aL_pt hj, cl1_s, cl1_n, cl1_i, cx1_s, cx1_x, cx1_n, cx1_i, nul_n, nul_s, nm, dv2, dv3, dv4, dv5, dv8, dv10, dv20, dv40, thr, bo, mI_pt hj, mT_pt hj, sB_pt, mZ_pt, mJ_pt, mJ_sJ, mZ_sJ, tn0, tn1, tn2, tn3, tn4, tn5, tn6, hx0, c1, kN_s, ii0, ii1, ii2, ii3, ii4, if_true, if_false, ne_eq, not_false_eq_true, not_true_eq_false, true_and, and_true, false_and, and_false, and_self, true_or, or_true, false_or, or_false, or_self, Nat.reduceAdd, Nat.reduceLT, Nat.reduceLeDiff, Nat.succ_ne_zero, reduceIte, reduceCtorEq]
      · have jn := oN_neg (j := j) (by omega)
        have dd := hd k j hk (by omega) (by omega) m1 j2
        rcases x_ahead (τ := τ) h hi (w := j) (v := k) (by omega) hk with ⟨a1, a2⟩ | ⟨a1, a2⟩
        · refine ⟨(Int32.ofNat k, Int32.ofNat (k + 1)), ⟨Or.inr ⟨k, Nat.lt_succ_self _, rfl, m1, fun q hq hok hne => ?_⟩, rfl⟩, ?_⟩
          · by_cases qj : q = j
            · subst qj; exact a1
            · have b1 := j3 q (by omega) hok qj
              simp only [Ah, Int32.lt_iff_toInt_lt, ← Int32.toInt_inj] at a1 b1 ⊢
              omega
          · simp (config := {decide := true}) only [l_X4_winnerOf_4, itr_succ, b_X4_winnerOf_4, b_X4_winnerOf_35, b_X4_winnerOf_37, m2, a2, gI_pt hj, gR_pt hj, ob_pt hj, ck_pt hj, pI_pt hj, pB_pt hj, pR_pt hj, aI_pt hj, aR_pt hj, wI_pt hj, wJ_pt hj, aL_pt hj, cl1_s, cl1_n, cl1_i, cx1_s, cx1_x, cx1_n, cx1_i, nul_n, nul_s, nm, dv2, dv3, dv4, dv5, dv8, dv10, dv20, dv40, thr, bo, mI_pt hj, mT_pt hj, sB_pt, mZ_pt, mJ_pt, mJ_sJ, mZ_sJ, tn0, tn1, tn2, tn3, tn4, tn5, tn6, hx0, T4, R15, T3, c1, jn, kN_s, ii0, ii1, ii2, ii3, ii4, if_true, if_false, ne_eq, not_false_eq_true, not_true_eq_false, true_and, and_true, false_and, and_false, and_self, true_or, or_true, false_or, or_false, or_self, Nat.reduceAdd, Nat.reduceLT, Nat.reduceLeDiff, Nat.succ_ne_zero, reduceIte, reduceCtorEq]
        · refine ⟨(Int32.ofNat j, Int32.ofNat (k + 1)), ⟨Or.inr ⟨j, by omega, rfl, j2, fun q hq hok hne => ?_⟩, rfl⟩, ?_⟩
          · by_cases qk : q = k
            · subst qk
              simp only [Ah, Int32.lt_iff_toInt_lt, ← Int32.toInt_inj] at a1 ⊢
              omega
            · exact j3 q (by omega) hok hne
          · simp (config := {decide := true}) only [l_X4_winnerOf_4, itr_succ, b_X4_winnerOf_4, b_X4_winnerOf_35, b_X4_winnerOf_37, m2, a2, gI_pt hj, gR_pt hj, ob_pt hj, ck_pt hj, pI_pt hj, pB_pt hj, pR_pt hj, aI_pt hj, aR_pt hj, wI_pt hj, wJ_pt hj, aL_pt hj, cl1_s, cl1_n, cl1_i, cx1_s, cx1_x, cx1_n, cx1_i, nul_n, nul_s, nm, dv2, dv3, dv4, dv5, dv8, dv10, dv20, dv40, thr, bo, mI_pt hj, mT_pt hj, sB_pt, mZ_pt, mJ_pt, mJ_sJ, mZ_sJ, tn0, tn1, tn2, tn3, tn4, tn5, tn6, hx0, T4, R15, T3, c1, jn, kN_s, ii0, ii1, ii2, ii3, ii4, if_true, if_false, ne_eq, not_false_eq_true, not_true_eq_false, true_and, and_true, false_and, and_false, and_self, true_or, or_true, false_or, or_false, or_self, Nat.reduceAdd, Nat.reduceLT, Nat.reduceLeDiff, Nat.succ_ne_zero, reduceIte, reduceCtorEq]
    · refine ⟨(w, Int32.ofNat (k + 1)), ⟨?_, rfl⟩, ?_⟩
      · rcases hw with ⟨rfl, hw⟩ | ⟨j, j1, rfl, j2, j3⟩
        · exact Or.inl ⟨rfl, fun q hq => by
            by_cases qk : q = k
            · subst qk; exact m1
            · exact hw q (by omega)⟩
        · exact Or.inr ⟨j, by omega, rfl, j2, fun q hq hok hne => by
            by_cases qk : q = k
            · subst qk; exact absurd hok m1
            · exact j3 q (by omega) hok hne⟩
      · simp (config := {decide := true}) only [l_X4_winnerOf_4, itr_succ, b_X4_winnerOf_4, b_X4_winnerOf_35, b_X4_winnerOf_37, m2, gI_pt hj, gR_pt hj, ob_pt hj, ck_pt hj, pI_pt hj, pB_pt hj, pR_pt hj, aI_pt hj, aR_pt hj, wI_pt hj, wJ_pt hj, aL_pt hj, cl1_s, cl1_n, cl1_i, cx1_s, cx1_x, cx1_n, cx1_i, nul_n, nul_s, nm, dv2, dv3, dv4, dv5, dv8, dv10, dv20, dv40, thr, bo, mI_pt hj, mT_pt hj, sB_pt, mZ_pt, mJ_pt, mJ_sJ, mZ_sJ, tn0, tn1, tn2, tn3, tn4, tn5, tn6, hx0, c1, kN_s, ii0, ii1, ii2, ii3, ii4, if_true, if_false, ne_eq, not_false_eq_true, not_true_eq_false, true_and, and_true, false_and, and_false, and_self, true_or, or_true, false_or, or_false, or_self, Nat.reduceAdd, Nat.reduceLT, Nat.reduceLeDiff, Nat.succ_ne_zero, reduceIte, reduceCtorEq])
  obtain ⟨⟨w, x⟩, ⟨hw, hx⟩, h5⟩ := L 4 0 40 (-1, 0) (by omega) (by omega) ⟨Or.inl ⟨rfl, fun q hq => by omega⟩, rfl⟩
  simp only at hw hx
  subst hx
  refine ⟨w, ?_, hw⟩
  rw [f_X4_winnerOf, b_X4_winnerOf_0, h5]
  simp (config := {decide := true}) only [l_X4_winnerOf_4, itr_36, Nat.reduceSub, b_X4_winnerOf_4, show (4 : Int32) ≤ Int32.ofNat 4 by decide, ii0, ii1, ii2, ii3, ii4, if_true, if_false, ne_eq, not_false_eq_true, not_true_eq_false, true_and, and_true, false_and, and_false, and_self, true_or, or_true, false_or, or_false, or_self, Nat.reduceAdd, Nat.reduceLT, Nat.reduceLeDiff, Nat.succ_ne_zero, reduceIte, reduceCtorEq]
def RivX (I : Nat → Nat → Int32) (i j k : Nat) (v : Int32) : Prop := (v = -1 ∧ ∀ q, q < k → q ≠ j → ¬ okX I i q) ∨ ∃ q, q < k ∧ q ≠ j ∧ okX I i q ∧ I (6 * i + 23) q = v ∧ ∀ q', q' < k → q' ≠ j → okX I i q' → (I (6 * i + 23) q').toInt ≤ v.toInt
theorem x_price (h : Cx φ T I R z e0 nS nL cS cL mx cB bl n) (hi : i < 17) (hj4 : j < 4) : ∃ v, f_X4_priceFor (φ 0) (some (φ (6 * i + 19))) (Int32.ofNat j) (pt φ T I R τ) = some (if v = -1 then I (6 * i + 22) 0 else if v + 1 < I (6 * i + 23) j then v + 1 else I (6 * i + 23) j, pt φ T I R τ) ∧ RivX I i j 4 v := by
  have hj := h.hj
  have hx0 := h.m.2.2.2.2.2.2.2
  have T4 := h.t4 hi
  obtain ⟨R15, T3, R2, T23⟩ : R (6 * i + 19) 15 = some (φ (6 * i + 22)) ∧ T (6 * i + 22) = (3, 0) ∧ R (6 * i + 22) 2 = some (φ (6 * i + 23)) ∧ T (6 * i + 23) = (100, 4) := by
    obtain ⟨hj, hl, hx, hm, hr⟩ := h; obtain ⟨hx0, hx1, hx2, hx3, hx4, hx5, hx6, hx7, hx8, hx9, hx10, hx11, hx12, hx13, hx14, hx15, hx16, hx17, hx18, hx19, hx20, hx21, hx22, hx23, hx24, hx25, hx26, hx27⟩ := hx; obtain ⟨hm0, hm1, hm2, hm3, hm4, hm5, hm6, hm7, hm8, hm9, hm10, hm11, hm12, hm13, hm14, hm15, hm16, hm17, hm18, hm19, hm20, hm21, hm22, hm23, hm24, hm25, hm26, hm27, hm28, hm29, hm30, hm31, hm32, hm33, hm34, hm35, hm36, hm37, hm38, hm39, hm40, hm41, hm42, hm43, hm44⟩ := hm; obtain ⟨⟨⟨g1, g2⟩, ⟨g3, g4, g5, g6, g7⟩, g8, g9, g10⟩, r1, r2, r3, r4, r5, r6⟩ := hr
    exact ⟨hx18 i hi, hx21 i hi, hx22 i hi, hx24 i hi⟩
  have L := itr_loop (fun n (s' : Int32 × Int32) => l_X4_priceFor_5 n (φ 0) (some (φ (6 * i + 19))) (Int32.ofNat j) s'.1 s'.2 (pt φ T I R τ)) (fun k s' => RivX I i j k s'.1 ∧ s'.2 = Int32.ofNat k) 4 (by
    rintro n k ⟨v, x⟩ hk ⟨hw, hx⟩
    simp only at hw hx
    subst hx
    have c1 : ¬ (4 : Int32) ≤ Int32.ofNat k := by rw [show (4 : Int32) = Int32.ofNat 4 from rfl, kN_le (by omega) (by omega)]; omega
    have c4 := kN_nn (a := k) (by omega)
    have c5 := tnK (k := k) (by omega)
    by_cases kj : k = j
    · subst kj
      refine ⟨(v, Int32.ofNat (k + 1)), ⟨?_, rfl⟩, ?_⟩
      · rcases hw with ⟨rfl, hw⟩ | ⟨q, q1, q2, q3, q4, q5⟩
        · exact Or.inl ⟨rfl, fun q hq hne => hw q (by omega) hne⟩
        · exact Or.inr ⟨q, by omega, q2, q3, q4, fun q' h1 h2 h3 => q5 q' (by omega) h2 h3⟩
      · simp (config := {decide := true}) only [l_X4_priceFor_5, itr_succ, b_X4_priceFor_5, b_X4_priceFor_42, c1, nm, kN_s, ii0, ii1, ii2, ii3, ii4, if_true, if_false, ne_eq, not_false_eq_true, not_true_eq_false, true_and, and_true, false_and, and_false, and_self, true_or, or_true, false_or, or_false, or_self, Nat.reduceAdd, Nat.reduceLT, Nat.reduceLeDiff, Nat.succ_ne_zero, reduceIte, reduceCtorEq]
    · have c2 : ¬ Int32.ofNat k = Int32.ofNat j := by rw [kN_eq (by omega) (by omega)]; exact kj
      rcases x_mayBuy (τ := τ) h hi hk with ⟨m1, m2⟩ | ⟨m1, m2⟩
      · have pp : (0 : Int32).toInt = 0 := rfl
        have pos : 0 < (I (6 * i + 23) k).toInt := by have := ltT (Int32.not_le.mp m1.1); omega
        refine ⟨(if v < I (6 * i + 23) k then I (6 * i + 23) k else v, Int32.ofNat (k + 1)), ⟨?_, rfl⟩, ?_⟩
        · rcases hw with ⟨rfl, hw⟩ | ⟨q, q1, q2, q3, q4, q5⟩
          · have : (-1 : Int32) < I (6 * i + 23) k := by
              rw [Int32.lt_iff_toInt_lt, show (-1 : Int32).toInt = -1 from rfl]; omega
            simp only [this, if_true]
            exact Or.inr ⟨k, Nat.lt_succ_self _, kj, m1, rfl, fun q' h1 h2 h3 => by
              by_cases qk : q' = k
              · subst qk; exact Int.le_refl _
              · exact absurd h3 (hw q' (by omega) h2)⟩
          · by_cases c3 : v < I (6 * i + 23) k
            · simp only [c3, if_true]
              have c3' := ltT c3
              exact Or.inr ⟨k, Nat.lt_succ_self _, kj, m1, rfl, fun q' h1 h2 h3 => by
                by_cases qk : q' = k
                · subst qk; exact Int.le_refl _
                · have := q5 q' (by omega) h2 h3; omega⟩
            · simp only [c3, if_false]
              have c3' := leT (Int32.not_lt.mp c3)
              exact Or.inr ⟨q, by omega, q2, q3, q4, fun q' h1 h2 h3 => by
                by_cases qk : q' = k
                · subst qk; exact c3'
                · exact q5 q' (by omega) h2 h3⟩
        · simp (config := {decide := true}) only [l_X4_priceFor_5, itr_succ, b_X4_priceFor_5, b_X4_priceFor_42, m2, gI_pt hj, gR_pt hj, ob_pt hj, ck_pt hj, pI_pt hj, pB_pt hj, pR_pt hj, aI_pt hj, aR_pt hj, wI_pt hj, wJ_pt hj, aL_pt hj, cl1_s, cl1_n, cl1_i, cx1_s, cx1_x, cx1_n, cx1_i, nul_n, nul_s, nm, dv2, dv3, dv4, dv5, dv8, dv10, dv20, dv40, thr, bo, mI_pt hj, mT_pt hj, sB_pt, mZ_pt, mJ_pt, mJ_sJ, mZ_sJ, tn0, tn1, tn2, tn3, tn4, tn5, tn6, hx0, T4, R15, T3, R2, T23, hk, c1, c2, c4, c5, kN_s, ii0, ii1, ii2, ii3, ii4, if_true, if_false, ne_eq, not_false_eq_true, not_true_eq_false, true_and, and_true, false_and, and_false, and_self, true_or, or_true, false_or, or_false, or_self, Nat.reduceAdd, Nat.reduceLT, Nat.reduceLeDiff, Nat.succ_ne_zero, reduceIte, reduceCtorEq]
      · refine ⟨(v, Int32.ofNat (k + 1)), ⟨?_, rfl⟩, ?_⟩
        · rcases hw with ⟨rfl, hw⟩ | ⟨q, q1, q2, q3, q4, q5⟩
          · exact Or.inl ⟨rfl, fun q hq hne => by
              by_cases qk : q = k
              · subst qk; exact m1
              · exact hw q (by omega) hne⟩
          · exact Or.inr ⟨q, by omega, q2, q3, q4, fun q' h1 h2 h3 => by
              by_cases qk : q' = k
              · subst qk; exact absurd h3 m1
              · exact q5 q' (by omega) h2 h3⟩
        · simp (config := {decide := true}) only [l_X4_priceFor_5, itr_succ, b_X4_priceFor_5, b_X4_priceFor_42, m2, gI_pt hj, gR_pt hj, ob_pt hj, ck_pt hj, pI_pt hj, pB_pt hj, pR_pt hj, aI_pt hj, aR_pt hj, wI_pt hj, wJ_pt hj, aL_pt hj, cl1_s, cl1_n, cl1_i, cx1_s, cx1_x, cx1_n, cx1_i, nul_n, nul_s, nm, dv2, dv3, dv4, dv5, dv8, dv10, dv20, dv40, thr, bo, mI_pt hj, mT_pt hj, sB_pt, mZ_pt, mJ_pt, mJ_sJ, mZ_sJ, tn0, tn1, tn2, tn3, tn4, tn5, tn6, hx0, c1, c2, kN_s, ii0, ii1, ii2, ii3, ii4, if_true, if_false, ne_eq, not_false_eq_true, not_true_eq_false, true_and, and_true, false_and, and_false, and_self, true_or, or_true, false_or, or_false, or_self, Nat.reduceAdd, Nat.reduceLT, Nat.reduceLeDiff, Nat.succ_ne_zero, reduceIte, reduceCtorEq])
  obtain ⟨⟨v, x⟩, ⟨hw, hx⟩, h5⟩ := L 4 0 40 (-1, 0) (by omega) (by omega) ⟨Or.inl ⟨rfl, fun q hq => by omega⟩, rfl⟩
  simp only at hw hx
  subst hx
  refine ⟨v, ?_, hw⟩
  have c4 := kN_nn (a := j) (by omega)
  have c5 := tnK (k := j) (by omega)
  rw [f_X4_priceFor, b_X4_priceFor_0, h5]
  by_cases c : v = -1
  · simp (config := {decide := true}) only [l_X4_priceFor_5, itr_36, Nat.reduceSub, b_X4_priceFor_5, b_X4_priceFor_78, show (4 : Int32) ≤ Int32.ofNat 4 by decide, gI_pt hj, gR_pt hj, ob_pt hj, ck_pt hj, pI_pt hj, pB_pt hj, pR_pt hj, aI_pt hj, aR_pt hj, wI_pt hj, wJ_pt hj, aL_pt hj, cl1_s, cl1_n, cl1_i, cx1_s, cx1_x, cx1_n, cx1_i, nul_n, nul_s, nm, dv2, dv3, dv4, dv5, dv8, dv10, dv20, dv40, thr, bo, mI_pt hj, mT_pt hj, sB_pt, mZ_pt, mJ_pt, mJ_sJ, mZ_sJ, tn0, tn1, tn2, tn3, tn4, tn5, tn6, hx0, T4, R15, T3, c, ii0, ii1, ii2, ii3, ii4, if_true, if_false, ne_eq, not_false_eq_true, not_true_eq_false, true_and, and_true, false_and, and_false, and_self, true_or, or_true, false_or, or_false, or_self, Nat.reduceAdd, Nat.reduceLT, Nat.reduceLeDiff, Nat.succ_ne_zero, reduceIte, reduceCtorEq]
  · simp (config := {decide := true}) only [l_X4_priceFor_5, itr_36, Nat.reduceSub, b_X4_priceFor_5, b_X4_priceFor_78, show (4 : Int32) ≤ Int32.ofNat 4 by decide, gI_pt hj, gR_pt hj, ob_pt hj, ck_pt hj, pI_pt hj, pB_pt hj, pR_pt hj, aI_pt hj, aR_pt hj, wI_pt hj, wJ_pt hj, aL_pt hj, cl1_s, cl1_n, cl1_i, cx1_s, cx1_x, cx1_n, cx1_i, nul_n, nul_s, nm, dv2, dv3, dv4, dv5, dv8, dv10, dv20, dv40, thr, bo, mI_pt hj, mT_pt hj, sB_pt, mZ_pt, mJ_pt, mJ_sJ, mZ_sJ, tn0, tn1, tn2, tn3, tn4, tn5, tn6, hx0, T4, R15, T3, R2, T23, hj4, c4, c5, c, ii0, ii1, ii2, ii3, ii4, if_true, if_false, ne_eq, not_false_eq_true, not_true_eq_false, true_and, and_true, false_and, and_false, and_self, true_or, or_true, false_or, or_false, or_self, Nat.reduceAdd, Nat.reduceLT, Nat.reduceLeDiff, Nat.succ_ne_zero, reduceIte, reduceCtorEq]
/-! the reference's outcome, as it must be -/
def OcS (A : List (Nat × Int32)) (k : Nat) : Prop := (k = 0 ∧ oc A k = (none, 0)) ∨ ∃ (j : Nat) (e : Nat × Int32), j < k ∧ A[j]? = some e ∧ (oc A k).1 = some e ∧ (∀ (j' : Nat) (f : Nat × Int32), j' < k → j' ≠ j → A[j']? = some f → (f.2.toInt < e.2.toInt ∨ (f.2.toInt = e.2.toInt ∧ j < j')) ∧ f.2.toInt ≤ (oc A k).2.toInt) ∧ ((k = 1 ∧ (oc A k).2 = 0) ∨ ∃ (j' : Nat) (f : Nat × Int32), j' < k ∧ j' ≠ j ∧ A[j']? = some f ∧ f.2 = (oc A k).2)
theorem oc_spec {A : List (Nat × Int32)} (hA : ∀ (j : Nat) (e : Nat × Int32), A[j]? = some e → 1 ≤ e.2.toInt) : ∀ k, k ≤ A.length → OcS A k := by
  intro k
  have z : (0 : Int32).toInt = 0 := rfl
  induction k with
  | zero => intro _; exact Or.inl ⟨rfl, rfl⟩
  | succ k ih =>
    intro hk
    obtain ⟨e, he⟩ : ∃ e, A[k]? = some e := ⟨_, List.getElem?_eq_getElem hk⟩
    have pe := hA k e he
    rcases ih (by omega) with ⟨rfl, h0⟩ | ⟨j, f, j1, j2, j3, j4, j5⟩
    · have O1 : oc A (0 + 1) = (some e, 0) := by simp only [oc, he]
      refine Or.inr ⟨0, e, by omega, he, by rw [O1], fun j' f h1 h2 => by omega, Or.inl ⟨rfl, by rw [O1]⟩⟩
    · have pf := hA j f j2
      by_cases c : e.2 ≤ f.2
      · have c' := leT c
        have O1 : oc A (k + 1) = (some f, if (oc A k).2 < e.2 then e.2 else (oc A k).2) := by simp only [oc, he, j3, c, if_true]
        by_cases c2 : (oc A k).2 < e.2
        · rw [if_pos c2] at O1
          have c2' := ltT c2
          refine Or.inr ⟨j, f, by omega, j2, by rw [O1], fun j' g h1 h2 h3 => ?_, Or.inr ⟨k, e, by omega, by omega, he, by rw [O1]⟩⟩
          rw [O1]
          by_cases q : j' = k
          · subst q; rw [he] at h3; cases h3
            exact ⟨by omega, Int.le_refl _⟩
          · obtain ⟨x1, x2⟩ := j4 j' g (by omega) h2 h3
            exact ⟨x1, by show g.2.toInt ≤ e.2.toInt; omega⟩
        · rw [if_neg c2] at O1
          have c2' := leT (Int32.not_lt.mp c2)
          refine Or.inr ⟨j, f, by omega, j2, by rw [O1], fun j' g h1 h2 h3 => ?_, Or.inr ?_⟩
          · rw [O1]
            by_cases q : j' = k
            · subst q; rw [he] at h3; cases h3
              exact ⟨by omega, c2'⟩
            · exact j4 j' g (by omega) h2 h3
          · rw [O1]
            rcases j5 with ⟨-, j6⟩ | ⟨j', g, g1, g2, g3, g4⟩
            · rw [j6, z] at c2'; omega
            · exact ⟨j', g, by omega, g2, g3, g4⟩
      · have c' := ltT (Int32.not_le.mp c)
        have O1 : oc A (k + 1) = (some e, f.2) := by simp only [oc, he, j3, c, if_false]
        refine Or.inr ⟨k, e, by omega, he, by rw [O1], fun j' g h1 h2 h3 => ?_, Or.inr ⟨j, f, by omega, by omega, j2, by rw [O1]⟩⟩
        rw [O1]
        by_cases q : j' = j
        · subst q; rw [j2] at h3; cases h3
          exact ⟨Or.inl c', Int.le_refl _⟩
        · obtain ⟨x1, x2⟩ := j4 j' g (by omega) q h3
          exact ⟨by omega, by show g.2.toInt ≤ f.2.toInt; omega⟩
/-- both find the same buyer, and the same price -/
theorem mk_same (h : Cx φ T I R (mZ τ) e0 nS nL cS cL mx cB bl n) (iL : i < nL) {A : List (Nat × Int32)} (hA : A = AL I bl i (bl i).length) {w : Int32} (hw : WinX I i 4 w) : (w = -1 ∧ (oc A A.length).1 = none) ∨ ∃ (j : Nat) (e : Nat × Int32), j < 4 ∧ w = Int32.ofNat j ∧ (oc A A.length).1 = some e ∧ e.1 = j ∧ ∀ v, RivX I i j 4 v → (if v = -1 then I (6 * i + 22) 0 else if v + 1 < I (6 * i + 23) j then v + 1 else I (6 * i + 23) j) = prM (I (10 * i + 150) 13) e (oc A A.length).2 := by
  obtain ⟨B1, B2, B3, B4⟩ := h.bidr iL
  have E13 : I (6 * i + 22) 0 = I (10 * i + 150) 13 := (h.lr iL).1.2.2.2.2.2.2.2.2.2.2.2.2
  have g8 : ∀ k, k < 4 → I 10 k = I 128 k := h.2.2.2.2.1.2.2.1
  have z : (0 : Int32).toInt = 0 := rfl
  have zm : (-1 : Int32).toInt = -1 := rfl
  -- the elements
  have mem : ∀ (j : Nat) (e : Nat × Int32), A[j]? = some e → e.1 < 4 ∧ okX I i e.1 ∧ I (6 * i + 23) e.1 = e.2 ∧ 1 ≤ e.2.toInt ∧ e.2.toInt ≤ 99 := by
    intro j e he
    rw [hA] at he
    obtain ⟨k', k1, k2, k3⟩ := abl_mem _ j e he
    obtain ⟨m1, m2, m3, m4, m5⟩ := B2 e (List.mem_of_getElem? k2)
    obtain ⟨o1, o2⟩ := okM_t.mp k3
    refine ⟨m1, ⟨?_, ?_, ?_⟩, m4, m2, m3⟩
    · rw [m4]; intro q; have := leT q; omega
    · rw [m4, E13]; exact o1
    · rw [m4, g8 _ m1]; exact o2
  have ord : ∀ (j j' : Nat) (e f : Nat × Int32), j < j' → A[j]? = some e → A[j']? = some f → e.1 ≠ f.1 ∧ (I (6 * i + 24) e.1).toInt < (I (6 * i + 24) f.1).toInt := by
    intro j j' e f hjj h1 h2
    rw [hA] at h1 h2
    obtain ⟨k1, k2, k3, k4, k5⟩ := abl_ord _ j j' e f hjj h1 h2
    exact pw_idx B4 k3 k4 k5
  have all : ∀ q, q < 4 → okX I i q → ∃ (j : Nat) (e : Nat × Int32), A[j]? = some e ∧ e.1 = q := by
    intro q hq hok
    by_cases c : ∀ e ∈ bl i, e.1 ≠ q
    · exfalso; exact hok.1 (by rw [B3 q hq c]; decide)
    · obtain ⟨e, he, hq'⟩ : ∃ e, e ∈ bl i ∧ e.1 = q := by
        refine Classical.byContradiction (fun hn => c (fun e he hq' => hn ⟨e, he, hq'⟩))
      obtain ⟨k', hk', he'⟩ := List.mem_iff_getElem.mp he
      obtain ⟨m1, m2, m3, m4, m5⟩ := B2 e he
      have ok : okM (I (10 * i + 150) 13) (I (6 * i + 19) 1) (I 128) e = true := by
        rw [okM_t, ← E13, ← m4, hq', ← g8 q hq]
        exact ⟨hok.2.1, hok.2.2⟩
      obtain ⟨j, hj⟩ := abl_all (bl i).length k' e hk' (by rw [← he']; exact List.getElem?_eq_getElem hk') ok
      exact ⟨j, e, by rw [hA]; exact hj, hq'⟩
  have S := oc_spec (A := A) (fun j e he => (mem j e he).2.2.2.1) A.length (Nat.le_refl _)
  rcases S with ⟨l0, o0⟩ | ⟨jA, e, s1, s2, s3, s4, s5⟩
  · left
    refine ⟨?_, by rw [o0]⟩
    rcases hw with ⟨hw, -⟩ | ⟨j, j1, -, j2, -⟩
    · exact hw
    · obtain ⟨x, y, hx, -⟩ := all j j1 j2
      have := get_lt hx; omega
  · right
    obtain ⟨e4, eok, ep, e1, e99⟩ := mem jA e s2
    rcases hw with ⟨-, hw⟩ | ⟨j, j1, jw, j2, j3⟩
    · exact absurd eok (hw e.1 e4)
    have je : e.1 = j := by
      refine Classical.byContradiction (fun hne => ?_)
      have a1 := j3 e.1 e4 eok hne
      obtain ⟨x, y, hx, hy⟩ := all j j1 j2
      have xne : x ≠ jA := by
        intro q; rw [q, s2] at hx; cases hx; exact hne hy
      obtain ⟨t1, -⟩ := s4 x y (get_lt hx) xne hx
      obtain ⟨-, -, yp, -, -⟩ := mem x y hx
      rw [← hy, Ah, ep, yp] at a1
      rcases a1 with a1 | ⟨a1, a2⟩
      · have := ltT a1; omega
      · have a1' : y.2.toInt = e.2.toInt := by rw [a1]
        rcases t1 with t1 | ⟨t1, t2⟩
        · omega
        · have := (ord jA x e y t2 s2 hx).2
          have := ltT a2
          omega
    refine ⟨j, e, j1, jw, s3, je, fun v hv => ?_⟩
    rw [prM, ← E13, ← je, ep]
    rcases hv with ⟨rfl, hv⟩ | ⟨q, q1, q2, q3, q4, q5⟩
    · rcases s5 with ⟨-, s5⟩ | ⟨x, f, x1, x2, x3, x4⟩
      · rw [if_pos rfl, if_pos s5]
      · obtain ⟨f4, fok, -⟩ := mem x f x3
        exfalso
        refine hv f.1 f4 ?_ fok
        intro q
        rcases Nat.lt_or_gt_of_ne x2 with y | y
        · exact (ord x jA f e y x3 s2).1 (by omega)
        · exact (ord jA x e f y s2 x3).1 (by omega)
    · obtain ⟨x, f, hx, hf⟩ := all q q1 q3
      have xne : x ≠ jA := by
        intro y; rw [y, s2] at hx; cases hx; omega
      obtain ⟨-, t2⟩ := s4 x f (get_lt hx) xne hx
      obtain ⟨-, -, fp, f1, f99⟩ := mem x f hx
      have vf : v = f.2 := by rw [← q4, ← hf]; exact fp
      have vn : v ≠ -1 := by intro y; rw [y] at vf; rw [← vf, zm] at f1; omega
      rcases s5 with ⟨s5, s6⟩ | ⟨x', g, g1, g2, g3, g4⟩
      · rw [s6, z] at t2; omega
      · obtain ⟨g4', gok, gp, gp1, gp2⟩ := mem x' g g3
        have gne : g.1 ≠ j := by
          intro y
          rcases Nat.lt_or_gt_of_ne g2 with y2 | y2
          · exact (ord x' jA g e y2 g3 s2).1 (by omega)
          · exact (ord jA x' e g y2 s2 g3).1 (by omega)
        have b1 := q5 g.1 g4' gne gok
        rw [gp, vf] at b1
        have same : v = (oc A A.length).2 := by
          rw [vf]; refine Int32.toInt_inj.mp ?_
          rw [← g4] at t2 ⊢; omega
        have nz : ¬ (oc A A.length).2 = 0 := by
          intro y; rw [y, z] at t2; omega
        rw [if_neg vn, same, if_neg nz]
end MD

/-! WOULDPAY -/
section WP
variable {φ : Nat → Nat} {T : Nat → Nat × Nat} {I : Nat → Nat → Int32} {R : Nat → Nat → Option Nat} {τ : Mem} {e0 nS nL cS cL n z : Nat} {mx : Nat → Int32} {cB : Nat → Nat} {bl : Nat → List (Nat × Int32)}
variable {mi a k i j : Nat} {J : Nat → Nat → Int32} {p q r : Int32} {τ0 τ1 : Mem}
theorem bid_of {xa xp xt : Nat → Int32} {b : List (Nat × Int32)} (h : BidR xa xp xt b n) {q : Nat} (hq : q < 4) (hp : ¬ xp q ≤ 0) : ∃ (k : Nat) (e : Nat × Int32), b[k]? = some e ∧ e.1 = q := by
  refine Classical.byContradiction (fun hn => hp ?_)
  rw [h.2.2.1 q hq (fun e he hq' => hn ?_)]
  · exact Int32.le_refl _
  · obtain ⟨k', hk', he'⟩ := List.mem_iff_getElem.mp he
    exact ⟨k', e, by rw [← he']; exact List.getElem?_eq_getElem hk', hq'⟩
theorem turn_ne {xa xp xt : Nat → Int32} {b : List (Nat × Int32)} (h : BidR xa xp xt b n) {q w : Nat} (hq : q < 4) (hw : w < 4) (hne : q ≠ w) (h1 : ¬ xp q ≤ 0) (h2 : ¬ xp w ≤ 0) : (xt q).toInt ≠ (xt w).toInt := by
  obtain ⟨k1, e, he, rfl⟩ := bid_of h hq h1
  obtain ⟨k2, f, hf, rfl⟩ := bid_of h hw h2
  have : k1 ≠ k2 := by
    intro y; rw [y, hf] at he; cases he; exact hne rfl
  rcases Nat.lt_or_gt_of_ne this with y | y
  · have := (pw_idx h.2.2.2 y he hf).2; omega
  · have := (pw_idx h.2.2.2 y hf he).2; omega
theorem x_win (h : Cx φ T I R (mZ τ) e0 nS nL cS cL mx cB bl n) (iL : i < nL) : ∃ w, f_X4_winnerOf (φ 0) (some (φ (6 * i + 19))) (pt φ T I R τ) = some (w, pt φ T I R τ) ∧ WinX I i 4 w := by
  have hN := h.m.2.2.2.2.1
  exact x_winner h (by omega) (fun q w hq hw hne o1 o2 => turn_ne (h.bidr iL) hq hw hne o1.1 o2.1)
def payV (rs d : Int32) (o : Option (Nat × Int32) × Int32) : Int32 := match o.1 with
  | none => 0
  | some e => prM rs e o.2 * d / 10
def WV (I : Nat → Nat → Int32) (bl : Nat → List (Nat × Int32)) (i : Nat) : Int32 := payV (I (10 * i + 150) 13) (I (6 * i + 19) 1) (oc (AL I bl i (bl i).length) (AL I bl i (bl i).length).length)
theorem x_wouldPay (h : Cx φ T I R (mZ τ) e0 nS nL cS cL mx cB bl n) (hp : InN p nL) (hi : p.toNatClampNeg = i) (ho : ¬ I (6 * i + 22) 0 ≤ 0) : f_X4_wouldPay (φ 0) p (pt φ T I R τ) = some (.inl (WV I bl i), pt φ T I R τ) := by
  have iL : i < nL := hi ▸ (idx h.m.2.2.2.2.1 hp.1 hp.2).2.2.2.2
  have hN := h.m.2.2.2.2.1
  have A := x_lotAt h hp hi
  obtain ⟨w, W, hw⟩ := x_win (τ := τ) h iL
  have hj := h.hj
  have hx0 := h.m.2.2.2.2.2.2.2
  obtain ⟨T4, R15, T3⟩ : T (6 * i + 19) = (4, 0) ∧ R (6 * i + 19) 15 = some (φ (6 * i + 22)) ∧ T (6 * i + 22) = (3, 0) := by
    obtain ⟨hj, hl, hx, hm, hr⟩ := h; obtain ⟨hx0, hx1, hx2, hx3, hx4, hx5, hx6, hx7, hx8, hx9, hx10, hx11, hx12, hx13, hx14, hx15, hx16, hx17, hx18, hx19, hx20, hx21, hx22, hx23, hx24, hx25, hx26, hx27⟩ := hx; obtain ⟨hm0, hm1, hm2, hm3, hm4, hm5, hm6, hm7, hm8, hm9, hm10, hm11, hm12, hm13, hm14, hm15, hm16, hm17, hm18, hm19, hm20, hm21, hm22, hm23, hm24, hm25, hm26, hm27, hm28, hm29, hm30, hm31, hm32, hm33, hm34, hm35, hm36, hm37, hm38, hm39, hm40, hm41, hm42, hm43, hm44⟩ := hm; obtain ⟨⟨⟨g1, g2⟩, ⟨g3, g4, g5, g6, g7⟩, g8, g9, g10⟩, r1, r2, r3, r4, r5, r6⟩ := hr
    exact ⟨hx15 i (by omega), hx18 i (by omega), hx21 i (by omega)⟩
  have O := x_isOpen (I := I) (R := R) (τ := τ) hj T3
  rw [if_neg ho] at O
  rcases mk_same h iL rfl hw with ⟨rfl, hn⟩ | ⟨j, e, j4, rfl, he, -, hpr⟩
  · have V : WV I bl i = 0 := by simp only [WV, payV, hn]
    simp (config := {decide := true}) only [b_X4_wouldPay_41, b_X4_wouldPay_0, f_X4_wouldPay, A, O, W, x_st1, V, gI_pt hj, gR_pt hj, ob_pt hj, ck_pt hj, pI_pt hj, pB_pt hj, pR_pt hj, aI_pt hj, aR_pt hj, wI_pt hj, wJ_pt hj, aL_pt hj, cl1_s, cl1_n, cl1_i, cx1_s, cx1_x, cx1_n, cx1_i, nul_n, nul_s, nm, dv2, dv3, dv4, dv5, dv8, dv10, dv20, dv40, thr, bo, mI_pt hj, mT_pt hj, sB_pt, mZ_pt, mJ_pt, mJ_sJ, mZ_sJ, tn0, tn1, tn2, tn3, tn4, tn5, tn6, hx0, T4, R15, T3, ii0, ii1, ii2, ii3, ii4, if_true, if_false, ne_eq, not_false_eq_true, not_true_eq_false, true_and, and_true, false_and, and_false, and_self, true_or, or_true, false_or, or_false, or_self, Nat.reduceAdd, Nat.reduceLT, Nat.reduceLeDiff, Nat.succ_ne_zero, reduceIte, reduceCtorEq]
  · obtain ⟨v, P, hv⟩ := x_price (τ := τ) h (show i < 17 by omega) j4
    rw [hpr v hv] at P
    have V : WV I bl i = prM (I (10 * i + 150) 13) e (oc (AL I bl i (bl i).length) (AL I bl i (bl i).length).length).2 * I (6 * i + 19) 1 / 10 := by simp only [WV, payV, he]
    have C := x_cost (I := I) (R := R) (τ := τ) hj T4
    have jn := oN_neg (j := j) (by omega)
    simp (config := {decide := true}) only [b_X4_wouldPay_41, b_X4_wouldPay_0, f_X4_wouldPay, A, O, W, P, C, x_st1, V, jn, gI_pt hj, gR_pt hj, ob_pt hj, ck_pt hj, pI_pt hj, pB_pt hj, pR_pt hj, aI_pt hj, aR_pt hj, wI_pt hj, wJ_pt hj, aL_pt hj, cl1_s, cl1_n, cl1_i, cx1_s, cx1_x, cx1_n, cx1_i, nul_n, nul_s, nm, dv2, dv3, dv4, dv5, dv8, dv10, dv20, dv40, thr, bo, mI_pt hj, mT_pt hj, sB_pt, mZ_pt, mJ_pt, mJ_sJ, mZ_sJ, tn0, tn1, tn2, tn3, tn4, tn5, tn6, hx0, T4, R15, T3, ii0, ii1, ii2, ii3, ii4, if_true, if_false, ne_eq, not_false_eq_true, not_true_eq_false, true_and, and_true, false_and, and_false, and_self, true_or, or_true, false_or, or_false, or_self, Nat.reduceAdd, Nat.reduceLT, Nat.reduceLeDiff, Nat.succ_ne_zero, reduceIte, reduceCtorEq]
theorem AL_J {J : Nat → Nat → Int32} (h1 : J (10 * i + 150) = I (10 * i + 150)) (h2 : J (6 * i + 19) = I (6 * i + 19)) (h3 : J 128 = I 128) : AL J bl i k = AL I bl i k := by
  simp only [AL, h1, h2, h3]
theorem m_wouldPayNow (h : Cx φ T I R (mZ τ) e0 nS nL cS cL mx cB bl n) (hJ : ∀ v, 125 ≤ v → J v = I v) (hz : mZ τ ≤ mZ τ1) (hp : InN p nL) (hi : p.toNatClampNeg = i) : ∃ τ', f_X8_wouldPayNow e0 mi (φ 124) p (pt φ T J R τ1) = some (WV I bl i, pt φ T J R τ') ∧ Kp (mZ τ1) τ1 τ' := by
  have iL : i < nL := hi ▸ (idx h.m.2.2.2.2.1 hp.1 hp.2).2.2.2.2
  have hj := h.hj
  have h0 := h.m.1
  have h7 := h.m.2.2.2.1
  have h6 := h.m.2.2.1
  have T8 := h.t8 iL
  obtain ⟨τ', r, O, K, hr⟩ := m_outcome (mi := mi) h hJ hz iL rfl
  have G1 := m_getJ (τ := τ1) h (hJ 126 (by omega)) hp hi
  have G2 := m_getJ (τ := τ') h (hJ 126 (by omega)) hp hi
  refine ⟨τ', ?_, K⟩
  rcases hr with ⟨hn, rfl⟩ | ⟨e, a, he, rfl, ha, tA, a0, a1⟩
  · have V : WV I bl i = 0 := by simp only [WV, payV, hn]
    simp (config := {decide := true}) only [b_X8_wouldPayNow_45, b_X8_wouldPayNow_0, f_X8_wouldPayNow, G1, O, V, gI_pt hj, gR_pt hj, ob_pt hj, ck_pt hj, pI_pt hj, pB_pt hj, pR_pt hj, aI_pt hj, aR_pt hj, wI_pt hj, wJ_pt hj, aL_pt hj, cl1_s, cl1_n, cl1_i, cx1_s, cx1_x, cx1_n, cx1_i, nul_n, nul_s, nm, dv2, dv3, dv4, dv5, dv8, dv10, dv20, dv40, thr, bo, mI_pt hj, mT_pt hj, sB_pt, mZ_pt, mJ_pt, mJ_sJ, mZ_sJ, tn0, tn1, tn2, tn3, tn4, tn5, tn6, h0, h7, h6, T8, ii0, ii1, ii2, ii3, ii4, if_true, if_false, ne_eq, not_false_eq_true, not_true_eq_false, true_and, and_true, false_and, and_false, and_self, true_or, or_true, false_or, or_false, or_self, Nat.reduceAdd, Nat.reduceLT, Nat.reduceLeDiff, Nat.succ_ne_zero, reduceIte, reduceCtorEq]
  · have V : WV I bl i = prM (I (10 * i + 150) 13) e (oc (AL I bl i (bl i).length) (AL I bl i (bl i).length).length).2 * I (6 * i + 19) 1 / 10 := by simp only [WV, payV, he]
    have DD := m_dryJ (J := J) (τ := τ') h iL (hJ _ (by omega))
    have hoa : Off φ T a := h.offZ (by omega)
    simp (config := {decide := true}) only [b_X8_wouldPayNow_45, b_X8_wouldPayNow_0, f_X8_wouldPayNow, G1, G2, O, DD, V, gI_pt hj, gR_pt hj, ob_pt hj, ck_pt hj, pI_pt hj, pB_pt hj, pR_pt hj, aI_pt hj, aR_pt hj, wI_pt hj, wJ_pt hj, aL_pt hj, cl1_s, cl1_n, cl1_i, cx1_s, cx1_x, cx1_n, cx1_i, nul_n, nul_s, nm, dv2, dv3, dv4, dv5, dv8, dv10, dv20, dv40, thr, bo, gI_off, gR_off, ob_off, ck_off, pI_off, pB_off, pR_off, aI_off, wI_off, aR_off, nA_off, nO_off, mT_sI, mT_sR, mT_sJ, mT_sN_at, mI_sN_at, mR_sN_at, mI_sI, mI_sR, mI_sJ, mR_sI, mR_sR, mR_sJ, mZ_sI, mZ_sR, mZ_sN, mJ_sI, mJ_sR, hoa, mI_pt hj, mT_pt hj, sB_pt, mZ_pt, mJ_pt, mJ_sJ, mZ_sJ, tn0, tn1, tn2, tn3, tn4, tn5, tn6, tA, a1, h0, h7, h6, T8, ii0, ii1, ii2, ii3, ii4, if_true, if_false, ne_eq, not_false_eq_true, not_true_eq_false, true_and, and_true, false_and, and_false, and_self, true_or, or_true, false_or, or_false, or_self, Nat.reduceAdd, Nat.reduceLT, Nat.reduceLeDiff, Nat.succ_ne_zero, reduceIte, reduceCtorEq]
theorem op_wouldPay {x m o : Nat} {σ : Mem} (p : Int32) (h : Jn e0 x m o n σ) : Agr e0 x m o n (f_L_wouldPay (some x) p (some o) σ) (fun σ => f_X8_wouldPay e0 mi m p σ) := by
  obtain ⟨φ, T, I, R, τ, nS, nL, cS, cL, mx, cB, bl, rfl, ⟨rfl, rfl, rfl⟩, h⟩ := h
  have h : Cx φ T I R (mZ τ) e0 nS nL cS cL mx cB bl n := h
  have hj := h.hj
  have h0 := h.m.1
  have hx0 := h.m.2.2.2.2.2.2.2
  have h132 := h.m.2.2.2.2.2.2.1
  have h7 := h.m.2.2.2.1
  have h6 := h.m.2.2.1
  have hN := h.m.2.2.2.2.1
  have h' : Cx φ T I R (mZ (sB τ)) e0 nS nL cS cL mx cB bl n := h.up (Nat.le_succ _)
  by_cases hp : InN p nL
  · have iL := (idx h.m.2.2.2.2.1 hp.1 hp.2).2.2.2.2
    generalize hi : p.toNatClampNeg = i at iL
    have T8 := h.t8 iL
    have E13 : I (6 * i + 22) 0 = I (10 * i + 150) 13 := (h.lr iL).1.2.2.2.2.2.2.2.2.2.2.2.2
    obtain ⟨T4, R15, T3⟩ : T (6 * i + 19) = (4, 0) ∧ R (6 * i + 19) 15 = some (φ (6 * i + 22)) ∧ T (6 * i + 22) = (3, 0) := by
      obtain ⟨hj, hl, hx, hm, hr⟩ := h; obtain ⟨hx0, hx1, hx2, hx3, hx4, hx5, hx6, hx7, hx8, hx9, hx10, hx11, hx12, hx13, hx14, hx15, hx16, hx17, hx18, hx19, hx20, hx21, hx22, hx23, hx24, hx25, hx26, hx27⟩ := hx; obtain ⟨hm0, hm1, hm2, hm3, hm4, hm5, hm6, hm7, hm8, hm9, hm10, hm11, hm12, hm13, hm14, hm15, hm16, hm17, hm18, hm19, hm20, hm21, hm22, hm23, hm24, hm25, hm26, hm27, hm28, hm29, hm30, hm31, hm32, hm33, hm34, hm35, hm36, hm37, hm38, hm39, hm40, hm41, hm42, hm43, hm44⟩ := hm; obtain ⟨⟨⟨g1, g2⟩, ⟨g3, g4, g5, g6, g7⟩, g8, g9, g10⟩, r1, r2, r3, r4, r5, r6⟩ := hr
      exact ⟨hx15 i (by omega), hx18 i (by omega), hx21 i (by omega)⟩
    have JJ : ∀ v, 125 ≤ v → up2 I 124 0 0 v = I v := fun v hv => up2_row (by omega)
    by_cases hs : I (6 * i + 22) 0 ≤ 0
    · refine Agr.bad (k := 2) (b := 0) h (by decide) ?_ ?_
      · have O := x_isOpen (I := I) (R := R) (τ := τ) hj T3
        rw [if_pos hs] at O
        simp (config := {decide := true}) only [f_L_wouldPay, b_L_wouldPay_0, f_X4_wouldPay, b_X4_wouldPay_0, x_lotAt h hp hi, O, x_st0, gI_pt hj, gR_pt hj, ob_pt hj, ck_pt hj, pI_pt hj, pB_pt hj, pR_pt hj, aI_pt hj, aR_pt hj, wI_pt hj, wJ_pt hj, aL_pt hj, cl1_s, cl1_n, cl1_i, cx1_s, cx1_x, cx1_n, cx1_i, nul_n, nul_s, nm, dv2, dv3, dv4, dv5, dv8, dv10, dv20, dv40, thr, bo, mI_pt hj, mT_pt hj, sB_pt, mZ_pt, mJ_pt, mJ_sJ, mZ_sJ, tn0, tn1, tn2, tn3, tn4, tn5, tn6, hx0, T4, R15, T3, ii0, ii1, ii2, ii3, ii4, if_true, if_false, ne_eq, not_false_eq_true, not_true_eq_false, true_and, and_true, false_and, and_false, and_self, true_or, or_true, false_or, or_false, or_self, Nat.reduceAdd, Nat.reduceLT, Nat.reduceLeDiff, Nat.succ_ne_zero, reduceIte, reduceCtorEq]
      · have G := m_getJ (J := up2 I 124 0 0) (τ := sB τ) h' (JJ 126 (by omega)) hp hi
        have O := m_isOff (I := up2 I 124 0 0) (R := R) (τ := sB τ) hj T8
        rw [JJ _ (by omega), ← E13, if_pos hs] at O
        simp (config := {decide := true}) only [f_X8_wouldPay, b_X8_wouldPay_0, b_X8_wouldPay_36, b_X8_wouldPay_43, b_X8_wouldPay_52, m_noLot h' hp, m_start0 hj h0, m_ref1 hj h0 (show ¬ (2 : Int32) ≤ 0 by decide), G, O, gI_pt hj, gR_pt hj, ob_pt hj, ck_pt hj, pI_pt hj, pB_pt hj, pR_pt hj, aI_pt hj, aR_pt hj, wI_pt hj, wJ_pt hj, aL_pt hj, cl1_s, cl1_n, cl1_i, cx1_s, cx1_x, cx1_n, cx1_i, nul_n, nul_s, nm, dv2, dv3, dv4, dv5, dv8, dv10, dv20, dv40, thr, bo, mI_pt hj, mT_pt hj, sB_pt, mZ_pt, mJ_pt, mJ_sJ, mZ_sJ, tn0, tn1, tn2, tn3, tn4, tn5, tn6, h0, h7, h6, T8, ii0, ii1, ii2, ii3, ii4, if_true, if_false, ne_eq, not_false_eq_true, not_true_eq_false, true_and, and_true, false_and, and_false, and_self, true_or, or_true, false_or, or_false, or_self, Nat.reduceAdd, Nat.reduceLT, Nat.reduceLeDiff, Nat.succ_ne_zero, reduceIte, reduceCtorEq]
    · obtain ⟨v, hv⟩ : ∃ v, v = WV I bl i := ⟨_, rfl⟩
      have X := x_wouldPay (τ := τ) h hp hi hs
      obtain ⟨τ', e1, e2⟩ := m_wouldPayNow (mi := mi) (J := up2 I 124 0 0) (τ1 := sJ τ (φ 132) 0 v.toInt64) h JJ (Nat.le_refl _) hp hi
      rw [← hv] at e1 X
      refine Agr.val (v := v) (τ' := τ') h e2.1 ((e2.out h.out).trans sJ_at) ?_ ?_
      · simp (config := {decide := true}) only [f_L_wouldPay, b_L_wouldPay_0, X, gI_pt hj, gR_pt hj, ob_pt hj, ck_pt hj, pI_pt hj, pB_pt hj, pR_pt hj, aI_pt hj, aR_pt hj, wI_pt hj, wJ_pt hj, aL_pt hj, cl1_s, cl1_n, cl1_i, cx1_s, cx1_x, cx1_n, cx1_i, nul_n, nul_s, nm, dv2, dv3, dv4, dv5, dv8, dv10, dv20, dv40, thr, bo, mI_pt hj, mT_pt hj, sB_pt, mZ_pt, mJ_pt, mJ_sJ, mZ_sJ, tn0, tn1, tn2, tn3, tn4, tn5, tn6, hx0, h132, ii0, ii1, ii2, ii3, ii4, if_true, if_false, ne_eq, not_false_eq_true, not_true_eq_false, true_and, and_true, false_and, and_false, and_self, true_or, or_true, false_or, or_false, or_self, Nat.reduceAdd, Nat.reduceLT, Nat.reduceLeDiff, Nat.succ_ne_zero, reduceIte, reduceCtorEq]
      · have h'' : Cx φ T I R (mZ (sJ τ (φ 132) 0 v.toInt64)) e0 nS nL cS cL mx cB bl n := h
        have G := m_getJ (J := up2 I 124 0 0) (τ := sJ τ (φ 132) 0 v.toInt64) h'' (JJ 126 (by omega)) hp hi
        have O := m_isOff (I := up2 I 124 0 0) (R := R) (τ := sJ τ (φ 132) 0 v.toInt64) hj T8
        rw [JJ _ (by omega), ← E13, if_neg hs] at O
        simp (config := {decide := true}) only [f_X8_wouldPay, b_X8_wouldPay_0, b_X8_wouldPay_36, b_X8_wouldPay_52, m_noLot h'' hp, m_start0 hj h0, m_ref0 hj h0, G, O, e1, gI_pt hj, gR_pt hj, ob_pt hj, ck_pt hj, pI_pt hj, pB_pt hj, pR_pt hj, aI_pt hj, aR_pt hj, wI_pt hj, wJ_pt hj, aL_pt hj, cl1_s, cl1_n, cl1_i, cx1_s, cx1_x, cx1_n, cx1_i, nul_n, nul_s, nm, dv2, dv3, dv4, dv5, dv8, dv10, dv20, dv40, thr, bo, mI_pt hj, mT_pt hj, sB_pt, mZ_pt, mJ_pt, mJ_sJ, mZ_sJ, tn0, tn1, tn2, tn3, tn4, tn5, tn6, h0, h7, h6, T8, ii0, ii1, ii2, ii3, ii4, if_true, if_false, ne_eq, not_false_eq_true, not_true_eq_false, true_and, and_true, false_and, and_false, and_self, true_or, or_true, false_or, or_false, or_self, Nat.reduceAdd, Nat.reduceLT, Nat.reduceLeDiff, Nat.succ_ne_zero, reduceIte, reduceCtorEq]
  · refine Agr.bad (k := 1) (b := 0) h (by decide) ?_ ?_
    · simp (config := {decide := true}) only [f_L_wouldPay, b_L_wouldPay_0, f_X4_wouldPay, b_X4_wouldPay_0, x_lotAtN h hp, gI_pt hj, gR_pt hj, ob_pt hj, ck_pt hj, pI_pt hj, pB_pt hj, pR_pt hj, aI_pt hj, aR_pt hj, wI_pt hj, wJ_pt hj, aL_pt hj, cl1_s, cl1_n, cl1_i, cx1_s, cx1_x, cx1_n, cx1_i, nul_n, nul_s, nm, dv2, dv3, dv4, dv5, dv8, dv10, dv20, dv40, thr, bo, mI_pt hj, mT_pt hj, sB_pt, mZ_pt, mJ_pt, mJ_sJ, mZ_sJ, tn0, tn1, tn2, tn3, tn4, tn5, tn6, hx0, h132, ii0, ii1, ii2, ii3, ii4, if_true, if_false, ne_eq, not_false_eq_true, not_true_eq_false, true_and, and_true, false_and, and_false, and_self, true_or, or_true, false_or, or_false, or_self, Nat.reduceAdd, Nat.reduceLT, Nat.reduceLeDiff, Nat.succ_ne_zero, reduceIte, reduceCtorEq]
    · simp (config := {decide := true}) only [f_X8_wouldPay, b_X8_wouldPay_0, b_X8_wouldPay_43, b_X8_wouldPay_52, m_noLotN h' hp, m_start1 hj h0 (show ¬ (1 : Int32) ≤ 0 by decide), gI_pt hj, gR_pt hj, ob_pt hj, ck_pt hj, pI_pt hj, pB_pt hj, pR_pt hj, aI_pt hj, aR_pt hj, wI_pt hj, wJ_pt hj, aL_pt hj, cl1_s, cl1_n, cl1_i, cx1_s, cx1_x, cx1_n, cx1_i, nul_n, nul_s, nm, dv2, dv3, dv4, dv5, dv8, dv10, dv20, dv40, thr, bo, mI_pt hj, mT_pt hj, sB_pt, mZ_pt, mJ_pt, mJ_sJ, mZ_sJ, tn0, tn1, tn2, tn3, tn4, tn5, tn6, h0, ii0, ii1, ii2, ii3, ii4, if_true, if_false, ne_eq, not_false_eq_true, not_true_eq_false, true_and, and_true, false_and, and_false, and_self, true_or, or_true, false_or, or_false, or_self, Nat.reduceAdd, Nat.reduceLT, Nat.reduceLeDiff, Nat.succ_ne_zero, reduceIte, reduceCtorEq]
end WP
