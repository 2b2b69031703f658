/-! LOOPS, iterators, what stays of the rest -/
theorem itr_loop {St β : Type} (L : Nat → St → Option β) (Inv : Nat → St → Prop) (N : Nat) (step : ∀ n k s, k < N → Inv k s → ∃ s', Inv (k + 1) s' ∧ L (n + 1) s = L n s') : ∀ (d k n : Nat) (s : St), k + d = N → d ≤ n → Inv k s → ∃ s', Inv N s' ∧ L n s = L (n - d) s' := by
  intro d
  induction d with
  | zero => intro k n s h1 _ h3; exact ⟨s, (show k = N by omega) ▸ h3, rfl⟩
  | succ d ih =>
    intro k n s h1 h2 h3
    obtain ⟨m, rfl⟩ : ∃ m, n = m + 1 := ⟨n - 1, by omega⟩
    obtain ⟨s1, h4, h5⟩ := step m k s (by omega) h3
    obtain ⟨s2, h6, h7⟩ := ih (k + 1) m s1 (by omega) (by omega) h4
    exact ⟨s2, h6, by rw [h5, h7]; congr 1; omega⟩
def sm (f : Nat → Int32) : Nat → Int32
  | 0 => 0
  | n + 1 => sm f n + f n
theorem sm_congr {f g : Nat → Int32} {n : Nat} (h : ∀ i, i < n → f i = g i) : sm f n = sm g n := by
  induction n with
  | zero => rfl
  | succ n ih => simp only [sm]; rw [ih (fun i hi => h i (by omega)), h n (by omega)]
theorem kN_lt {a b : Nat} (ha : a < 1000000) (hb : b < 1000000) : (Int32.ofNat a < Int32.ofNat b) ↔ a < b := by
  rw [Int32.lt_iff_toInt_lt, Int32.toInt_ofNat_of_lt (by omega), Int32.toInt_ofNat_of_lt (by omega)]; omega
theorem kN_le {a b : Nat} (ha : a < 1000000) (hb : b < 1000000) : (Int32.ofNat a ≤ Int32.ofNat b) ↔ a ≤ b := by
  rw [Int32.le_iff_toInt_le, Int32.toInt_ofNat_of_lt (by omega), Int32.toInt_ofNat_of_lt (by omega)]; omega
theorem kN_eq {a b : Nat} (ha : a < 1000000) (hb : b < 1000000) : (Int32.ofNat a = Int32.ofNat b) ↔ a = b := by
  rw [← Int32.toInt_inj, Int32.toInt_ofNat_of_lt (by omega), Int32.toInt_ofNat_of_lt (by omega)]; omega
theorem kN_s (a : Nat) : Int32.ofNat a + 1 = Int32.ofNat (a + 1) := (Int32.ofNat_add a 1).symm
theorem kN_nn {a : Nat} (ha : a < 1000000) : ¬ Int32.ofNat a < 0 := by
  rw [show (0 : Int32) = Int32.ofNat 0 from rfl, kN_lt ha (by omega)]; omega
theorem kN_t {a : Nat} (ha : a < 1000000) : (Int32.ofNat a).toInt = a := Int32.toInt_ofNat_of_lt (by omega)
theorem InN.of {k n : Nat} (h : k < n) (hn : n < 1000000) : InN (Int32.ofNat k) n := ⟨kN_nn (by omega), (kN_lt (by omega) hn).mpr h⟩
theorem tnK {k : Nat} (h : k < 1000000) : (Int32.ofNat k).toNatClampNeg = k := oN_c (by omega)
/-! what stays -/
def Kp (z : Nat) (τ τ' : Mem) : Prop := mZ τ ≤ mZ τ' ∧ ∀ b, b < z → mI τ' b = mI τ b ∧ mR τ' b = mR τ b ∧ mJ τ' b = mJ τ b ∧ mT τ' b = mT τ b
section KP
variable {z a k : Nat} {τ τ1 τ2 τ3 : Mem} {x : Int32} {r : Option Nat} {t : Nat × Nat}
theorem Kp.refl : Kp z τ τ := ⟨Nat.le_refl _, fun _ _ => ⟨rfl, rfl, rfl, rfl⟩⟩
theorem Kp.trans (h1 : Kp z τ1 τ2) (h2 : Kp z τ2 τ3) : Kp z τ1 τ3 := ⟨Nat.le_trans h1.1 h2.1, fun b hb => by
  obtain ⟨a1, a2, a3, a4⟩ := h1.2 b hb
  obtain ⟨b1, b2, b3, b4⟩ := h2.2 b hb
  exact ⟨b1.trans a1, b2.trans a2, b3.trans a3, b4.trans a4⟩⟩
theorem Kp.less {z' : Nat} (h : Kp z τ1 τ2) (hz : z' ≤ z) : Kp z' τ1 τ2 := ⟨h.1, fun b hb => h.2 b (Nat.lt_of_lt_of_le hb hz)⟩
theorem up2_ne {α : Type} {f : Nat → Nat → α} {a k b : Nat} {v : α} (h : b ≠ a) : up2 f a k v b = f b := up2_row h
theorem Kp.sI (ha : z ≤ a) : Kp z τ (sI τ a k x) := ⟨Nat.le_refl _, fun b hb => ⟨up2_row (by omega), rfl, rfl, rfl⟩⟩
theorem Kp.sR (ha : z ≤ a) : Kp z τ (sR τ a k r) := ⟨Nat.le_refl _, fun b hb => ⟨rfl, up2_row (by omega), rfl, rfl⟩⟩
theorem Kp.sN (hz : z ≤ mZ τ) : Kp z τ (sN τ t) := ⟨Nat.le_succ _, fun b hb => by
  have : b ≠ mZ τ := by omega
  exact ⟨rowS_ne this, rowS_ne this, rowS_ne this, rowS_ne this⟩⟩
theorem Kp.sB (hz : z ≤ mZ τ) : Kp z τ (sB τ) := ⟨Nat.le_succ _, fun b hb => ⟨rfl, rfl, rfl, rfl⟩⟩
theorem Kp.out {j : Nat} (h : Kp z τ1 τ2) (ha : a < z) : mJ τ2 a j = mJ τ1 a j := congrFun (h.2 a ha).2.2.1 j
end KP
/-! an iterator at a, over the list l, k steps on -/
def Itr (τ : Mem) (a l : Nat) (mc : Int32) (k : Nat) : Prop := mT τ a = (1, 0) ∧ mR τ a 3 = some l ∧ mI τ a 2 = mc ∧ mI τ a 0 = Int32.ofNat k
section IT
variable {φ : Nat → Nat} {T : Nat → Nat × Nat} {I J : Nat → Nat → Int32} {R : Nat → Nat → Option Nat} {τ : Mem} {e0 mi a l w c s k z : Nat} {mc : Int32}
def itN (τ : Mem) (l : Nat) (mc : Int32) : Mem := sI (sI (sR (sN τ (1, 0)) (mZ τ) 3 (some l)) (mZ τ) 1 (-1)) (mZ τ) 2 mc
def itS (τ : Mem) (a k : Nat) : Mem := sI (sI τ a 0 (Int32.ofNat (k + 1))) a 1 (Int32.ofNat k)
theorem itN_I (τ : Mem) (l : Nat) (mc : Int32) : Itr (itN τ l mc) (mZ τ) l mc 0 := by
  refine ⟨mT_sN_at, ?_, ?_, ?_⟩
  · simp only [itN, mR_sI, mR_sR, up2_at]
  · simp only [itN, mI_sI, up2_at]
  · simp (config := {decide := true}) only [itN, mI_sI, mI_sR, up2, mI_sN_at]; rfl
theorem itN_K (hz : z ≤ mZ τ) : Kp z τ (itN τ l mc) := ((Kp.sN hz).trans (Kp.sR hz)).trans ((Kp.sI hz).trans (Kp.sI hz))
theorem itN_Z : mZ (itN τ l mc) = mZ τ + 1 := rfl
theorem itS_I (h : Itr τ a l mc k) : Itr (itS τ a k) a l mc (k + 1) := by
  obtain ⟨h1, h2, h3, h4⟩ := h
  refine ⟨h1, h2, ?_, ?_⟩
  · simp (config := {decide := true}) only [itS, mI_sI, up2, and_false, if_false]; exact h3
  · simp (config := {decide := true}) only [itS, mI_sI, up2, and_false, if_false, if_true]
theorem itS_K (hz : z ≤ a) : Kp z τ (itS τ a k) := (Kp.sI hz).trans (Kp.sI hz)
theorem itS_Z : mZ (itS τ a k) = mZ τ := rfl
theorem m_iter (hj : Inj φ T) (ho : Off φ T (mZ τ)) (h : T l = (2, 0)) : f_Jx4a65c_iterator_32c93 (φ l) (pt φ T I R τ) = some (some (mZ τ), pt φ T I R (itN τ (φ l) (I l 0))) := by
  have U : up2 (mR (sN τ (1, 0))) (mZ τ) 3 (some (φ l)) (mZ τ) 3 = some (φ l) := up2_at
  simp (config := {decide := true}) only [b_Jx4a65c_iterator_32c93_0, f_Jx4a65c_iterator_32c93, b_Jx35411_init_45d68_0, f_Jx35411_init_45d68, gI_pt hj, gR_pt hj, ob_pt hj, ck_pt hj, pI_pt hj, pB_pt hj, pR_pt hj, aI_pt hj, aR_pt hj, wI_pt hj, wJ_pt hj, aL_pt hj, cl1_s, cl1_n, cl1_i, cx1_s, cx1_x, cx1_n, cx1_i, nul_n, nul_s, nm, dv2, dv3, dv4, dv5, dv8, dv10, dv20, dv40, thr, bo, gI_off, gR_off, ob_off, ck_off, pI_off, pB_off, pR_off, aI_off, wI_off, aR_off, nA_off, nO_off, mT_sI, mT_sR, mT_sJ, mT_sN_at, mI_sN_at, mR_sN_at, mI_sI, mI_sR, mI_sJ, mR_sI, mR_sR, mR_sJ, mZ_sI, mZ_sR, mZ_sN, mJ_sI, mJ_sR, ho, mI_pt hj, mT_pt hj, sB_pt, mZ_pt, mJ_pt, mJ_sJ, mZ_sJ, tn0, tn1, tn2, tn3, tn4, tn5, tn6, h, U, itN, ii0, ii1, ii2, ii3, ii4, if_true, if_false, ne_eq, not_false_eq_true, not_true_eq_false, true_and, and_true, false_and, and_false, and_self, true_or, or_true, false_or, or_false, or_self, Nat.reduceAdd, Nat.reduceLT, Nat.reduceLeDiff, Nat.succ_ne_zero, reduceIte, reduceCtorEq]
theorem m_has1 (hj : Inj φ T) (ho : Off φ T a) (hi : Itr τ a (φ l) mc k) (h : T l = (2, 0)) (hs : I l 2 = Int32.ofNat s) (h1 : k < s) (h2 : s < 1000) : f_Jx35411_hasNext_aae02 a (pt φ T I R τ) = some (1, pt φ T I R τ) := by
  obtain ⟨i1, i2, i3, i4⟩ := hi
  have c : ¬ Int32.ofNat k = Int32.ofNat s := by rw [kN_eq (by omega) (by omega)]; omega
  simp (config := {decide := true}) only [b_Jx35411_hasNext_aae02_19, b_Jx35411_hasNext_aae02_0, f_Jx35411_hasNext_aae02, gI_pt hj, gR_pt hj, ob_pt hj, ck_pt hj, pI_pt hj, pB_pt hj, pR_pt hj, aI_pt hj, aR_pt hj, wI_pt hj, wJ_pt hj, aL_pt hj, cl1_s, cl1_n, cl1_i, cx1_s, cx1_x, cx1_n, cx1_i, nul_n, nul_s, nm, dv2, dv3, dv4, dv5, dv8, dv10, dv20, dv40, thr, bo, gI_off, gR_off, ob_off, ck_off, pI_off, pB_off, pR_off, aI_off, wI_off, aR_off, nA_off, nO_off, mT_sI, mT_sR, mT_sJ, mT_sN_at, mI_sN_at, mR_sN_at, mI_sI, mI_sR, mI_sJ, mR_sI, mR_sR, mR_sJ, mZ_sI, mZ_sR, mZ_sN, mJ_sI, mJ_sR, ho, mI_pt hj, mT_pt hj, sB_pt, mZ_pt, mJ_pt, mJ_sJ, mZ_sJ, tn0, tn1, tn2, tn3, tn4, tn5, tn6, h, i1, i2, i4, hs, c, ii0, ii1, ii2, ii3, ii4, if_true, if_false, ne_eq, not_false_eq_true, not_true_eq_false, true_and, and_true, false_and, and_false, and_self, true_or, or_true, false_or, or_false, or_self, Nat.reduceAdd, Nat.reduceLT, Nat.reduceLeDiff, Nat.succ_ne_zero, reduceIte, reduceCtorEq]
theorem m_has0 (hj : Inj φ T) (ho : Off φ T a) (hi : Itr τ a (φ l) mc s) (h : T l = (2, 0)) (hs : I l 2 = Int32.ofNat s) : f_Jx35411_hasNext_aae02 a (pt φ T I R τ) = some (0, pt φ T I R τ) := by
  obtain ⟨i1, i2, i3, i4⟩ := hi
  simp (config := {decide := true}) only [b_Jx35411_hasNext_aae02_19, b_Jx35411_hasNext_aae02_0, f_Jx35411_hasNext_aae02, gI_pt hj, gR_pt hj, ob_pt hj, ck_pt hj, pI_pt hj, pB_pt hj, pR_pt hj, aI_pt hj, aR_pt hj, wI_pt hj, wJ_pt hj, aL_pt hj, cl1_s, cl1_n, cl1_i, cx1_s, cx1_x, cx1_n, cx1_i, nul_n, nul_s, nm, dv2, dv3, dv4, dv5, dv8, dv10, dv20, dv40, thr, bo, gI_off, gR_off, ob_off, ck_off, pI_off, pB_off, pR_off, aI_off, wI_off, aR_off, nA_off, nO_off, mT_sI, mT_sR, mT_sJ, mT_sN_at, mI_sN_at, mR_sN_at, mI_sI, mI_sR, mI_sJ, mR_sI, mR_sR, mR_sJ, mZ_sI, mZ_sR, mZ_sN, mJ_sI, mJ_sR, ho, mI_pt hj, mT_pt hj, sB_pt, mZ_pt, mJ_pt, mJ_sJ, mZ_sJ, tn0, tn1, tn2, tn3, tn4, tn5, tn6, h, i1, i2, i4, hs, ii0, ii1, ii2, ii3, ii4, if_true, if_false, ne_eq, not_false_eq_true, not_true_eq_false, true_and, and_true, false_and, and_false, and_self, true_or, or_true, false_or, or_false, or_self, Nat.reduceAdd, Nat.reduceLT, Nat.reduceLeDiff, Nat.succ_ne_zero, reduceIte, reduceCtorEq]
theorem aLe_pt {β : Type} (hj : Inj φ T) {K : Int32 → Option β} (hw : φ w ≠ e0) (h : T w = (106, c)) : aLe e0 (pt φ T I R τ) (some (φ w)) K = K (Int32.ofNat c) := by
  rw [aLe, if_neg (by simp [hw]), aL_pt hj (by rw [h]; exact ⟨by omega, by omega⟩), h]
theorem m_next (hj : Inj φ T) (ho : Off φ T a) (hi : Itr τ a (φ l) mc k) (h : T l = (2, 0)) (hmc : I l 0 = mc) (hs : I l 2 = Int32.ofNat s) (h1 : k < s) (h2 : s < 1000) (h3 : R l 1 = some (φ w)) (h4 : T w = (106, c)) (h5 : s ≤ c) (h6 : c < 1000) (hw : φ w ≠ e0) : f_Jx35411_next_0502b e0 mi a (pt φ T I R τ) = some (R w k, pt φ T I R (itS τ a k)) := by
  obtain ⟨i1, i2, i3, i4⟩ := hi
  have c1 : Int32.ofNat k < Int32.ofNat s := (kN_lt (by omega) (by omega)).mpr h1
  have c2 : Int32.ofNat k < Int32.ofNat c := (kN_lt (by omega) (by omega)).mpr (by omega)
  have c3 : k < c := by omega
  have c4 := kN_nn (a := k) (by omega)
  have c5 := tnK (k := k) (by omega)
  simp (config := {decide := true}) only [b_Jx35411_next_0502b_0, f_Jx35411_next_0502b, b_Jx35411_checkForComodification_da8c8_0, f_Jx35411_checkForComodification_da8c8, gI_pt hj, gR_pt hj, ob_pt hj, ck_pt hj, pI_pt hj, pB_pt hj, pR_pt hj, aI_pt hj, aR_pt hj, wI_pt hj, wJ_pt hj, aL_pt hj, cl1_s, cl1_n, cl1_i, cx1_s, cx1_x, cx1_n, cx1_i, nul_n, nul_s, nm, dv2, dv3, dv4, dv5, dv8, dv10, dv20, dv40, thr, bo, gI_off, gR_off, ob_off, ck_off, pI_off, pB_off, pR_off, aI_off, wI_off, aR_off, nA_off, nO_off, mT_sI, mT_sR, mT_sJ, mT_sN_at, mI_sN_at, mR_sN_at, mI_sI, mI_sR, mI_sJ, mR_sI, mR_sR, mR_sJ, mZ_sI, mZ_sR, mZ_sN, mJ_sI, mJ_sR, aLe_pt hj hw h4, ho, mI_pt hj, mT_pt hj, sB_pt, mZ_pt, mJ_pt, mJ_sJ, mZ_sJ, tn0, tn1, tn2, tn3, tn4, tn5, tn6, h, h3, h4, i1, i2, i3, i4, hs, hmc, c1, c2, c3, c4, c5, kN_s, itS, ii0, ii1, ii2, ii3, ii4, if_true, if_false, ne_eq, not_false_eq_true, not_true_eq_false, true_and, and_true, false_and, and_false, and_self, true_or, or_true, false_or, or_false, or_self, Nat.reduceAdd, Nat.reduceLT, Nat.reduceLeDiff, Nat.succ_ne_zero, reduceIte, reduceCtorEq]
end IT
section CT
variable {φ : Nat → Nat} {T : Nat → Nat × Nat} {I : Nat → Nat → Int32} {R : Nat → Nat → Option Nat} {τ : Mem} {e0 nS nL cS cL n z : Nat} {mx : Nat → Int32} {cB : Nat → Nat} {bl : Nat → List (Nat × Int32)}
variable {mi a k : Nat} {J : Nat → Nat → Int32} {s : Int32} {mc : Int32} {τ0 : Mem}
theorem Cx.ne0 (h : Cx φ T I R (mZ τ) e0 nS nL cS cL mx cB bl n) {w : Nat} (hw : (T w).1 ≠ 0) (h2 : w ≠ 123) : φ w ≠ e0 := by
  obtain ⟨hj, hl, hx, hm, hr⟩ := h; obtain ⟨hx0, hx1, hx2, hx3, hx4, hx5, hx6, hx7, hx8, hx9, hx10, hx11, hx12, hx13, hx14, hx15, hx16, hx17, hx18, hx19, hx20, hx21, hx22, hx23, hx24, hx25, hx26, hx27⟩ := hx; obtain ⟨hm0, hm1, hm2, hm3, hm4, hm5, hm6, hm7, hm8, hm9, hm10, hm11, hm12, hm13, hm14, hm15, hm16, hm17, hm18, hm19, hm20, hm21, hm22, hm23, hm24, hm25, hm26, hm27, hm28, hm29, hm30, hm31, hm32, hm33, hm34, hm35, hm36, hm37, hm38, hm39, hm40, hm41, hm42, hm43, hm44⟩ := hm; obtain ⟨⟨⟨g1, g2⟩, ⟨g3, g4, g5, g6, g7⟩, g8, g9, g10⟩, r1, r2, r3, r4, r5, r6⟩ := hr
  rw [← hm42]; exact fun q => h2 (hj w 123 hw (by rw [hm41]; decide) q)
theorem Cx.offZ (h : Cx φ T I R (mZ τ) e0 nS nL cS cL mx cB bl n) {a : Nat} (ha : mZ τ ≤ a) : Off φ T a := Off.of h.hl ha
/-- the iteration over the lots, one step -/
theorem m_itL (h : Cx φ T I R (mZ τ) e0 nS nL cS cL mx cB bl n) (hJ : J 126 = I 126) (ha : mZ τ ≤ a) {τ1 : Mem} (hi : Itr τ1 a (φ 126) (I 126 0) k) (hk : k < nL) : f_Jx35411_hasNext_aae02 a (pt φ T J R τ1) = some (1, pt φ T J R τ1) ∧ f_Jx35411_next_0502b e0 mi a (pt φ T J R τ1) = some (some (φ (10 * k + 150)), pt φ T J R (itS τ1 a k)) := by
  have hE := @Cx.ne0 _ _ _ _ _ _ _ _ _ _ _ _ _ _ h
  have ho := h.offZ ha
  obtain ⟨hj, hl, hx, hm, hr⟩ := h; obtain ⟨hx0, hx1, hx2, hx3, hx4, hx5, hx6, hx7, hx8, hx9, hx10, hx11, hx12, hx13, hx14, hx15, hx16, hx17, hx18, hx19, hx20, hx21, hx22, hx23, hx24, hx25, hx26, hx27⟩ := hx; obtain ⟨hm0, hm1, hm2, hm3, hm4, hm5, hm6, hm7, hm8, hm9, hm10, hm11, hm12, hm13, hm14, hm15, hm16, hm17, hm18, hm19, hm20, hm21, hm22, hm23, hm24, hm25, hm26, hm27, hm28, hm29, hm30, hm31, hm32, hm33, hm34, hm35, hm36, hm37, hm38, hm39, hm40, hm41, hm42, hm43, hm44⟩ := hm; obtain ⟨⟨⟨g1, g2⟩, ⟨g3, g4, g5, g6, g7⟩, g8, g9, g10⟩, r1, r2, r3, r4, r5, r6⟩ := hr
  have a1 : nL ≠ 0 := by omega
  have T4 := hm17 (by omega)
  have R1 : R 126 1 = some (φ 134) := by rw [hm15, if_neg a1]
  refine ⟨m_has1 hj ho hi hm6 (by rw [hJ]; exact hm13) hk (by omega), ?_⟩
  rw [m_next hj ho hi hm6 (by rw [hJ]) (by rw [hJ]; exact hm13) hk (by omega) R1 T4 hm20 (by omega) (hE (by rw [T4]; simp) (by decide)), hm28 k hk]
theorem m_itL0 (h : Cx φ T I R (mZ τ) e0 nS nL cS cL mx cB bl n) (hJ : J 126 = I 126) (ha : mZ τ ≤ a) {τ1 : Mem} (hi : Itr τ1 a (φ 126) (I 126 0) nL) : f_Jx35411_hasNext_aae02 a (pt φ T J R τ1) = some (0, pt φ T J R τ1) := by
  have ho := h.offZ ha
  obtain ⟨hj, hl, hx, hm, hr⟩ := h; obtain ⟨hx0, hx1, hx2, hx3, hx4, hx5, hx6, hx7, hx8, hx9, hx10, hx11, hx12, hx13, hx14, hx15, hx16, hx17, hx18, hx19, hx20, hx21, hx22, hx23, hx24, hx25, hx26, hx27⟩ := hx; obtain ⟨hm0, hm1, hm2, hm3, hm4, hm5, hm6, hm7, hm8, hm9, hm10, hm11, hm12, hm13, hm14, hm15, hm16, hm17, hm18, hm19, hm20, hm21, hm22, hm23, hm24, hm25, hm26, hm27, hm28, hm29, hm30, hm31, hm32, hm33, hm34, hm35, hm36, hm37, hm38, hm39, hm40, hm41, hm42, hm43, hm44⟩ := hm; obtain ⟨⟨⟨g1, g2⟩, ⟨g3, g4, g5, g6, g7⟩, g8, g9, g10⟩, r1, r2, r3, r4, r5, r6⟩ := hr
  exact m_has0 hj ho hi hm6 (by rw [hJ]; exact hm13)
def ctV (I : Nat → Nat → Int32) (s : Int32) (k : Nat) : Int32 := if I (6 * k + 19) 0 = s then 1 else 0
theorem m_countL (h : Cx φ T I R (mZ τ) e0 nS nL cS cL mx cB bl n) (hJ : ∀ v, 125 ≤ v → J v = I v) (h1 : Itr τ0 a (φ 126) (I 126 0) 0) (ha : mZ τ ≤ a) : ∃ τ', l_X8_count_10 e0 mi 40 s 0 (some a) (pt φ T J R τ0) = some (sm (ctV I s) nL, pt φ T J R τ') ∧ Kp a τ0 τ' := by
  have hj := h.hj
  have ho := h.offZ ha
  have L := itr_loop (fun n (s' : Int32 × Mem) => l_X8_count_10 e0 mi n s s'.1 (some a) s'.2) (fun k s' => s'.1 = sm (ctV I s) k ∧ ∃ τ1, s'.2 = pt φ T J R τ1 ∧ Itr τ1 a (φ 126) (I 126 0) k ∧ Kp a τ0 τ1) nL (by
    rintro n k ⟨acc, σ⟩ hk ⟨rfl, τ1, rfl, hi, hK⟩
    obtain ⟨e1, e2⟩ := m_itL (mi := mi) h (hJ 126 (by omega)) ha hi hk
    refine ⟨(sm (ctV I s) (k + 1), pt φ T J R (itS τ1 a k)), ⟨rfl, _, rfl, itS_I hi, hK.trans (itS_K (Nat.le_refl _))⟩, ?_⟩
    have i1 := hi.1
    have i2 : mT (itS τ1 a k) a = (1, 0) := hi.1
    have E := (h.2.2.2.2.2.1 k hk).1.1
    obtain ⟨hj, hl, hx, hm, hr⟩ := h; obtain ⟨hx0, hx1, hx2, hx3, hx4, hx5, hx6, hx7, hx8, hx9, hx10, hx11, hx12, hx13, hx14, hx15, hx16, hx17, hx18, hx19, hx20, hx21, hx22, hx23, hx24, hx25, hx26, hx27⟩ := hx; obtain ⟨hm0, hm1, hm2, hm3, hm4, hm5, hm6, hm7, hm8, hm9, hm10, hm11, hm12, hm13, hm14, hm15, hm16, hm17, hm18, hm19, hm20, hm21, hm22, hm23, hm24, hm25, hm26, hm27, hm28, hm29, hm30, hm31, hm32, hm33, hm34, hm35, hm36, hm37, hm38, hm39, hm40, hm41, hm42, hm43, hm44⟩ := hm; obtain ⟨⟨⟨g1, g2⟩, ⟨g3, g4, g5, g6, g7⟩, g8, g9, g10⟩, r1, r2, r3, r4, r5, r6⟩ := hr
    have T8 := hm29 k hk
    have J8 := hJ (10 * k + 150) (by omega)
    by_cases c : I (6 * k + 19) 0 = s
    · have c' : I (10 * k + 150) 0 = s := by rw [← E]; exact c
      simp (config := {decide := true}) only [l_X8_count_10, itr_succ, b_X8_count_10, b_X8_count_45, e1, e2, gI_pt hj, gR_pt hj, ob_pt hj, ck_pt hj, pI_pt hj, pB_pt hj, pR_pt hj, aI_pt hj, aR_pt hj, wI_pt hj, wJ_pt hj, aL_pt hj, cl1_s, cl1_n, cl1_i, cx1_s, cx1_x, cx1_n, cx1_i, nul_n, nul_s, nm, dv2, dv3, dv4, dv5, dv8, dv10, dv20, dv40, thr, bo, gI_off, gR_off, ob_off, ck_off, pI_off, pB_off, pR_off, aI_off, wI_off, aR_off, nA_off, nO_off, mT_sI, mT_sR, mT_sJ, mT_sN_at, mI_sN_at, mR_sN_at, mI_sI, mI_sR, mI_sJ, mR_sI, mR_sR, mR_sJ, mZ_sI, mZ_sR, mZ_sN, mJ_sI, mJ_sR, ho, mI_pt hj, mT_pt hj, sB_pt, mZ_pt, mJ_pt, mJ_sJ, mZ_sJ, tn0, tn1, tn2, tn3, tn4, tn5, tn6, i1, i2, T8, J8, c', sm, ctV, c, ii0, ii1, ii2, ii3, ii4, if_true, if_false, ne_eq, not_false_eq_true, not_true_eq_false, true_and, and_true, false_and, and_false, and_self, true_or, or_true, false_or, or_false, or_self, Nat.reduceAdd, Nat.reduceLT, Nat.reduceLeDiff, Nat.succ_ne_zero, reduceIte, reduceCtorEq]
    · have c' : ¬ I (10 * k + 150) 0 = s := by rw [← E]; exact c
      simp (config := {decide := true}) only [l_X8_count_10, itr_succ, b_X8_count_10, b_X8_count_45, e1, e2, gI_pt hj, gR_pt hj, ob_pt hj, ck_pt hj, pI_pt hj, pB_pt hj, pR_pt hj, aI_pt hj, aR_pt hj, wI_pt hj, wJ_pt hj, aL_pt hj, cl1_s, cl1_n, cl1_i, cx1_s, cx1_x, cx1_n, cx1_i, nul_n, nul_s, nm, dv2, dv3, dv4, dv5, dv8, dv10, dv20, dv40, thr, bo, gI_off, gR_off, ob_off, ck_off, pI_off, pB_off, pR_off, aI_off, wI_off, aR_off, nA_off, nO_off, mT_sI, mT_sR, mT_sJ, mT_sN_at, mI_sN_at, mR_sN_at, mI_sI, mI_sR, mI_sJ, mR_sI, mR_sR, mR_sJ, mZ_sI, mZ_sR, mZ_sN, mJ_sI, mJ_sR, ho, mI_pt hj, mT_pt hj, sB_pt, mZ_pt, mJ_pt, mJ_sJ, mZ_sJ, tn0, tn1, tn2, tn3, tn4, tn5, tn6, i1, i2, T8, J8, c', sm, ctV, c, ii0, ii1, ii2, ii3, ii4, if_true, if_false, ne_eq, not_false_eq_true, not_true_eq_false, true_and, and_true, false_and, and_false, and_self, true_or, or_true, false_or, or_false, or_self, Nat.reduceAdd, Nat.reduceLT, Nat.reduceLeDiff, Nat.succ_ne_zero, reduceIte, reduceCtorEq])
  have hN := h.m.2.2.2.2.1
  obtain ⟨⟨acc, σ⟩, ⟨rfl, τ1, rfl, hi, hK⟩, h5⟩ := L nL 0 40 (0, pt φ T J R τ0) (by omega) (by omega) ⟨rfl, τ0, rfl, h1, Kp.refl⟩
  refine ⟨τ1, ?_, hK⟩
  have e1 := m_itL0 h (hJ 126 (by omega)) ha hi
  have i1 := hi.1
  have : ∃ m, 40 - nL = m + 1 := ⟨39 - nL, by omega⟩
  obtain ⟨m, hm⟩ := this
  simp only [hm] at h5
  rw [h5]
  simp (config := {decide := true}) only [l_X8_count_10, itr_succ, b_X8_count_10, e1, gI_pt hj, gR_pt hj, ob_pt hj, ck_pt hj, pI_pt hj, pB_pt hj, pR_pt hj, aI_pt hj, aR_pt hj, wI_pt hj, wJ_pt hj, aL_pt hj, cl1_s, cl1_n, cl1_i, cx1_s, cx1_x, cx1_n, cx1_i, nul_n, nul_s, nm, dv2, dv3, dv4, dv5, dv8, dv10, dv20, dv40, thr, bo, gI_off, gR_off, ob_off, ck_off, pI_off, pB_off, pR_off, aI_off, wI_off, aR_off, nA_off, nO_off, mT_sI, mT_sR, mT_sJ, mT_sN_at, mI_sN_at, mR_sN_at, mI_sI, mI_sR, mI_sJ, mR_sI, mR_sR, mR_sJ, mZ_sI, mZ_sR, mZ_sN, mJ_sI, mJ_sR, ho, mI_pt hj, mT_pt hj, sB_pt, mZ_pt, mJ_pt, mJ_sJ, mZ_sJ, tn0, tn1, tn2, tn3, tn4, tn5, tn6, i1, ii0, ii1, ii2, ii3, ii4, if_true, if_false, ne_eq, not_false_eq_true, not_true_eq_false, true_and, and_true, false_and, and_false, and_self, true_or, or_true, false_or, or_false, or_self, Nat.reduceAdd, Nat.reduceLT, Nat.reduceLeDiff, Nat.succ_ne_zero, reduceIte, reduceCtorEq]
theorem m_count (h : Cx φ T I R (mZ τ) e0 nS nL cS cL mx cB bl n) (hJ : ∀ v, 125 ≤ v → J v = I v) {τ1 : Mem} (hz : mZ τ ≤ mZ τ1) : ∃ τ', f_X8_count e0 mi (φ 124) s (pt φ T J R τ1) = some (sm (ctV I s) nL, pt φ T J R τ') ∧ Kp (mZ τ1) τ1 τ' := by
  have ho := h.offZ hz
  obtain ⟨τ', e1, e2⟩ := m_countL (mi := mi) (s := s) h hJ (itN_I τ1 (φ 126) (I 126 0)) hz
  refine ⟨τ', ?_, (itN_K (Nat.le_refl _)).trans e2⟩
  obtain ⟨hj, hl, hx, hm, hr⟩ := h; obtain ⟨hx0, hx1, hx2, hx3, hx4, hx5, hx6, hx7, hx8, hx9, hx10, hx11, hx12, hx13, hx14, hx15, hx16, hx17, hx18, hx19, hx20, hx21, hx22, hx23, hx24, hx25, hx26, hx27⟩ := hx; obtain ⟨hm0, hm1, hm2, hm3, hm4, hm5, hm6, hm7, hm8, hm9, hm10, hm11, hm12, hm13, hm14, hm15, hm16, hm17, hm18, hm19, hm20, hm21, hm22, hm23, hm24, hm25, hm26, hm27, hm28, hm29, hm30, hm31, hm32, hm33, hm34, hm35, hm36, hm37, hm38, hm39, hm40, hm41, hm42, hm43, hm44⟩ := hm; obtain ⟨⟨⟨g1, g2⟩, ⟨g3, g4, g5, g6, g7⟩, g8, g9, g10⟩, r1, r2, r3, r4, r5, r6⟩ := hr
  have M := m_iter (I := J) (R := R) hj ho hm6
  rw [hJ 126 (by omega)] at M
  simp (config := {decide := true}) only [f_X8_count, b_X8_count_0, M, e1, gI_pt hj, gR_pt hj, ob_pt hj, ck_pt hj, pI_pt hj, pB_pt hj, pR_pt hj, aI_pt hj, aR_pt hj, wI_pt hj, wJ_pt hj, aL_pt hj, cl1_s, cl1_n, cl1_i, cx1_s, cx1_x, cx1_n, cx1_i, nul_n, nul_s, nm, dv2, dv3, dv4, dv5, dv8, dv10, dv20, dv40, thr, bo, mI_pt hj, mT_pt hj, sB_pt, mZ_pt, mJ_pt, mJ_sJ, mZ_sJ, tn0, tn1, tn2, tn3, tn4, tn5, tn6, hm0, hm2, hm6, ii0, ii1, ii2, ii3, ii4, if_true, if_false, ne_eq, not_false_eq_true, not_true_eq_false, true_and, and_true, false_and, and_false, and_self, true_or, or_true, false_or, or_false, or_self, Nat.reduceAdd, Nat.reduceLT, Nat.reduceLeDiff, Nat.succ_ne_zero, reduceIte, reduceCtorEq]
theorem x_count (h : Cx φ T I R (mZ τ) e0 nS nL cS cL mx cB bl n) : f_X4_countLots (φ 0) s (pt φ T I R τ) = some (sm (ctV I s) nL, pt φ T I R τ) := by
  have hj := h.hj
  have L := itr_loop (fun n (s' : Int32 × Int32) => l_X4_countLots_4 n (φ 0) s s'.1 s'.2 (pt φ T I R τ)) (fun k s' => s'.1 = sm (ctV I s) k ∧ s'.2 = Int32.ofNat k) nL (by
    rintro n k ⟨acc, j⟩ hk ⟨rfl, rfl⟩
    refine ⟨(sm (ctV I s) (k + 1), Int32.ofNat (k + 1)), ⟨rfl, rfl⟩, ?_⟩
    obtain ⟨hj, hl, hx, hm, hr⟩ := h; obtain ⟨hx0, hx1, hx2, hx3, hx4, hx5, hx6, hx7, hx8, hx9, hx10, hx11, hx12, hx13, hx14, hx15, hx16, hx17, hx18, hx19, hx20, hx21, hx22, hx23, hx24, hx25, hx26, hx27⟩ := hx; obtain ⟨hm0, hm1, hm2, hm3, hm4, hm5, hm6, hm7, hm8, hm9, hm10, hm11, hm12, hm13, hm14, hm15, hm16, hm17, hm18, hm19, hm20, hm21, hm22, hm23, hm24, hm25, hm26, hm27, hm28, hm29, hm30, hm31, hm32, hm33, hm34, hm35, hm36, hm37, hm38, hm39, hm40, hm41, hm42, hm43, hm44⟩ := hm; obtain ⟨⟨⟨g1, g2⟩, ⟨g3, g4, g5, g6, g7⟩, g8, g9, g10⟩, r1, r2, r3, r4, r5, r6⟩ := hr
    have c1 : ¬ Int32.ofNat nL ≤ Int32.ofNat k := by rw [kN_le (by omega) (by omega)]; omega
    have c2 := kN_nn (a := k) (by omega)
    have c3 := tnK (k := k) (by omega)
    have c4 : k < 16 := by omega
    by_cases c : I (6 * k + 19) 0 = s
    · simp (config := {decide := true}) only [l_X4_countLots_4, itr_succ, b_X4_countLots_4, b_X4_countLots_28, gI_pt hj, gR_pt hj, ob_pt hj, ck_pt hj, pI_pt hj, pB_pt hj, pR_pt hj, aI_pt hj, aR_pt hj, wI_pt hj, wJ_pt hj, aL_pt hj, cl1_s, cl1_n, cl1_i, cx1_s, cx1_x, cx1_n, cx1_i, nul_n, nul_s, nm, dv2, dv3, dv4, dv5, dv8, dv10, dv20, dv40, thr, bo, mI_pt hj, mT_pt hj, sB_pt, mZ_pt, mJ_pt, mJ_sJ, mZ_sJ, tn0, tn1, tn2, tn3, tn4, tn5, tn6, hx0, hx2, hx7, hx14 k c4, hx15 k (by omega), g2, c1, c2, c3, c4, c, sm, ctV, kN_s, ii0, ii1, ii2, ii3, ii4, if_true, if_false, ne_eq, not_false_eq_true, not_true_eq_false, true_and, and_true, false_and, and_false, and_self, true_or, or_true, false_or, or_false, or_self, Nat.reduceAdd, Nat.reduceLT, Nat.reduceLeDiff, Nat.succ_ne_zero, reduceIte, reduceCtorEq]
    · simp (config := {decide := true}) only [l_X4_countLots_4, itr_succ, b_X4_countLots_4, b_X4_countLots_28, gI_pt hj, gR_pt hj, ob_pt hj, ck_pt hj, pI_pt hj, pB_pt hj, pR_pt hj, aI_pt hj, aR_pt hj, wI_pt hj, wJ_pt hj, aL_pt hj, cl1_s, cl1_n, cl1_i, cx1_s, cx1_x, cx1_n, cx1_i, nul_n, nul_s, nm, dv2, dv3, dv4, dv5, dv8, dv10, dv20, dv40, thr, bo, mI_pt hj, mT_pt hj, sB_pt, mZ_pt, mJ_pt, mJ_sJ, mZ_sJ, tn0, tn1, tn2, tn3, tn4, tn5, tn6, hx0, hx2, hx7, hx14 k c4, hx15 k (by omega), g2, c1, c2, c3, c4, c, sm, ctV, kN_s, Int32.add_zero, ii0, ii1, ii2, ii3, ii4, if_true, if_false, ne_eq, not_false_eq_true, not_true_eq_false, true_and, and_true, false_and, and_false, and_self, true_or, or_true, false_or, or_false, or_self, Nat.reduceAdd, Nat.reduceLT, Nat.reduceLeDiff, Nat.succ_ne_zero, reduceIte, reduceCtorEq])
  have hN := h.m.2.2.2.2.1
  obtain ⟨⟨acc, j⟩, ⟨rfl, rfl⟩, h5⟩ := L nL 0 40 (0, 0) (by omega) (by omega) ⟨rfl, rfl⟩
  have : ∃ m, 40 - nL = m + 1 := ⟨39 - nL, by omega⟩
  obtain ⟨m, hm⟩ := this
  simp only [hm] at h5
  rw [f_X4_countLots, b_X4_countLots_0, h5]
  obtain ⟨hj, hl, hx, hm, hr⟩ := h; obtain ⟨hx0, hx1, hx2, hx3, hx4, hx5, hx6, hx7, hx8, hx9, hx10, hx11, hx12, hx13, hx14, hx15, hx16, hx17, hx18, hx19, hx20, hx21, hx22, hx23, hx24, hx25, hx26, hx27⟩ := hx; obtain ⟨hm0, hm1, hm2, hm3, hm4, hm5, hm6, hm7, hm8, hm9, hm10, hm11, hm12, hm13, hm14, hm15, hm16, hm17, hm18, hm19, hm20, hm21, hm22, hm23, hm24, hm25, hm26, hm27, hm28, hm29, hm30, hm31, hm32, hm33, hm34, hm35, hm36, hm37, hm38, hm39, hm40, hm41, hm42, hm43, hm44⟩ := hm; obtain ⟨⟨⟨g1, g2⟩, ⟨g3, g4, g5, g6, g7⟩, g8, g9, g10⟩, r1, r2, r3, r4, r5, r6⟩ := hr
  have c1 : Int32.ofNat nL ≤ Int32.ofNat nL := by rw [kN_le (by omega) (by omega)]; omega
  simp (config := {decide := true}) only [l_X4_countLots_4, itr_succ, b_X4_countLots_4, gI_pt hj, gR_pt hj, ob_pt hj, ck_pt hj, pI_pt hj, pB_pt hj, pR_pt hj, aI_pt hj, aR_pt hj, wI_pt hj, wJ_pt hj, aL_pt hj, cl1_s, cl1_n, cl1_i, cx1_s, cx1_x, cx1_n, cx1_i, nul_n, nul_s, nm, dv2, dv3, dv4, dv5, dv8, dv10, dv20, dv40, thr, bo, mI_pt hj, mT_pt hj, sB_pt, mZ_pt, mJ_pt, mJ_sJ, mZ_sJ, tn0, tn1, tn2, tn3, tn4, tn5, tn6, hx0, g2, c1, ii0, ii1, ii2, ii3, ii4, if_true, if_false, ne_eq, not_false_eq_true, not_true_eq_false, true_and, and_true, false_and, and_false, and_self, true_or, or_true, false_or, or_false, or_self, Nat.reduceAdd, Nat.reduceLT, Nat.reduceLeDiff, Nat.succ_ne_zero, reduceIte, reduceCtorEq]
end CT
