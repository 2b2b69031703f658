/-! FLUSHIN: a copy of a section -/
section KV
variable {φ : Nat → Nat} {T : Nat → Nat × Nat} {I J : Nat → Nat → Int32} {R R' : Nat → Nat → Option Nat} {τ τ' σ' : Mem} {z : Nat}
theorem pt_cong (h : ∀ v, (T v).1 ≠ 0 → I v = J v ∧ R v = R' v) : pt φ T I R τ = pt φ T J R' τ := by
  have gen : ∀ {α : Type} (f g : Nat → α) (d : Nat → α) (_ : ∀ v, (T v).1 ≠ 0 → f v = g v) (b : Nat), vsel (vinv φ T b) f (d b) = vsel (vinv φ T b) g (d b) := by
    intro α f g d hf b
    cases e : vinv φ T b with
    | none => rfl
    | some c => simp only [vsel]; exact hf c (vinv_some e).1
  exact Mem.ext' (funext fun b => gen I J (mI τ) (fun v hv => (h v hv).1) b) (funext fun b => gen R R' (mR τ) (fun v hv => (h v hv).2) b) rfl rfl rfl
theorem Kp.view (hj : Inj φ T) (hl : live T φ (mZ τ)) (hK : Kp (mZ τ) (pt φ T J R τ) σ') : σ' = pt φ T J R σ' := by
  have hT : ∀ v, (T v).1 ≠ 0 → mT σ' (φ v) = T v := fun v hv => by
    rw [(hK.2 (φ v) (hl v hv)).2.2.2, mT_pt hj hv]
  refine (pt_self hj hT).trans (pt_cong (fun v hv => ⟨?_, ?_⟩))
  · show mI σ' (φ v) = J v
    rw [(hK.2 (φ v) (hl v hv)).1, mI_pt hj hv]
  · show mR σ' (φ v) = R v
    rw [(hK.2 (φ v) (hl v hv)).2.1, mR_pt hj hv]
theorem Kp.ptK (h : Kp z τ τ') : Kp z (pt φ T I R τ) (pt φ T I R τ') := by
  refine ⟨h.1, fun b hb => ?_⟩
  obtain ⟨h1, h2, h3, h4⟩ := h.2 b hb
  refine ⟨?_, ?_, h3, ?_⟩
  · show vsel (vinv φ T b) I (mI τ' b) = vsel (vinv φ T b) I (mI τ b); rw [h1]
  · show vsel (vinv φ T b) R (mR τ' b) = vsel (vinv φ T b) R (mR τ b); rw [h2]
  · show vsel (vinv φ T b) T (mT τ' b) = vsel (vinv φ T b) T (mT τ b); rw [h4]
theorem Kp.pl (h : ∀ v, (T v).1 ≠ 0 → φ v < z → J v = I v ∧ R' v = R v) : Kp z (pt φ T I R τ) (pt φ T J R' τ) := by
  refine ⟨Nat.le_refl _, fun b hb => ⟨?_, ?_, rfl, rfl⟩⟩
  · show vsel (vinv φ T b) J (mI τ b) = vsel (vinv φ T b) I (mI τ b)
    cases e : vinv φ T b with
    | none => rfl
    | some c => obtain ⟨c1, c2⟩ := vinv_some e; simp only [vsel]; exact (h c c1 (by omega)).1
  · show vsel (vinv φ T b) R' (mR τ b) = vsel (vinv φ T b) R (mR τ b)
    cases e : vinv φ T b with
    | none => rfl
    | some c => obtain ⟨c1, c2⟩ := vinv_some e; simp only [vsel]; exact (h c c1 (by omega)).2
def KJ (τ τ' : Mem) : Prop := mZ τ ≤ mZ τ' ∧ ∀ b, b < mZ τ → mJ τ' b = mJ τ b
theorem Kp.kj (h : Kp (mZ τ) τ τ') : KJ τ τ' := ⟨h.1, fun b hb => (h.2 b hb).2.2.1⟩
theorem KJ.trans {τ1 τ2 τ3 : Mem} (h1 : KJ τ1 τ2) (h2 : KJ τ2 τ3) : KJ τ1 τ3 := ⟨Nat.le_trans h1.1 h2.1, fun b hb => (h2.2 b (Nat.lt_of_lt_of_le hb h1.1)).trans (h1.2 b hb)⟩
theorem KJ.refl : KJ τ τ := ⟨Nat.le_refl _, fun _ _ => rfl⟩
/-- a run that leaves all that was there is a run in the view -/
theorem Kp.run {α : Type} {x : Option (α × Mem)} {v : α} (hj : Inj φ T) (hl : live T φ (mZ τ)) (hx : x = some (v, σ')) (hK : Kp (mZ τ) (pt φ T J R τ) σ') : ∃ τ', x = some (v, pt φ T J R τ') ∧ KJ τ τ' :=
  ⟨σ', by rw [← hK.view hj hl]; exact hx, hK.1, fun b hb => (hK.2 b hb).2.2.1⟩
end KV
section FI
variable {φ : Nat → Nat} {T : Nat → Nat × Nat} {I : Nat → Nat → Int32} {R : Nat → Nat → Option Nat} {τ : Mem} {e0 nS nL cS cL n z : Nat} {mx : Nat → Int32} {cB : Nat → Nat} {bl : Nat → List (Nat × Int32)}
variable {mi a b q k i j : Nat} {J : Nat → Nat → Int32} {p r w e : Int32} {f : Nat → Int32} {τ0 τ1 : Mem}
theorem cpI_pt {β : Type} (hj : Inj φ T) {v w c c' : Nat} {sp dp m : Int32} {K : Mem → Option β} (h1 : T v = (100, c)) (h2 : T w = (100, c')) (k1 : ¬ sp < 0) (k2 : ¬ dp < 0) (k3 : ¬ m < 0) (h3 : sp.toNatClampNeg + m.toNatClampNeg ≤ c) (h4 : dp.toNatClampNeg + m.toNatClampNeg ≤ c') : cpI (pt φ T I R τ) (some (φ v)) sp (some (φ w)) dp m K = K (pt φ T (rowS I w (va_cpy (I v) (I w) sp.toNatClampNeg dp.toNatClampNeg m.toNatClampNeg)) R τ) := by
  have hv : (T v).1 ≠ 0 := by rw [h1]; simp
  have hw : (T w).1 ≠ 0 := by rw [h2]; simp
  have e1 : mT (pt φ T I R τ) (φ v) = (100, c) := by rw [mT_pt hj hv, h1]
  have e2 : mT (pt φ T I R τ) (φ w) = (100, c') := by rw [mT_pt hj hw, h2]
  simp only [cpI]
  rw [if_pos ⟨Or.inl (by rw [e1]), by rw [e2], ⟨k1, k2, k3⟩, by rw [e1]; exact h3, by rw [e2]; exact h4⟩, mI_pt hj hv, mI_pt hj hw, sIr_pt hj hw]
theorem m_copyS (hj : Inj φ T) (hl : live T φ (mZ τ)) (tq : T q = (9, 0)) (rq : R q 6 = some (φ (q + 1))) (tq1 : T (q + 1) = (100, 5)) (hq : q + 1 < 400) (hS : SMr J q f) : ∃ φ' T' J' R' τ', f_X6_copy (φ q) (pt φ T J R τ) = some (some (φ' 400), pt φ' T' J' R' τ') ∧ Inj φ' T' ∧ T' 400 = (9, 0) ∧ R' 400 6 = some (φ' 401) ∧ T' 401 = (100, 5) ∧ SMr J' 400 f ∧ Kp (mZ τ) (pt φ T J R τ) (pt φ' T' J' R' τ') ∧ mZ τ ≤ φ' 400 ∧ mZ τ ≤ φ' 401 := by
  obtain ⟨τ2, N1, N2, N3, N4, N5, N6, N7, N8, N9, N10⟩ := m_newSec (I := J) (R := R) (p := J q 0) (q := J q 1) hj hl
  obtain ⟨φ1, T1, J1, R1, τ3, eq1, inj1, live1, ph1, pT1, pI1, pR1, aP1, aT1, aI1, aR1, zz1, of1, jj1⟩ := take1 (I := J) (R := R) 400 hj hl (Nat.le_refl _) N2 (by decide)
  obtain ⟨φ2, T2, J2, R2, τ4, eq2, inj2, live2, ph2, pT2, pI2, pR2, aP2, aT2, aI2, aR2, zz2, of2, jj2⟩ := take1 (I := J1) (R := R1) (a := mZ τ + 1) 401 inj1 live1 (Nat.le_refl _) ((of1 _ (Nat.le_succ _)).1.trans N3) (by decide)
  have vP : ∀ v, v < 400 → φ2 v = φ v := fun v y => by rw [aP2 v (by omega), aP1 v (by omega)]
  have vT : ∀ v, v < 400 → T2 v = T v := fun v y => by rw [aT2 v (by omega), aT1 v (by omega)]
  have vI : ∀ v, v < 400 → J2 v = J v := fun v y => by rw [aI2 v (by omega), aI1 v (by omega)]
  have vR : ∀ v, v < 400 → R2 v = R v := fun v y => by rw [aR2 v (by omega), aR1 v (by omega)]
  have p400 : φ2 400 = mZ τ := by rw [aP2 _ (by omega), ph1]
  have t400 : T2 400 = (9, 0) := by rw [aT2 _ (by omega), pT1]
  have i400 : ∀ k, J2 400 k = mI τ2 (mZ τ) k := fun k => by rw [aI2 _ (by omega), pI1]
  have r400 : R2 400 6 = some (φ2 401) := by rw [aR2 _ (by omega), pR1, N7, ph2]
  obtain ⟨h1, h2, h3⟩ := hS
  obtain ⟨J3, hJ3⟩ : ∃ J3, J3 = rowS (up2 (up2 (up2 (up2 J2 400 2 (f 2)) 400 3 (f 3)) 400 4 (f 4)) 400 5 (f 5)) 401 (va_cpy (J2 (q + 1)) (J2 401) 0 0 5) := ⟨_, rfl⟩
  refine ⟨φ2, T2, J3, R2, τ4, ?_, inj2, t400, r400, pT2, ⟨fun k hk => ?_, fun k hk => ?_, ?_⟩, ?_, by rw [p400]; exact Nat.le_refl _, by rw [ph2]; exact Nat.le_succ _⟩
  · have o1 : Off φ T (mZ τ) := Off.of hl (Nat.le_refl _)
    have ZZ : ∀ (K : Mem → Option Nat → Option (Option Nat × Mem)), nO 8 (pt φ T J R τ) K = K (pt φ T J R (sN τ (9, 0))) (some (mZ τ)) := fun K => by rw [nO_off o1]
    have OB8 : ∀ (K : Nat → Option (Option Nat × Mem)), ob 8 (pt φ T J R (sN τ (9, 0))) (some (mZ τ)) K = K (mZ τ) := fun K => by
      rw [ob_off o1 (by rw [mT_sN_at])]
    have N1' : f_X6_init (mZ τ) (J q 0) (J q 1) (pt φ T J R (sN τ (9, 0))) = some ((), pt φ2 T2 J2 R2 τ4) := by rw [N1, eq1, eq2]
    have tq2 : T2 q = (9, 0) := by rw [vT _ (by omega)]; exact tq
    have tq3 : T2 (q + 1) = (100, 5) := by rw [vT _ (by omega)]; exact tq1
    have rq2 : R2 q 6 = some (φ2 (q + 1)) := by rw [vR _ (by omega), vP _ hq]; exact rq
    have k2 : J2 q 2 = f 2 := by rw [vI _ (by omega)]; exact h1 2 (by omega)
    have k3 : J2 q 3 = f 3 := by rw [vI _ (by omega)]; exact h1 3 (by omega)
    have k4 : J2 q 4 = f 4 := by rw [vI _ (by omega)]; exact h1 4 (by omega)
    have k5 : J2 q 5 = f 5 := by rw [vI _ (by omega)]; exact h1 5 (by omega)
    have nq : q ≠ 400 := by omega
    have nq1 : q + 1 ≠ 400 := by omega
    have CP : ∀ (X : Nat → Nat → Int32) (K : Mem → Option (Option Nat × Mem)), cpI (pt φ2 T2 X R2 τ4) (some (φ2 (q + 1))) 0 (some (φ2 401)) 0 (Int32.ofNat 5) K = K (pt φ2 T2 (rowS X 401 (va_cpy (X (q + 1)) (X 401) 0 0 5)) R2 τ4) := fun X K => by
      rw [cpI_pt inj2 tq3 pT2 (by decide) (by decide) (by decide) (by decide) (by decide)]; rfl
    have CP5 : ∀ (X : Nat → Nat → Int32) (K : Mem → Option (Option Nat × Mem)), cpI (pt φ2 T2 X R2 τ4) (some (φ2 (q + 1))) 0 (some (φ2 401)) 0 5 K = K (pt φ2 T2 (rowS X 401 (va_cpy (X (q + 1)) (X 401) 0 0 5)) R2 τ4) := CP
    have g0 : ∀ {K : Int32 → Option (Option Nat × Mem)} (c : Nat) (τ' : Mem), gI 8 c (pt φ T J R τ') (some (φ q)) K = K (J q c) := fun c τ' => gI_pt hj (by rw [tq])
    have eq' : φ q = φ2 q := (vP q (by omega)).symm
    have na : (401 : Nat) ≠ 400 := by decide
    rw [hJ3]
    simp (config := {decide := true}) only [f_X6_copy, b_X6_copy_0, ZZ, g0, OB8, N1', cl1_s]
    rw [eq', ← p400]
    simp (config := {decide := true}) only [gI_pt inj2, pI_pt inj2, gR_pt inj2, aL_pt inj2, tq2, tq3, rq2, t400, r400, k2, k3, k4, k5, up2_row nq, up2_row nq1, up2_row na, CP, CP5, ii0, ii1, ii2, ii3, ii4, if_true, if_false, ne_eq, not_false_eq_true, not_true_eq_false, true_and, and_true, false_and, and_false, and_self, true_or, or_true, false_or, or_false, or_self, Nat.reduceAdd, Nat.reduceLT, Nat.reduceLeDiff, Nat.succ_ne_zero, reduceIte, reduceCtorEq]
  · rw [hJ3, rowS_ne (by decide)]
    rcases (show k = 0 ∨ k = 1 ∨ k = 2 ∨ k = 3 ∨ k = 4 ∨ k = 5 by omega) with rfl | rfl | rfl | rfl | rfl | rfl
    · simp (disch := decide) only [up2_k]; rw [i400, N4]; exact h1 0 (by omega)
    · simp (disch := decide) only [up2_k]; rw [i400, N5]; exact h1 1 (by omega)
    · simp (disch := decide) only [up2_k, up2_at]
    · simp (disch := decide) only [up2_k, up2_at]
    · simp (disch := decide) only [up2_k, up2_at]
    · simp (disch := decide) only [up2_k, up2_at]
  · show J3 401 k = f (k + 7)
    rw [hJ3, rowS_hit]; unfold va_cpy; rw [if_pos ⟨by omega, by omega⟩, vI _ (by omega)]
    have e0 : 0 + (k - 0) = k := by omega
    rw [e0]; exact h2 k hk
  · show J3 401 4 = f 6
    rw [hJ3, rowS_hit]; unfold va_cpy; rw [if_pos ⟨by omega, by omega⟩, vI _ (by omega)]; exact h3
  · have K1 : Kp (mZ τ) (pt φ T J R τ) (pt φ T J R τ2) := Kp.ptK N10
    rw [eq1, eq2] at K1
    refine K1.trans (Kp.pl (fun v hv hz => ⟨?_, rfl⟩))
    have n0 : v ≠ 400 := fun y => by rw [y, p400] at hz; omega
    have n1 : v ≠ 401 := fun y => by rw [y, ph2] at hz; omega
    rw [hJ3, rowS_ne n1]; simp only [up2_row n0]
/-- behind how many days it flushes -/
def fiV (w e rest shade : Int32) : Nat → Nat → Int32 → Int32
  | 0, _, _ => -1
  | m + 1, d, sap => if (if Int32.ofNat (d + 1) ≤ rest then sap else sap + (mx0 (w - shade) + mn e 3)) < 5 then fiV w e rest shade m (d + 1) (if Int32.ofNat (d + 1) ≤ rest then sap else sap + (mx0 (w - shade) + mn e 3)) else Int32.ofNat (d + 1)
def FI (I : Nat → Nat → Int32) (i : Nat) (w e : Int32) : Int32 := fiV w e (I (2 * i + 11) 3) (I (2 * i + 11) 1) 30 0 (I (2 * i + 11) 2)
theorem x_sap (hj : Inj φ T) (ta : T a = (5, 0)) : f_X2_sapOfDay (φ a) w e (pt φ T I R τ) = some (mx0 (w - I a 1) + mn e 3, pt φ T I R τ) := by
  simp (config := {decide := true}) only [b_X2_sapOfDay_0, f_X2_sapOfDay, gI_pt hj, gR_pt hj, ob_pt hj, ck_pt hj, pI_pt hj, pB_pt hj, pR_pt hj, aI_pt hj, aR_pt hj, wI_pt hj, wJ_pt hj, aL_pt hj, cl1_s, cl1_n, cl1_i, cx1_s, cx1_x, cx1_n, cx1_i, nul_n, nul_s, nm, dv2, dv3, dv4, dv5, dv8, dv10, dv20, dv40, thr, bo, mI_pt hj, mT_pt hj, sB_pt, mZ_pt, mJ_pt, mJ_sJ, mZ_sJ, tn0, tn1, tn2, tn3, tn4, tn5, tn6, ta, mx0E, mnE, ii0, ii1, ii2, ii3, ii4, if_true, if_false, ne_eq, not_false_eq_true, not_true_eq_false, true_and, and_true, false_and, and_false, and_self, true_or, or_true, false_or, or_false, or_self, Nat.reduceAdd, Nat.reduceLT, Nat.reduceLeDiff, Nat.succ_ne_zero, reduceIte, reduceCtorEq]
theorem x_fiL (hj : Inj φ T) (ta : T a = (5, 0)) : ∀ m d sap fl, d + m = 30 → m + 1 ≤ fl → l_X4_flushIn_31 fl w e (some (φ a)) sap (Int32.ofNat (d + 1)) (pt φ T I R τ) = some (.inl (fiV w e (I a 3) (I a 1) m d sap), pt φ T I R τ) := by
  have S := x_sap (I := I) (R := R) (τ := τ) (w := w) (e := e) hj ta
  have t1 : (T a).1 = 4 + 1 := by rw [ta]
  intro m
  induction m with
  | zero =>
    intro d sap fl h1 h2
    obtain ⟨fl', rfl⟩ : ∃ x, fl = x + 1 := ⟨fl - 1, by omega⟩
    have c1 : (30 : Int32) < Int32.ofNat (d + 1) := (kN_lt (a := 30) (by omega) (by omega)).mpr (by omega)
    rw [l_X4_flushIn_31, itr_succ, b_X4_flushIn_31, if_pos c1]; rfl
  | succ m ih =>
    intro d sap fl h1 h2
    obtain ⟨fl', rfl⟩ : ∃ x, fl = x + 1 := ⟨fl - 1, by omega⟩
    have c1 : ¬ (30 : Int32) < Int32.ofNat (d + 1) := by
      rw [show (30 : Int32) = Int32.ofNat 30 from rfl, kN_lt (by omega) (by omega)]; omega
    have IH := fun s => ih (d + 1) s fl' (by omega) (by omega)
    rw [l_X4_flushIn_31, itr_succ, b_X4_flushIn_31, if_neg c1, gI_pt hj t1]
    by_cases c2 : Int32.ofNat (d + 1) ≤ I a 3
    · rw [if_pos c2, b_X4_flushIn_60, fiV]
      simp only [if_pos c2]
      by_cases c3 : sap < 5
      · rw [if_pos c3, if_pos c3, nm, kN_s]; exact IH sap
      · rw [if_neg c3, if_neg c3]
    · rw [if_neg c2, ob_pt hj t1, S, cl1_s, nm, b_X4_flushIn_60, fiV]
      simp only [if_neg c2]
      by_cases c3 : sap + (mx0 (w - I a 1) + mn e 3) < 5
      · rw [if_pos c3, if_pos c3, nm, kN_s]; exact IH _
      · rw [if_neg c3, if_neg c3]
theorem m_fiL (hj : Inj φ T) (ta : T q = (9, 0)) (ra : R q 6 = some (φ (q + 1))) (tb : T (q + 1) = (100, 5)) (hw : 0 ≤ w.toInt ∧ w.toInt ≤ 6) (he : 0 ≤ e.toInt ∧ e.toInt ≤ 6) {rest shade : Int32} (hr : 0 ≤ rest.toInt ∧ rest.toInt ≤ 4) : ∀ m d f fl (J : Nat → Nat → Int32), d + m = 30 → m + 1 ≤ fl → SMr J q f → Bd f (648000 + 36 * d) → f 1 = shade → (f 3).toInt = (if rest.toInt - d < 0 then 0 else rest.toInt - d) → ∃ J', l_X8_flushInNow_19 fl w e (some (φ q)) (Int32.ofNat (d + 1)) (pt φ T J R τ) = some (fiV w e rest shade m d (f 2), pt φ T J' R τ) ∧ ∀ v, v ≠ q → v ≠ q + 1 → J' v = J v := by
  have t1 : (T q).1 = 8 + 1 := by rw [ta]
  have z0 : (0 : Int32).toInt = 0 := rfl
  have z5 : (5 : Int32).toInt = 5 := rfl
  have z10 : (10 : Int32).toInt = 10 := rfl
  intro m
  induction m with
  | zero =>
    intro d f fl J h1 h2 _ _ _ _
    obtain ⟨fl', rfl⟩ : ∃ x, fl = x + 1 := ⟨fl - 1, by omega⟩
    have c1 : (30 : Int32) < Int32.ofNat (d + 1) := (kN_lt (a := 30) (by omega) (by omega)).mpr (by omega)
    refine ⟨J, ?_, fun _ _ _ => rfl⟩
    rw [l_X8_flushInNow_19, itr_succ, b_X8_flushInNow_19, if_pos c1]; rfl
  | succ m ih =>
    intro d f fl J h1 h2 hS hB h4 h5
    obtain ⟨fl', rfl⟩ : ∃ x, fl = x + 1 := ⟨fl - 1, by omega⟩
    have c1 : ¬ (30 : Int32) < Int32.ofNat (d + 1) := by
      rw [show (30 : Int32) = Int32.ofNat 30 from rfl, kN_lt (by omega) (by omega)]; omega
    obtain ⟨J1, D1, D2, D3⟩ := m_day (τ := τ) hj ta ra tb hS hB hw he
    have DB := day_b hB (by omega) hw he
    have SB := sap_b hB hw he
    have dT := kN_t (a := d + 1) (by omega)
    have e3 : d1F f 3 = f 3 := rfl
    by_cases c2 : Int32.ofNat (d + 1) ≤ rest
    · have c2' := leT c2
      rw [dT] at c2'
      have f3 : ¬ d1F f 3 ≤ 0 := fun y => by have := leT y; rw [e3, z0, h5, if_neg (by omega)] at this; omega
      have DF : dayF w e f = (0, d3F (d1F f)) := by rw [dayF, if_neg f3]
      rw [DF] at D1 D2 DB
      have z1 : (1 : Int32).toInt = 1 := rfl
      have f3' : (d3F (d1F f) 3).toInt = (f 3).toInt - 1 := by
        show (f 3 - 1).toInt = _
        have := h5; rw [if_neg (by omega)] at this
        rw [tSub (by omega) (by omega), z1]
      obtain ⟨J2, L1, L2⟩ := ih (d + 1) (d3F (d1F f)) fl' J1 (by omega) (by omega) D2 (by rw [show 648000 + 36 * (d + 1) = 648000 + 36 * d + 36 by omega]; exact DB) h4 (by
        rw [f3', h5, if_neg (by omega)]
        split <;> omega)
      refine ⟨J2, ?_, fun v y1 y2 => by rw [L2 v y1 y2, D3 v y1 y2]⟩
      have s5 : f 2 < 5 := by
        rw [Int32.lt_iff_toInt_lt, z5]; have := hB.2.2.1.2; omega
      have D1' : f_X6_day (φ q) w e (pt φ T J R τ) = some (0, pt φ T J1 R τ) := D1
      rw [l_X8_flushInNow_19, itr_succ, b_X8_flushInNow_19, if_neg c1, ob_pt hj t1, D1', cl1_s, if_pos (show (0 : Int32) ≤ 0 by decide), nm, kN_s, fiV]
      simp only [if_pos c2]
      rw [if_pos s5]
      exact L1
    · have c2' : rest.toInt < d + 1 := by
        have := ltT (Int32.not_le.mp c2); rw [dT] at this; omega
      have f3z : (f 3).toInt = 0 := by rw [h5]; split <;> omega
      have f3 : d1F f 3 ≤ 0 := by rw [Int32.le_iff_toInt_le, e3, z0, f3z]; exact Int.le_refl _
      have DF : dayF w e f = flN (d2F w e (d1F f)) := by rw [dayF, if_pos f3]
      have g2 : d2F w e (d1F f) 2 = f 2 + (mx0 (w - shade) + mn e 3) := by rw [← h4]; rfl
      have FV : fiV w e rest shade (m + 1) d (f 2) = if d2F w e (d1F f) 2 < 5 then fiV w e rest shade m (d + 1) (d2F w e (d1F f) 2) else Int32.ofNat (d + 1) := by
        rw [fiV]; simp only [if_neg c2]; rw [g2]
      rw [FV]
      by_cases c3 : d2F w e (d1F f) 2 < 5
      · have F0 : flN (d2F w e (d1F f)) = (0, d2F w e (d1F f)) := by rw [flN, if_pos c3]
        rw [DF, F0] at D1 D2 DB
        obtain ⟨J2, L1, L2⟩ := ih (d + 1) (d2F w e (d1F f)) fl' J1 (by omega) (by omega) D2 (by rw [show 648000 + 36 * (d + 1) = 648000 + 36 * d + 36 by omega]; exact DB) h4 (by
          show (f 3).toInt = _
          rw [f3z]; split <;> omega)
        refine ⟨J2, ?_, fun v y1 y2 => by rw [L2 v y1 y2, D3 v y1 y2]⟩
        have D1' : f_X6_day (φ q) w e (pt φ T J R τ) = some (0, pt φ T J1 R τ) := D1
        rw [l_X8_flushInNow_19, itr_succ, b_X8_flushInNow_19, if_neg c1, ob_pt hj t1, D1', cl1_s, if_pos (show (0 : Int32) ≤ 0 by decide), nm, kN_s, if_pos c3]
        exact L1
      · have cnt : ¬ (flN (d2F w e (d1F f))).1 ≤ 0 := by
          rw [flN, if_neg c3]; split
          · show ¬ (1 : Int32) ≤ 0; decide
          · show ¬ (2 : Int32) ≤ 0; decide
        rw [DF] at D1
        refine ⟨J1, ?_, D3⟩
        rw [l_X8_flushInNow_19, itr_succ, b_X8_flushInNow_19, if_neg c1, ob_pt hj t1, D1, cl1_s, if_neg cnt, if_neg c3]
theorem x_flushIn (h : Cx φ T I R (mZ τ) e0 nS nL cS cL mx cB bl n) (hp : InN p nS) (hi : p.toNatClampNeg = i) (hw : 0 ≤ w ∧ w ≤ 6) (he : 0 ≤ e ∧ e ≤ 6) : f_X4_flushIn (φ 0) p w e (pt φ T I R τ) = some (.inl (FI I i w e), pt φ T I R τ) := by
  have iL : i < nS := hi ▸ (idx (show nS ≤ 16 by have := h.m.2.2.2.2.2.1; omega) hp.1 hp.2).2.2.2.2
  have hS4 := h.m.2.2.2.2.2.1
  have hj := h.hj
  have hx0 := h.m.2.2.2.2.2.2.2
  have t0 : (T 0).1 = 6 + 1 := by rw [hx0]
  have t5 := h.t5 (show i < 4 by omega)
  have L := x_fiL (I := I) (R := R) (τ := τ) (w := w) (e := e) hj t5 30 0 (I (2 * i + 11) 2) 40 (by omega) (by omega)
  rw [f_X4_flushIn, b_X4_flushIn_0, ob_pt hj t0, x_secAt h hp hi, cx1_s, x_req _ hw.1 hw.2, cx1_s, x_req _ he.1 he.2, cx1_s, gI_pt hj (by rw [t5])]
  exact L
theorem m_flushInNow (h : Cx φ T I R (mZ τ) e0 nS nL cS cL mx cB bl n) (hn : n < 600) (hJ : ∀ v, 125 ≤ v → J v = I v) (hz : mZ τ ≤ mZ τ1) (hp : InN p nS) (hi : p.toNatClampNeg = i) (hw : 0 ≤ w ∧ w ≤ 6) (he : 0 ≤ e ∧ e ≤ 6) : ∃ τ', f_X8_flushInNow (φ 124) p w e (pt φ T J R τ1) = some (FI I i w e, pt φ T J R τ') ∧ KJ τ1 τ' := by
  have iL : i < nS := hi ▸ (idx (show nS ≤ 16 by have := h.m.2.2.2.2.2.1; omega) hp.1 hp.2).2.2.2.2
  have hS4 := h.m.2.2.2.2.2.1
  have hj := h.hj
  have h0 := h.m.1
  have hl1 : live T φ (mZ τ1) := fun v hv => Nat.lt_of_lt_of_le (h.hl v hv) hz
  have z6 : (6 : Int32).toInt = 6 := rfl
  have z0 : (0 : Int32).toInt = 0 := rfl
  have w1 : 0 ≤ w.toInt ∧ w.toInt ≤ 6 := by
    have := leT hw.1; have := leT hw.2; omega
  have w2 : 0 ≤ e.toInt ∧ e.toInt ≤ 6 := by
    have := leT he.1; have := leT he.2; omega
  obtain ⟨y1, y2, y3⟩ := h.smr iL
  have SMJ : SMr J (2 * i + 135) (scF I i) := ⟨fun k hk => by rw [hJ _ (by omega)]; exact y1 k hk, fun k hk => by rw [hJ _ (by omega)]; exact y2 k hk, by rw [hJ _ (by omega)]; exact y3⟩
  have G := m_getSJ (J := J) (τ := τ1) h (hJ 125 (by omega)) hp hi
  have B := h.sb iL
  have T9 := h.t9 iL
  obtain ⟨M6, M5, R6, T6⟩ : R 124 6 = some (φ 125) ∧ T 125 = (2, 0) ∧ R (2 * i + 135) 6 = some (φ (2 * i + 136)) ∧ T (2 * i + 136) = (100, 5) := by
    obtain ⟨hj, hl, hx, hm, hr⟩ := h; obtain ⟨hx0, hx1, hx2, hx3, hx4, hx5, hx6, hx7, hx8, hx9, hx10, hx11, hx12, hx13, hx14, hx15, hx16, hx17, hx18, hx19, hx20, hx21, hx22, hx23, hx24, hx25, hx26, hx27⟩ := hx; obtain ⟨hm0, hm1, hm2, hm3, hm4, hm5, hm6, hm7, hm8, hm9, hm10, hm11, hm12, hm13, hm14, hm15, hm16, hm17, hm18, hm19, hm20, hm21, hm22, hm23, hm24, hm25, hm26, hm27, hm28, hm29, hm30, hm31, hm32, hm33, hm34, hm35, hm36, hm37, hm38, hm39, hm40, hm41, hm42, hm43, hm44⟩ := hm; obtain ⟨⟨⟨g1, g2⟩, ⟨g3, g4, g5, g6, g7⟩, g8, g9, g10⟩, r1, r2, r3, r4, r5, r6⟩ := hr
    exact ⟨hm1, hm5, hm26 i iL, hm27 i iL⟩
  obtain ⟨φ2, T2, J2, R2, τ2, C1, C2, C3, C4, C5, C6, C7, C8, C9⟩ := m_copyS (R := R) hj hl1 T9 R6 T6 (by omega) SMJ
  obtain ⟨J3, L1, L2⟩ := m_fiL (R := R2) (τ := τ2) (w := w) (e := e) (rest := I (2 * i + 11) 3) (shade := I (2 * i + 11) 1) C2 C3 C4 C5 w1 w2 B.2.2.2.1 30 0 (scF I i) 40 J2 (by omega) (by omega) C6 (by
    obtain ⟨c0, c1, c2, c3, c7, c6⟩ := B
    exact ⟨c0, c1, c2, c3, c7, c6.1, by have := c6.2; omega⟩) rfl (by
    have : (scF I i 3).toInt = (I (2 * i + 11) 3).toInt := rfl
    have := B.2.2.2.1.1
    rw [if_neg (by show ¬ (scF I i 3).toInt - (0 : Nat) < 0; omega)]
    show (scF I i 3).toInt = (scF I i 3).toInt - (0 : Nat); omega)
  have C9' : mZ τ1 ≤ φ2 (400 + 1) := C9
  refine Kp.run hj hl1 (σ' := pt φ2 T2 J3 R2 τ2) ?_ (C7.trans (Kp.pl (fun v hv hz2 => ⟨L2 v (fun y => by rw [y] at hz2; omega) (fun y => by rw [y] at hz2; omega), rfl⟩)))
  have L1' : l_X8_flushInNow_19 40 w e (some (φ2 400)) 1 (pt φ2 T2 J2 R2 τ2) = some (FI I i w e, pt φ2 T2 J3 R2 τ2) := L1
  simp (config := {decide := true}) only [f_X8_flushInNow, b_X8_flushInNow_0, G, C1, L1', gI_pt hj, gR_pt hj, ob_pt hj, ck_pt hj, pI_pt hj, pB_pt hj, pR_pt hj, aI_pt hj, aR_pt hj, wI_pt hj, wJ_pt hj, aL_pt hj, cl1_s, cl1_n, cl1_i, cx1_s, cx1_x, cx1_n, cx1_i, nul_n, nul_s, nm, dv2, dv3, dv4, dv5, dv8, dv10, dv20, dv40, thr, bo, mI_pt hj, mT_pt hj, sB_pt, mZ_pt, mJ_pt, mJ_sJ, mZ_sJ, tn0, tn1, tn2, tn3, tn4, tn5, tn6, h0, M6, M5, T9, ii0, ii1, ii2, ii3, ii4, if_true, if_false, ne_eq, not_false_eq_true, not_true_eq_false, true_and, and_true, false_and, and_false, and_self, true_or, or_true, false_or, or_false, or_self, Nat.reduceAdd, Nat.reduceLT, Nat.reduceLeDiff, Nat.succ_ne_zero, reduceIte, reduceCtorEq]
theorem op_flushIn {x m o : Nat} {σ : Mem} (p q r : Int32) (hn : n < 600) (h : Jn e0 x m o n σ) : Agr e0 x m o n (f_L_flushIn (some x) p q r (some o) σ) (fun σ => f_X8_flushIn m p q r σ) := by
  obtain ⟨φ, T, I, R, τ, nS, nL, cS, cL, mx, cB, bl, rfl, ⟨rfl, rfl, rfl⟩, h⟩ := h
  have h : Cx φ T I R (mZ τ) e0 nS nL cS cL mx cB bl n := h
  have hj := h.hj
  have h0 := h.m.1
  have hx0 := h.m.2.2.2.2.2.2.2
  have h132 := h.m.2.2.2.2.2.2.1
  have h' : Cx φ T I R (mZ (sB τ)) e0 nS nL cS cL mx cB bl n := h.up (Nat.le_succ _)
  by_cases hp : InN p nS
  · by_cases hw : 0 ≤ q ∧ q ≤ 6
    · by_cases he : 0 ≤ r ∧ r ≤ 6
      · have X := x_flushIn h hp rfl hw he
        obtain ⟨v, hv⟩ : ∃ v, v = FI I p.toNatClampNeg q r := ⟨_, rfl⟩
        obtain ⟨τ', e1, e2⟩ := m_flushInNow (J := up2 I 124 0 0) (τ1 := sJ τ (φ 132) 0 v.toInt64) h hn (fun v hv => up2_row (by omega)) (Nat.le_refl _) hp rfl hw he
        rw [← hv] at X e1
        have h'' : Cx φ T I R (mZ (sJ τ (φ 132) 0 v.toInt64)) e0 nS nL cS cL mx cB bl n := h
        refine Agr.val (v := v) (τ' := τ') h e2.1 ((congrFun (e2.2 _ h.out) 0).trans sJ_at) ?_ ?_
        · simp (config := {decide := true}) only [f_L_flushIn, b_L_flushIn_0, X, gI_pt hj, gR_pt hj, ob_pt hj, ck_pt hj, pI_pt hj, pB_pt hj, pR_pt hj, aI_pt hj, aR_pt hj, wI_pt hj, wJ_pt hj, aL_pt hj, cl1_s, cl1_n, cl1_i, cx1_s, cx1_x, cx1_n, cx1_i, nul_n, nul_s, nm, dv2, dv3, dv4, dv5, dv8, dv10, dv20, dv40, thr, bo, mI_pt hj, mT_pt hj, sB_pt, mZ_pt, mJ_pt, mJ_sJ, mZ_sJ, tn0, tn1, tn2, tn3, tn4, tn5, tn6, hx0, h132, ii0, ii1, ii2, ii3, ii4, if_true, if_false, ne_eq, not_false_eq_true, not_true_eq_false, true_and, and_true, false_and, and_false, and_self, true_or, or_true, false_or, or_false, or_self, Nat.reduceAdd, Nat.reduceLT, Nat.reduceLeDiff, Nat.succ_ne_zero, reduceIte, reduceCtorEq]
        · simp (config := {decide := true}) only [f_X8_flushIn, b_X8_flushIn_0, b_X8_flushIn_37, m_noSec h'' hp, m_start0 hj h0, m_weather _ hw he, m_ref0 hj h0, e1, gI_pt hj, gR_pt hj, ob_pt hj, ck_pt hj, pI_pt hj, pB_pt hj, pR_pt hj, aI_pt hj, aR_pt hj, wI_pt hj, wJ_pt hj, aL_pt hj, cl1_s, cl1_n, cl1_i, cx1_s, cx1_x, cx1_n, cx1_i, nul_n, nul_s, nm, dv2, dv3, dv4, dv5, dv8, dv10, dv20, dv40, thr, bo, mI_pt hj, mT_pt hj, sB_pt, mZ_pt, mJ_pt, mJ_sJ, mZ_sJ, tn0, tn1, tn2, tn3, tn4, tn5, tn6, h0, ii0, ii1, ii2, ii3, ii4, if_true, if_false, ne_eq, not_false_eq_true, not_true_eq_false, true_and, and_true, false_and, and_false, and_self, true_or, or_true, false_or, or_false, or_self, Nat.reduceAdd, Nat.reduceLT, Nat.reduceLeDiff, Nat.succ_ne_zero, reduceIte, reduceCtorEq]
      · refine Agr.bad (k := 2) (b := 0) h (by decide) ?_ ?_
        · simp (config := {decide := true}) only [f_L_flushIn, b_L_flushIn_0, f_X4_flushIn, b_X4_flushIn_0, x_secAt h hp rfl, x_req _ hw.1 hw.2, x_reqN _ he, gI_pt hj, gR_pt hj, ob_pt hj, ck_pt hj, pI_pt hj, pB_pt hj, pR_pt hj, aI_pt hj, aR_pt hj, wI_pt hj, wJ_pt hj, aL_pt hj, cl1_s, cl1_n, cl1_i, cx1_s, cx1_x, cx1_n, cx1_i, nul_n, nul_s, nm, dv2, dv3, dv4, dv5, dv8, dv10, dv20, dv40, thr, bo, mI_pt hj, mT_pt hj, sB_pt, mZ_pt, mJ_pt, mJ_sJ, mZ_sJ, tn0, tn1, tn2, tn3, tn4, tn5, tn6, hx0, ii0, ii1, ii2, ii3, ii4, if_true, if_false, ne_eq, not_false_eq_true, not_true_eq_false, true_and, and_true, false_and, and_false, and_self, true_or, or_true, false_or, or_false, or_self, Nat.reduceAdd, Nat.reduceLT, Nat.reduceLeDiff, Nat.succ_ne_zero, reduceIte, reduceCtorEq]
        · simp (config := {decide := true}) only [f_X8_flushIn, b_X8_flushIn_0, b_X8_flushIn_26, b_X8_flushIn_37, m_noSec h' hp, m_start0 hj h0, m_weatherN (p := q) (r := r) _ (fun y => he y.2), m_ref1 hj h0 (show ¬ (2 : Int32) ≤ 0 by decide), gI_pt hj, gR_pt hj, ob_pt hj, ck_pt hj, pI_pt hj, pB_pt hj, pR_pt hj, aI_pt hj, aR_pt hj, wI_pt hj, wJ_pt hj, aL_pt hj, cl1_s, cl1_n, cl1_i, cx1_s, cx1_x, cx1_n, cx1_i, nul_n, nul_s, nm, dv2, dv3, dv4, dv5, dv8, dv10, dv20, dv40, thr, bo, mI_pt hj, mT_pt hj, sB_pt, mZ_pt, mJ_pt, mJ_sJ, mZ_sJ, tn0, tn1, tn2, tn3, tn4, tn5, tn6, h0, ii0, ii1, ii2, ii3, ii4, if_true, if_false, ne_eq, not_false_eq_true, not_true_eq_false, true_and, and_true, false_and, and_false, and_self, true_or, or_true, false_or, or_false, or_self, Nat.reduceAdd, Nat.reduceLT, Nat.reduceLeDiff, Nat.succ_ne_zero, reduceIte, reduceCtorEq]
    · refine Agr.bad (k := 2) (b := 0) h (by decide) ?_ ?_
      · simp (config := {decide := true}) only [f_L_flushIn, b_L_flushIn_0, f_X4_flushIn, b_X4_flushIn_0, x_secAt h hp rfl, x_reqN _ hw, gI_pt hj, gR_pt hj, ob_pt hj, ck_pt hj, pI_pt hj, pB_pt hj, pR_pt hj, aI_pt hj, aR_pt hj, wI_pt hj, wJ_pt hj, aL_pt hj, cl1_s, cl1_n, cl1_i, cx1_s, cx1_x, cx1_n, cx1_i, nul_n, nul_s, nm, dv2, dv3, dv4, dv5, dv8, dv10, dv20, dv40, thr, bo, mI_pt hj, mT_pt hj, sB_pt, mZ_pt, mJ_pt, mJ_sJ, mZ_sJ, tn0, tn1, tn2, tn3, tn4, tn5, tn6, hx0, ii0, ii1, ii2, ii3, ii4, if_true, if_false, ne_eq, not_false_eq_true, not_true_eq_false, true_and, and_true, false_and, and_false, and_self, true_or, or_true, false_or, or_false, or_self, Nat.reduceAdd, Nat.reduceLT, Nat.reduceLeDiff, Nat.succ_ne_zero, reduceIte, reduceCtorEq]
      · simp (config := {decide := true}) only [f_X8_flushIn, b_X8_flushIn_0, b_X8_flushIn_26, b_X8_flushIn_37, m_noSec h' hp, m_start0 hj h0, m_weatherN (p := q) (r := r) _ (fun y => hw y.1), m_ref1 hj h0 (show ¬ (2 : Int32) ≤ 0 by decide), gI_pt hj, gR_pt hj, ob_pt hj, ck_pt hj, pI_pt hj, pB_pt hj, pR_pt hj, aI_pt hj, aR_pt hj, wI_pt hj, wJ_pt hj, aL_pt hj, cl1_s, cl1_n, cl1_i, cx1_s, cx1_x, cx1_n, cx1_i, nul_n, nul_s, nm, dv2, dv3, dv4, dv5, dv8, dv10, dv20, dv40, thr, bo, mI_pt hj, mT_pt hj, sB_pt, mZ_pt, mJ_pt, mJ_sJ, mZ_sJ, tn0, tn1, tn2, tn3, tn4, tn5, tn6, h0, ii0, ii1, ii2, ii3, ii4, if_true, if_false, ne_eq, not_false_eq_true, not_true_eq_false, true_and, and_true, false_and, and_false, and_self, true_or, or_true, false_or, or_false, or_self, Nat.reduceAdd, Nat.reduceLT, Nat.reduceLeDiff, Nat.succ_ne_zero, reduceIte, reduceCtorEq]
  · refine Agr.bad (k := 1) (b := 0) h (by decide) ?_ ?_
    · simp (config := {decide := true}) only [f_L_flushIn, b_L_flushIn_0, f_X4_flushIn, b_X4_flushIn_0, x_secAtN h hp, gI_pt hj, gR_pt hj, ob_pt hj, ck_pt hj, pI_pt hj, pB_pt hj, pR_pt hj, aI_pt hj, aR_pt hj, wI_pt hj, wJ_pt hj, aL_pt hj, cl1_s, cl1_n, cl1_i, cx1_s, cx1_x, cx1_n, cx1_i, nul_n, nul_s, nm, dv2, dv3, dv4, dv5, dv8, dv10, dv20, dv40, thr, bo, mI_pt hj, mT_pt hj, sB_pt, mZ_pt, mJ_pt, mJ_sJ, mZ_sJ, tn0, tn1, tn2, tn3, tn4, tn5, tn6, hx0, ii0, ii1, ii2, ii3, ii4, if_true, if_false, ne_eq, not_false_eq_true, not_true_eq_false, true_and, and_true, false_and, and_false, and_self, true_or, or_true, false_or, or_false, or_self, Nat.reduceAdd, Nat.reduceLT, Nat.reduceLeDiff, Nat.succ_ne_zero, reduceIte, reduceCtorEq]
    · simp (config := {decide := true}) only [f_X8_flushIn, b_X8_flushIn_0, b_X8_flushIn_26, b_X8_flushIn_37, m_noSecN h' hp, m_start1 hj h0 (show ¬ (1 : Int32) ≤ 0 by decide), gI_pt hj, gR_pt hj, ob_pt hj, ck_pt hj, pI_pt hj, pB_pt hj, pR_pt hj, aI_pt hj, aR_pt hj, wI_pt hj, wJ_pt hj, aL_pt hj, cl1_s, cl1_n, cl1_i, cx1_s, cx1_x, cx1_n, cx1_i, nul_n, nul_s, nm, dv2, dv3, dv4, dv5, dv8, dv10, dv20, dv40, thr, bo, mI_pt hj, mT_pt hj, sB_pt, mZ_pt, mJ_pt, mJ_sJ, mZ_sJ, tn0, tn1, tn2, tn3, tn4, tn5, tn6, h0, ii0, ii1, ii2, ii3, ii4, if_true, if_false, ne_eq, not_false_eq_true, not_true_eq_false, true_and, and_true, false_and, and_false, and_self, true_or, or_true, false_or, or_false, or_self, Nat.reduceAdd, Nat.reduceLT, Nat.reduceLeDiff, Nat.succ_ne_zero, reduceIte, reduceCtorEq]
end FI
