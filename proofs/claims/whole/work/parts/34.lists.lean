/-! LISTS: add -/
section LS
variable {β : Type} {φ : Nat → Nat} {T : Nat → Nat × Nat} {I J : Nat → Nat → Int32} {R : Nat → Nat → Option Nat} {τ : Mem} {e0 mi a l w c s k z u v t : Nat} {i p sp dp n : Int32} {r : Option Nat}
theorem pt_take (w : Nat) (hj : Inj φ T) (ho : Off φ T a) (ha : (mT τ a).1 ≠ 0) : Inj (rowS φ w a) (rowS T w (mT τ a)) ∧ pt φ T I R τ = pt (rowS φ w a) (rowS T w (mT τ a)) (rowS I w (mI τ a)) (rowS R w (mR τ a)) (pt φ T I R τ) := by
  obtain ⟨hj2, e2⟩ := pt_drop (I := I) (R := R) (σ := τ) w hj
  have hl : ∀ v, (rowS T w (0, 0) v).1 ≠ 0 → (T v).1 ≠ 0 := by
    intro v hv
    by_cases q : v = w
    · subst q; simp [rowS] at hv
    · rw [rowS_ne q] at hv; exact hv
  have ho2 : ∀ v, (rowS T w (0, 0) v).1 ≠ 0 → φ v ≠ a := fun v hv => ho v (hl v hv)
  have tT : mT (pt φ T I R τ) a = mT τ a := mT_off ho
  have tI : mI (pt φ T I R τ) a = mI τ a := mI_off ho
  have tR : mR (pt φ T I R τ) a = mR τ a := mR_off ho
  obtain ⟨hj3, e3⟩ := pt_new (I := I) (R := R) (σ := pt φ T I R τ) (w := w) hj2 (by simp [rowS]) (by rw [tT]; exact ha) ho2
  rw [tT, tI, tR] at e3
  have rr : rowS (rowS T w (0, 0)) w (mT τ a) = rowS T w (mT τ a) := by
    funext x; by_cases q : x = w <;> simp [rowS, q]
  rw [tT, rr] at hj3
  rw [rr] at e3
  exact ⟨hj3, e2.trans e3⟩
theorem live.take (h : live T φ z) (ha : a < z) : live (rowS T w (t, s)) (rowS φ w a) z := by
  intro v hv
  by_cases q : v = w
  · subst q; simp only [rowS, if_true]; exact ha
  · rw [rowS_ne q] at hv ⊢; exact h v hv
theorem wR_pt (hj : Inj φ T) {K : Mem → Option β} (h : (T v).1 = 106) (h1 : ¬ i < 0) (h2 : i.toNatClampNeg < (T v).2) (he : ∀ y, r = some y → elOK 6 (pt φ T I R τ) y) : wR 6 (pt φ T I R τ) (some (φ v)) i r K = K (pt φ T I (up2 R v i.toNatClampNeg r) τ) := by
  have hv : (T v).1 ≠ 0 := by omega
  rw [wR, if_pos ⟨by rw [mT_pt hj hv]; exact h, ⟨h1, by rw [mT_pt hj hv]; exact h2⟩, fun y hy => he y hy⟩, sR_pt hj hv]
theorem wR_off (ho : Off φ T a) {K : Mem → Option β} (h : (mT τ a).1 = 106) (h1 : ¬ i < 0) (h2 : i.toNatClampNeg < (mT τ a).2) (he : ∀ y, r = some y → elOK 6 (pt φ T I R τ) y) : wR 6 (pt φ T I R τ) (some a) i r K = K (pt φ T I R (sR τ a i.toNatClampNeg r)) := by
  rw [wR, if_pos ⟨by rw [mT_off ho]; exact h, ⟨h1, by rw [mT_off ho]; exact h2⟩, fun y hy => he y hy⟩, sR_off ho]
theorem el_pt (hj : Inj φ T) (h : (T v).1 = 8 ∨ (T v).1 = 9 ∨ (T v).1 = 100) : elOK 6 (pt φ T I R τ) (φ v) := by
  have hv : (T v).1 ≠ 0 := by omega
  refine Or.inr (Or.inr (Or.inr (Or.inr ⟨rfl, ?_⟩)))
  rw [mT_pt hj hv]; exact h
theorem el_none {σ : Mem} : ∀ y, (none : Option Nat) = some y → elOK 6 σ y := fun _ h => by cases h
theorem cpR_new (hj : Inj φ T) (ho : Off φ T a) {K : Mem → Option β} (h : T v = (106, c)) (ha : mT τ a = (106, k)) (h1 : ¬ sp < 0) (h2 : ¬ dp < 0) (h3 : ¬ n < 0) (h4 : sp.toNatClampNeg + n.toNatClampNeg ≤ c) (h5 : dp.toNatClampNeg + n.toNatClampNeg ≤ k) (he : ∀ i, i < n.toNatClampNeg → ∀ y, R v (sp.toNatClampNeg + i) = some y → elOK 6 (pt φ T I R τ) y) : cpR (pt φ T I R τ) (some (φ v)) sp (some a) dp n K = K (pt φ T I R (sRr τ a (va_cpy (R v) (mR τ a) sp.toNatClampNeg dp.toNatClampNeg n.toNatClampNeg))) := by
  have hv : (T v).1 ≠ 0 := by rw [h]; simp
  have e1 : mT (pt φ T I R τ) (φ v) = (106, c) := by rw [mT_pt hj hv, h]
  have e2 : mT (pt φ T I R τ) a = (106, k) := by rw [mT_off ho, ha]
  have e3 : mR (pt φ T I R τ) (φ v) = R v := mR_pt hj hv
  have e4 : mR (pt φ T I R τ) a = mR τ a := mR_off ho
  simp only [cpR]
  rw [if_pos ⟨Or.inl (by rw [e1]), by rw [e2], ⟨h1, h2, h3⟩, by rw [e1]; exact h4, by rw [e2]; exact h5, by rw [e3]; exact he⟩, e3, e4, sRr_off ho]
theorem cpR_same (hj : Inj φ T) {K : Mem → Option β} (h : T v = (106, c)) (h1 : ¬ sp < 0) (h2 : ¬ dp < 0) (h3 : ¬ n < 0) (h4 : sp.toNatClampNeg + n.toNatClampNeg ≤ c) (h5 : dp.toNatClampNeg + n.toNatClampNeg ≤ c) (he : ∀ i, i < n.toNatClampNeg → ∀ y, R v (sp.toNatClampNeg + i) = some y → elOK 6 (pt φ T I R τ) y) : cpR (pt φ T I R τ) (some (φ v)) sp (some (φ v)) dp n K = K (pt φ T I (rowS R v (va_cpy (R v) (R v) sp.toNatClampNeg dp.toNatClampNeg n.toNatClampNeg)) τ) := by
  have hv : (T v).1 ≠ 0 := by rw [h]; simp
  have e1 : mT (pt φ T I R τ) (φ v) = (106, c) := by rw [mT_pt hj hv, h]
  have e3 : mR (pt φ T I R τ) (φ v) = R v := mR_pt hj hv
  simp only [cpR]
  rw [if_pos ⟨Or.inl (by rw [e1]), by rw [e1], ⟨h1, h2, h3⟩, by rw [e1]; exact h4, by rw [e1]; exact h5, by rw [e3]; exact he⟩, e3, sRr_pt hj hv]
theorem nlen (σ : Mem) {c : Nat} (h1 : 1 ≤ c) (h2 : c ≤ 15) : ∃ d, d ≤ 7 ∧ 1 ≤ d ∧ f_J8_newLength_cabcc (Int32.ofNat c) 1 (Int32.ofNat c >>> (1 &&& 31)) σ = some (Int32.ofNat (c + d), σ) := by
  have key : ∀ c : Fin 16, 1 ≤ c.val → (max 1 (c.val / 2) ≤ 7) ∧ Int32.ofNat c.val + (if (1 : Int32) < (Int32.ofNat c.val >>> (1 &&& 31)) then (Int32.ofNat c.val >>> (1 &&& 31)) else 1) = Int32.ofNat (c.val + max 1 (c.val / 2)) ∧ ¬ Int32.ofNat (c.val + max 1 (c.val / 2)) ≤ 0 ∧ ¬ 2147483639 < Int32.ofNat (c.val + max 1 (c.val / 2)) := by decide
  obtain ⟨k1, k2, k3, k4⟩ := key ⟨c, by omega⟩ h1
  refine ⟨max 1 (c / 2), k1, Nat.le_max_left _ _, ?_⟩
  simp only [f_J8_newLength_cabcc, b_J8_newLength_cabcc_0, nm]
  rw [k2, if_neg k3, if_neg k4]
theorem rowS_hit {α : Type} {f : Nat → α} {a : Nat} {v : α} : rowS f a v a = v := if_pos rfl
theorem list_add (hj : Inj φ T) (hl : live T φ (mZ τ)) (h1 : T l = (2, 0)) (hlw : l ≠ w) (hs : I l 2 = Int32.ofNat s) (hsc : s ≤ c) (hs15 : s ≤ 15) (hc : c ≤ 22) (hr : R l 1 = some (if c = 0 then e0 else φ w)) (hT : c ≠ 0 → T w = (106, c)) (h123 : T 123 = (300, 0)) (h123' : φ 123 = e0) (hw : w ≠ 123) (huw : u ≠ w) (hu : (T u).1 = 8 ∨ (T u).1 = 9 ∨ (T u).1 = 100) (hel : ∀ k, k < s → ∃ u', R w k = some (φ u') ∧ ((T u').1 = 8 ∨ (T u').1 = 9 ∨ (T u').1 = 100)) :
    ∃ φ' T' I' R' τ' c', f_Jx4a65c_add_9ea2d e0 mi (φ l) (some (φ u)) (pt φ T I R τ) = some (1, pt φ' T' I' R' τ') ∧ Inj φ' T' ∧ live T' φ' (mZ τ') ∧ (s + 1 ≤ c' ∧ c' ≤ 22) ∧ T' w = (106, c') ∧ (∀ v, v ≠ w → φ' v = φ v ∧ T' v = T v) ∧ (∀ v, v ≠ w → v ≠ l → I' v = I v) ∧ I' l 2 = Int32.ofNat (s + 1) ∧ (∀ k, k ≠ 0 → k ≠ 2 → I' l k = I l k) ∧ (∀ v, v ≠ w → v ≠ l → R' v = R v) ∧ (∀ k, k ≠ 1 → R' l k = R l k) ∧ R' l 1 = some (φ' w) ∧ (∀ k, k < s → R' w k = R w k) ∧ R' w s = some (φ u) ∧ mZ τ ≤ mZ τ' ∧ (∀ b, b < mZ τ → mJ τ' b = mJ τ b) ∧ (∀ k, s < k → k < c' → (k < c → R w k = none) → R' w k = none) := by
  have n01 : ¬ Int32.ofNat s < 0 := kN_nn (by omega)
  have tns : (Int32.ofNat s).toNatClampNeg = s := tnK (by omega)
  have hlk : (T l).1 = 1 + 1 := by rw [h1]
  have hl0 : (T l).1 ≠ 0 := by rw [h1]; decide
  obtain ⟨I1, hI1⟩ : ∃ I1, I1 = up2 I l 0 (I l 0 + 1) := ⟨_, rfl⟩
  have i12 : I1 l 2 = Int32.ofNat s := by rw [hI1, up2_k (by decide)]; exact hs
  have F : ∀ (φ' : Nat → Nat) (T' : Nat → Nat × Nat) (R' : Nat → Nat → Option Nat) (τ' : Mem), f_Jx4a65c_add_72be8 e0 mi (φ l) (some (φ u)) (R l 1) (Int32.ofNat s) (pt φ T I1 R τ) = some ((), pt φ' T' (up2 I1 l 2 (Int32.ofNat (s + 1))) R' τ') → f_Jx4a65c_add_9ea2d e0 mi (φ l) (some (φ u)) (pt φ T I R τ) = some (1, pt φ' T' (up2 I1 l 2 (Int32.ofNat (s + 1))) R' τ') := by
    intro φ' T' R' τ' h
    have i12' := i12
    rw [hI1] at h i12' ⊢
    simp (config := {decide := true}) only [f_Jx4a65c_add_9ea2d, b_Jx4a65c_add_9ea2d_0, gI_pt hj, gR_pt hj, ob_pt hj, ck_pt hj, pI_pt hj, pB_pt hj, pR_pt hj, aI_pt hj, aR_pt hj, wI_pt hj, wJ_pt hj, aL_pt hj, cl1_s, cl1_n, cl1_i, cx1_s, cx1_x, cx1_n, cx1_i, nul_n, nul_s, nm, dv2, dv3, dv4, dv5, dv8, dv10, dv20, dv40, thr, bo, mI_pt hj, mT_pt hj, sB_pt, mZ_pt, mJ_pt, mJ_sJ, mZ_sJ, tn0, tn1, tn2, tn3, tn4, tn5, tn6, hlk, i12', h, ii0, ii1, ii2, ii3, ii4, if_true, if_false, ne_eq, not_false_eq_true, not_true_eq_false, true_and, and_true, false_and, and_false, and_self, true_or, or_true, false_or, or_false, or_self, Nat.reduceAdd, Nat.reduceLT, Nat.reduceLeDiff, Nat.succ_ne_zero, reduceIte, reduceCtorEq]
  have kI : ∀ v, v ≠ l → up2 I1 l 2 (Int32.ofNat (s + 1)) v = I v := fun v hv => by rw [up2_row hv, hI1, up2_row hv]
  have kI2 : ∀ k, k ≠ 0 → k ≠ 2 → up2 I1 l 2 (Int32.ofNat (s + 1)) l k = I l k := fun k h0 h2 => by rw [up2_k h2, hI1, up2_k h0]
  by_cases c0 : c = 0
  · -- the first one: a row of ten
    have s0 : s = 0 := by omega
    subst c0; subst s0
    rw [if_pos rfl] at hr
    have hoZ : Off φ T (mZ τ) := Off.of hl (Nat.le_refl _)
    obtain ⟨τ2, hτ2⟩ : ∃ τ2, τ2 = sR (sN τ (106, 10)) (mZ τ) 0 (some (φ u)) := ⟨_, rfl⟩
    have t2 : mT τ2 (mZ τ) = (106, 10) := by rw [hτ2]; exact mT_sN_at
    have z2 : mZ τ2 = mZ τ + 1 := by rw [hτ2]; rfl
    have j2 : ∀ b, b < mZ τ → mJ τ2 b = mJ τ b := fun b hb => by rw [hτ2, mJ_sR]; exact mJ_sN (by omega)
    have r2 : mR τ2 (mZ τ) 0 = some (φ u) := by rw [hτ2]; exact up2_at
    have rz2 : ∀ k, 0 < k → mR τ2 (mZ τ) k = none := fun k hk => by rw [hτ2, mR_sR, up2_k (by omega)]; exact mR_sN_at
    obtain ⟨e1, e2⟩ := pt_take (I := up2 I1 l 2 (Int32.ofNat (0 + 1))) (R := up2 R l 1 (some (mZ τ))) w hj hoZ (by rw [t2]; decide)
    rw [t2] at e1 e2
    refine ⟨rowS φ w (mZ τ), rowS T w (106, 10), rowS (up2 I1 l 2 (Int32.ofNat (0 + 1))) w (mI τ2 (mZ τ)), rowS (up2 R l 1 (some (mZ τ))) w (mR τ2 (mZ τ)), pt φ T (up2 I1 l 2 (Int32.ofNat (0 + 1))) (up2 R l 1 (some (mZ τ))) τ2, 10, ?_, e1, ?_, ⟨by omega, by omega⟩, rowS_hit, fun v hv => ⟨rowS_ne hv, rowS_ne hv⟩, fun v h h' => by rw [rowS_ne h]; exact kI v h', by rw [rowS_ne hlw]; exact up2_at, fun k h0 h2 => by rw [rowS_ne hlw]; exact kI2 k h0 h2, fun v h h' => by rw [rowS_ne h, up2_row h'], fun k hk => by rw [rowS_ne hlw, up2_k hk], by rw [rowS_ne hlw, up2_at, rowS_hit], fun k hk => by omega, by rw [rowS_hit]; exact r2, by show mZ τ ≤ mZ τ2; omega, j2, fun k hk _ _ => by rw [rowS_hit]; exact rz2 k hk⟩
    · rw [← e2]
      refine F _ _ _ _ ?_
      have G : f_Jx4a65c_grow_d5877 e0 mi (φ l) (pt φ T I1 R τ) = some (some (mZ τ), pt φ T I1 (up2 R l 1 (some (mZ τ))) (sN τ (106, 10))) := by
        simp (config := {decide := true}) only [f_Jx4a65c_grow_d5877, b_Jx4a65c_grow_d5877_0, f_Jx4a65c_grow_92f84, b_Jx4a65c_grow_92f84_0, gI_pt hj, gR_pt hj, ob_pt hj, ck_pt hj, pI_pt hj, pB_pt hj, pR_pt hj, aI_pt hj, aR_pt hj, wI_pt hj, wJ_pt hj, aL_pt hj, cl1_s, cl1_n, cl1_i, cx1_s, cx1_x, cx1_n, cx1_i, nul_n, nul_s, nm, dv2, dv3, dv4, dv5, dv8, dv10, dv20, dv40, thr, bo, aLe, hr, i12, nA_off, hoZ, mI_pt hj, mT_pt hj, sB_pt, mZ_pt, mJ_pt, mJ_sJ, mZ_sJ, tn0, tn1, tn2, tn3, tn4, tn5, tn6, hlk, show ¬ (0 : Int32) < 0 by decide, show Int32.ofNat 0 + 1 = 1 by decide, show ¬ (10 : Int32) < 1 by decide, show ¬ (10 : Int32) < 0 by decide, show (10 : Int32).toNatClampNeg = 10 by decide, Nat.le_refl, ii0, ii1, ii2, ii3, ii4, if_true, if_false, ne_eq, not_false_eq_true, not_true_eq_false, true_and, and_true, false_and, and_false, and_self, true_or, or_true, false_or, or_false, or_self, Nat.reduceAdd, Nat.reduceLT, Nat.reduceLeDiff, Nat.succ_ne_zero, reduceIte, reduceCtorEq]
      have W : ∀ (K : Mem → Option (Unit × Mem)), wR 6 (pt φ T I1 (up2 R l 1 (some (mZ τ))) (sN τ (106, 10))) (some (mZ τ)) 0 (some (φ u)) K = K (pt φ T I1 (up2 R l 1 (some (mZ τ))) τ2) := by
        intro K
        rw [wR_off hoZ (by rw [mT_sN_at]) (by decide) (by rw [mT_sN_at]; decide) (fun y hy => by cases hy; exact el_pt hj hu), hτ2]; rfl
      simp (config := {decide := true}) only [f_Jx4a65c_add_72be8, b_Jx4a65c_add_72be8_0, b_Jx4a65c_add_72be8_11, gI_pt hj, gR_pt hj, ob_pt hj, ck_pt hj, pI_pt hj, pB_pt hj, pR_pt hj, aI_pt hj, aR_pt hj, wI_pt hj, wJ_pt hj, aL_pt hj, cl1_s, cl1_n, cl1_i, cx1_s, cx1_x, cx1_n, cx1_i, nul_n, nul_s, nm, dv2, dv3, dv4, dv5, dv8, dv10, dv20, dv40, thr, bo, aLe, hr, G, W, mI_pt hj, mT_pt hj, sB_pt, mZ_pt, mJ_pt, mJ_sJ, mZ_sJ, tn0, tn1, tn2, tn3, tn4, tn5, tn6, hlk, show Int32.ofNat 0 = 0 by decide, show Int32.ofNat 1 = 1 by decide, ii0, ii1, ii2, ii3, ii4, if_true, if_false, ne_eq, not_false_eq_true, not_true_eq_false, true_and, and_true, false_and, and_false, and_self, true_or, or_true, false_or, or_false, or_self, Nat.reduceAdd, Nat.reduceLT, Nat.reduceLeDiff, Nat.succ_ne_zero, reduceIte, reduceCtorEq]
    · show live _ _ (mZ τ2)
      rw [z2]; exact (show live T φ (mZ τ + 1) from hl.B).take (Nat.lt_succ_self _)
  · rw [if_neg c0] at hr
    have hTw := hT c0
    have hwe : φ w ≠ e0 := by
      rw [← h123']; exact fun q => hw (hj w 123 (by rw [hTw]; simp) (by rw [h123]; decide) q)
    by_cases cs : s = c
    · -- full: a greater row
      have hoZ : Off φ T (mZ τ) := Off.of hl (Nat.le_refl _)
      obtain ⟨d, d7, d1, ND⟩ := nlen (c := c) (pt φ T I1 R τ) (by omega) (by omega)
      have n02 : ¬ Int32.ofNat c < 0 := kN_nn (by omega)
      have n03 : ¬ Int32.ofNat (c + d) < 0 := kN_nn (by omega)
      have tnc : (Int32.ofNat c).toNatClampNeg = c := tnK (by omega)
      have tncd : (Int32.ofNat (c + d)).toNatClampNeg = c + d := tnK (by omega)
      have n04 : (0 : Int32) < Int32.ofNat c := (kN_lt (a := 0) (by omega) (by omega)).mpr (by omega)
      have n05 : ¬ Int32.ofNat (c + d) < Int32.ofNat c := by rw [kN_lt (by omega) (by omega)]; omega
      have n06 : Int32.ofNat (c + 1) - Int32.ofNat c = 1 := by
        rw [← kN_s]
        exact Int32.toInt_inj.mp (by rw [tSub, tAdd] <;> (try rw [tAdd]) <;> (try rw [kN_t (by omega)]) <;> (try rw [show (1 : Int32).toInt = 1 from rfl]) <;> omega)
      obtain ⟨τ1, hτ1⟩ : ∃ τ1, τ1 = sN τ (106, c + d) := ⟨_, rfl⟩
      have t1 : mT τ1 (mZ τ) = (106, c + d) := by rw [hτ1]; exact mT_sN_at
      have z1 : mZ τ1 = mZ τ + 1 := by rw [hτ1]; rfl
      have j1 : ∀ b, b < mZ τ → mJ τ1 b = mJ τ b := fun b hb => by rw [hτ1]; exact mJ_sN (by omega)
      obtain ⟨τ2, hτ2⟩ : ∃ τ2, τ2 = sR (sRr τ1 (mZ τ) (va_cpy (R w) (mR τ1 (mZ τ)) 0 0 c)) (mZ τ) s (some (φ u)) := ⟨_, rfl⟩
      have t2 : mT τ2 (mZ τ) = (106, c + d) := by rw [hτ2]; exact t1
      have z2 : mZ τ2 = mZ τ + 1 := by rw [hτ2]; exact z1
      have j2 : ∀ b, b < mZ τ → mJ τ2 b = mJ τ b := fun b hb => by rw [hτ2]; exact j1 b hb
      have r2 : mR τ2 (mZ τ) s = some (φ u) := by rw [hτ2]; exact up2_at
      have rz2 : ∀ k, s < k → mR τ2 (mZ τ) k = none := by
        intro k hk
        rw [hτ2, mR_sR, up2_k (by omega)]
        show rowS (mR τ1) (mZ τ) (va_cpy (R w) (mR τ1 (mZ τ)) 0 0 c) (mZ τ) k = _
        rw [rowS_hit]; unfold va_cpy; rw [if_neg (by omega), hτ1]; exact mR_sN_at
      have r2' : ∀ k, k < s → mR τ2 (mZ τ) k = R w k := by
        intro k hk
        rw [hτ2, mR_sR, up2_k (by omega)]
        show rowS (mR τ1) (mZ τ) (va_cpy (R w) (mR τ1 (mZ τ)) 0 0 c) (mZ τ) k = _
        rw [rowS_hit]; unfold va_cpy; rw [if_pos ⟨by omega, by omega⟩]; congr 1; omega
      obtain ⟨e1, e2⟩ := pt_take (I := up2 I1 l 2 (Int32.ofNat (s + 1))) (R := up2 R l 1 (some (mZ τ))) w hj hoZ (by rw [t2]; simp)
      rw [t2] at e1 e2
      refine ⟨rowS φ w (mZ τ), rowS T w (106, c + d), rowS (up2 I1 l 2 (Int32.ofNat (s + 1))) w (mI τ2 (mZ τ)), rowS (up2 R l 1 (some (mZ τ))) w (mR τ2 (mZ τ)), pt φ T (up2 I1 l 2 (Int32.ofNat (s + 1))) (up2 R l 1 (some (mZ τ))) τ2, c + d, ?_, e1, ?_, ⟨by omega, by omega⟩, rowS_hit, fun v hv => ⟨rowS_ne hv, rowS_ne hv⟩, fun v h h' => by rw [rowS_ne h]; exact kI v h', by rw [rowS_ne hlw]; exact up2_at, fun k h0 h2 => by rw [rowS_ne hlw]; exact kI2 k h0 h2, fun v h h' => by rw [rowS_ne h, up2_row h'], fun k hk => by rw [rowS_ne hlw, up2_k hk], by rw [rowS_ne hlw, up2_at, rowS_hit], fun k hk => by rw [rowS_hit]; exact r2' k hk, by rw [rowS_hit]; exact r2, by show mZ τ ≤ mZ τ2; omega, j2, fun k hk _ _ => by rw [rowS_hit]; exact rz2 k hk⟩
      · rw [← e2]
        refine F _ _ _ _ ?_
        have hTw1 : (T w).1 = 100 + 6 := by rw [hTw]
        have GC : ∀ (K : Option Nat → Option (Option Nat × Mem)), gC mi (pt φ T I1 R τ) (some (φ w)) K = K (some mi) := by
          intro K
          rw [gC, if_pos (Or.inl (by rw [mT_pt hj (by rw [hTw]; simp)]; exact hTw1))]
        have CP : ∀ (K : Mem → Option (Option Nat × Mem)), cpR (pt φ T I1 R τ1) (some (φ w)) 0 (some (mZ τ)) 0 (Int32.ofNat c) K = K (pt φ T I1 R (sRr τ1 (mZ τ) (va_cpy (R w) (mR τ1 (mZ τ)) 0 0 c))) := by
          intro K
          rw [cpR_new hj hoZ hTw t1 (by decide) (by decide) n02 (by rw [tnc, tn0]; omega) (by rw [tnc, tn0]; omega) (fun i hi y hy => by
            rw [tnc] at hi
            rw [tn0, Nat.zero_add] at hy
            obtain ⟨u', hu1, hu2⟩ := hel i (by omega)
            rw [hu1] at hy
            cases hy
            exact el_pt hj hu2), tnc]
          rfl
        have NA : ∀ (K : Mem → Option Nat → Option (Option Nat × Mem)), nA 6 22 (pt φ T I1 R τ) (Int32.ofNat (c + d)) K = K (pt φ T I1 R τ1) (some (mZ τ)) := by
          intro K
          rw [nA_off hoZ n03 (by rw [tncd]; omega), tncd, hτ1]
        have i12' : I1 l 2 = Int32.ofNat c := by rw [i12, cs]
        have G : f_Jx4a65c_grow_d5877 e0 mi (φ l) (pt φ T I1 R τ) = some (some (mZ τ), pt φ T I1 (up2 R l 1 (some (mZ τ))) (sRr τ1 (mZ τ) (va_cpy (R w) (mR τ1 (mZ τ)) 0 0 c))) := by
          simp (config := {decide := true}) only [f_Jx4a65c_grow_d5877, b_Jx4a65c_grow_d5877_0, f_Jx4a65c_grow_92f84, b_Jx4a65c_grow_92f84_0, b_Jx4a65c_grow_92f84_20, f_J7_copyOf_1904c, b_J7_copyOf_1904c_0, f_J7_copyOf_6403c, b_J7_copyOf_6403c_0, aLe_pt hj hwe hTw, GC, NA, CP, ND, hr, i12', kN_s, n04, n05, n06, gI_pt hj, gR_pt hj, ob_pt hj, ck_pt hj, pI_pt hj, pB_pt hj, pR_pt hj, aI_pt hj, aR_pt hj, wI_pt hj, wJ_pt hj, aL_pt hj, cl1_s, cl1_n, cl1_i, cx1_s, cx1_x, cx1_n, cx1_i, nul_n, nul_s, nm, dv2, dv3, dv4, dv5, dv8, dv10, dv20, dv40, thr, bo, mI_pt hj, mT_pt hj, sB_pt, mZ_pt, mJ_pt, mJ_sJ, mZ_sJ, tn0, tn1, tn2, tn3, tn4, tn5, tn6, hlk, ii0, ii1, ii2, ii3, ii4, if_true, if_false, ne_eq, not_false_eq_true, not_true_eq_false, true_and, and_true, false_and, and_false, and_self, true_or, or_true, false_or, or_false, or_self, Nat.reduceAdd, Nat.reduceLT, Nat.reduceLeDiff, Nat.succ_ne_zero, reduceIte, reduceCtorEq]
        have W : ∀ (K : Mem → Option (Unit × Mem)), wR 6 (pt φ T I1 (up2 R l 1 (some (mZ τ))) (sRr τ1 (mZ τ) (va_cpy (R w) (mR τ1 (mZ τ)) 0 0 c))) (some (mZ τ)) (Int32.ofNat s) (some (φ u)) K = K (pt φ T I1 (up2 R l 1 (some (mZ τ))) τ2) := by
          intro K
          have tt : mT (sRr τ1 (mZ τ) (va_cpy (R w) (mR τ1 (mZ τ)) 0 0 c)) (mZ τ) = (106, c + d) := t1
          rw [wR_off hoZ (by rw [tt]) n01 (by rw [tt, tns]; show s < c + d; omega) (fun y hy => by cases hy; exact el_pt hj hu), hτ2, tns]
        have css : Int32.ofNat s = Int32.ofNat c := by rw [cs]
        simp (config := {decide := true}) only [f_Jx4a65c_add_72be8, b_Jx4a65c_add_72be8_0, b_Jx4a65c_add_72be8_11, gI_pt hj, gR_pt hj, ob_pt hj, ck_pt hj, pI_pt hj, pB_pt hj, pR_pt hj, aI_pt hj, aR_pt hj, wI_pt hj, wJ_pt hj, aL_pt hj, cl1_s, cl1_n, cl1_i, cx1_s, cx1_x, cx1_n, cx1_i, nul_n, nul_s, nm, dv2, dv3, dv4, dv5, dv8, dv10, dv20, dv40, thr, bo, hr, aLe_pt hj hwe hTw, css, G, mI_pt hj, mT_pt hj, sB_pt, mZ_pt, mJ_pt, mJ_sJ, mZ_sJ, tn0, tn1, tn2, tn3, tn4, tn5, tn6, hlk, ii0, ii1, ii2, ii3, ii4, if_true, if_false, ne_eq, not_false_eq_true, not_true_eq_false, true_and, and_true, false_and, and_false, and_self, true_or, or_true, false_or, or_false, or_self, Nat.reduceAdd, Nat.reduceLT, Nat.reduceLeDiff, Nat.succ_ne_zero, reduceIte, reduceCtorEq]
        rw [← css]
        simp (config := {decide := true}) only [W, gI_pt hj, gR_pt hj, ob_pt hj, ck_pt hj, pI_pt hj, pB_pt hj, pR_pt hj, aI_pt hj, aR_pt hj, wI_pt hj, wJ_pt hj, aL_pt hj, cl1_s, cl1_n, cl1_i, cx1_s, cx1_x, cx1_n, cx1_i, nul_n, nul_s, nm, dv2, dv3, dv4, dv5, dv8, dv10, dv20, dv40, thr, bo, mI_pt hj, mT_pt hj, sB_pt, mZ_pt, mJ_pt, mJ_sJ, mZ_sJ, tn0, tn1, tn2, tn3, tn4, tn5, tn6, hlk, kN_s, ii0, ii1, ii2, ii3, ii4, if_true, if_false, ne_eq, not_false_eq_true, not_true_eq_false, true_and, and_true, false_and, and_false, and_self, true_or, or_true, false_or, or_false, or_self, Nat.reduceAdd, Nat.reduceLT, Nat.reduceLeDiff, Nat.succ_ne_zero, reduceIte, reduceCtorEq]
      · show live _ _ (mZ τ2)
        rw [z2]; exact (show live T φ (mZ τ + 1) from hl.B).take (Nat.lt_succ_self _)
    · -- room is left
      have c1 : ¬ Int32.ofNat s = Int32.ofNat c := by rw [kN_eq (by omega) (by omega)]; exact cs
      refine ⟨φ, T, up2 I1 l 2 (Int32.ofNat (s + 1)), up2 R w s (some (φ u)), τ, c, ?_, hj, hl, ⟨by omega, hc⟩, hTw, fun v hv => ⟨rfl, rfl⟩, fun v _ h' => kI v h', up2_at, kI2, fun v h _ => up2_row h, fun k hk => by rw [up2_row hlw], by rw [up2_row hlw]; exact hr, fun k hk => up2_k (by omega), up2_at, Nat.le_refl _, fun _ _ => rfl, fun k hk h1 h2 => by rw [up2_k (by omega)]; exact h2 h1⟩
      refine F _ _ _ _ ?_
      have W : ∀ (K : Mem → Option (Unit × Mem)), wR 6 (pt φ T I1 R τ) (some (φ w)) (Int32.ofNat s) (some (φ u)) K = K (pt φ T I1 (up2 R w s (some (φ u))) τ) := by
        intro K
        rw [wR_pt hj (by rw [hTw]) n01 (by rw [hTw, tns]; show s < c; omega) (fun y hy => by cases hy; exact el_pt hj hu), tns]
      simp (config := {decide := true}) only [f_Jx4a65c_add_72be8, b_Jx4a65c_add_72be8_0, b_Jx4a65c_add_72be8_11, gI_pt hj, gR_pt hj, ob_pt hj, ck_pt hj, pI_pt hj, pB_pt hj, pR_pt hj, aI_pt hj, aR_pt hj, wI_pt hj, wJ_pt hj, aL_pt hj, cl1_s, cl1_n, cl1_i, cx1_s, cx1_x, cx1_n, cx1_i, nul_n, nul_s, nm, dv2, dv3, dv4, dv5, dv8, dv10, dv20, dv40, thr, bo, hr, aLe_pt hj hwe hTw, c1, W, mI_pt hj, mT_pt hj, sB_pt, mZ_pt, mJ_pt, mJ_sJ, mZ_sJ, tn0, tn1, tn2, tn3, tn4, tn5, tn6, hlk, kN_s, ii0, ii1, ii2, ii3, ii4, if_true, if_false, ne_eq, not_false_eq_true, not_true_eq_false, true_and, and_true, false_and, and_false, and_self, true_or, or_true, false_or, or_false, or_self, Nat.reduceAdd, Nat.reduceLT, Nat.reduceLeDiff, Nat.succ_ne_zero, reduceIte, reduceCtorEq]
end LS

/-! the shape rests on few places -/
section FR
variable {φ φ' : Nat → Nat} {T T' : Nat → Nat × Nat} {I I' : Nat → Nat → Int32} {R R' : Nat → Nat → Option Nat} {e0 nS nL cS cL n z : Nat} {mx : Nat → Int32} {cB : Nat → Nat} {bl : Nat → List (Nat × Int32)}
theorem SX.frame (h : SX φ T R) (fP : ∀ v, v < 121 → φ' v = φ v) (fT : ∀ v, v < 121 → T' v = T v) (fR : ∀ v, v < 121 → R' v = R v) : SX φ' T' R' := by
  obtain ⟨hx0, hx1, hx2, hx3, hx4, hx5, hx6, hx7, hx8, hx9, hx10, hx11, hx12, hx13, hx14, hx15, hx16, hx17, hx18, hx19, hx20, hx21, hx22, hx23, hx24, hx25, hx26, hx27⟩ := h
  refine ⟨?_, ?_, ?_, ?_, ?_, ?_, ?_, ?_, ?_, ?_, ?_, ?_, ?_, ?_, ?_, ?_, ?_, ?_, ?_, ?_, ?_, ?_, ?_, ?_, ?_, ?_, ?_, ?_⟩
  · simp (disch := omega) only [fP, fT, fR]; exact hx0
  · simp (disch := omega) only [fP, fT, fR]; exact hx1
  · simp (disch := omega) only [fP, fT, fR]; exact hx2
  · simp (disch := omega) only [fP, fT, fR]; exact hx3
  · simp (disch := omega) only [fP, fT, fR]; exact hx4
  · simp (disch := omega) only [fP, fT, fR]; exact hx5
  · simp (disch := omega) only [fP, fT, fR]; exact hx6
  · simp (disch := omega) only [fP, fT, fR]; exact hx7
  · simp (disch := omega) only [fP, fT, fR]; exact hx8
  · simp (disch := omega) only [fP, fT, fR]; exact hx9
  · intro i hi; simp (disch := omega) only [fP, fT, fR]; exact hx10 i hi
  · intro i hi; simp (disch := omega) only [fP, fT, fR]; exact hx11 i hi
  · intro i hi; simp (disch := omega) only [fP, fT, fR]; exact hx12 i hi
  · intro i hi; simp (disch := omega) only [fP, fT, fR]; exact hx13 i hi
  · intro i hi; simp (disch := omega) only [fP, fT, fR]; exact hx14 i hi
  · intro i hi; simp (disch := omega) only [fP, fT, fR]; exact hx15 i hi
  · intro i hi; simp (disch := omega) only [fP, fT, fR]; exact hx16 i hi
  · intro i hi; simp (disch := omega) only [fP, fT, fR]; exact hx17 i hi
  · intro i hi; simp (disch := omega) only [fP, fT, fR]; exact hx18 i hi
  · intro i hi; simp (disch := omega) only [fP, fT, fR]; exact hx19 i hi
  · intro i hi; simp (disch := omega) only [fP, fT, fR]; exact hx20 i hi
  · intro i hi; simp (disch := omega) only [fP, fT, fR]; exact hx21 i hi
  · intro i hi; simp (disch := omega) only [fP, fT, fR]; exact hx22 i hi
  · intro i hi; simp (disch := omega) only [fP, fT, fR]; exact hx23 i hi
  · intro i hi; simp (disch := omega) only [fP, fT, fR]; exact hx24 i hi
  · intro i hi; simp (disch := omega) only [fP, fT, fR]; exact hx25 i hi
  · intro i hi; simp (disch := omega) only [fP, fT, fR]; exact hx26 i hi
  · intro i hi; simp (disch := omega) only [fP, fT, fR]; exact hx27 i hi
end FR
