/-! SORT: a list put behind a list -/
section S3
variable {β : Type} {φ : Nat → Nat} {T : Nat → Nat × Nat} {I J : Nat → Nat → Int32} {R : Nat → Nat → Option Nat} {τ : Mem} {e0 mi a l w c s k z u v t : Nat} {i p sp dp n : Int32} {r : Option Nat}
theorem cpR_pt (hj : Inj φ T) {K : Mem → Option β} {c' : Nat} (h : T v = (106, c)) (ha : T w = (106, c')) (h1 : ¬ sp < 0) (h2 : ¬ dp < 0) (h3 : ¬ n < 0) (h4 : sp.toNatClampNeg + n.toNatClampNeg ≤ c) (h5 : dp.toNatClampNeg + n.toNatClampNeg ≤ c') (he : ∀ i, i < n.toNatClampNeg → ∀ y, R v (sp.toNatClampNeg + i) = some y → elOK 6 (pt φ T I R τ) y) : cpR (pt φ T I R τ) (some (φ v)) sp (some (φ w)) dp n K = K (pt φ T I (rowS R w (va_cpy (R v) (R w) sp.toNatClampNeg dp.toNatClampNeg n.toNatClampNeg)) τ) := by
  have hv : (T v).1 ≠ 0 := by rw [h]; simp
  have hw : (T w).1 ≠ 0 := by rw [ha]; simp
  have e1 : mT (pt φ T I R τ) (φ v) = (106, c) := by rw [mT_pt hj hv, h]
  have e2 : mT (pt φ T I R τ) (φ w) = (106, c') := by rw [mT_pt hj hw, ha]
  have e3 : mR (pt φ T I R τ) (φ v) = R v := mR_pt hj hv
  have e4 : mR (pt φ T I R τ) (φ w) = R w := mR_pt hj hw
  simp only [cpR]
  rw [if_pos ⟨Or.inl (by rw [e1]), by rw [e2], ⟨h1, h2, h3⟩, by rw [e1]; exact h4, by rw [e2]; exact h5, by rw [e3]; exact he⟩, e3, e4, sRr_pt hj hw]
theorem nlen2 (σ : Mem) {c m : Nat} (h1 : 1 ≤ c) (h2 : c ≤ 15) (h3 : 1 ≤ m) (h4 : m ≤ 3) : ∃ d, d ≤ 7 ∧ m ≤ d ∧ f_J8_newLength_cabcc (Int32.ofNat c) (Int32.ofNat m) (Int32.ofNat c >>> (1 &&& 31)) σ = some (Int32.ofNat (c + d), σ) := by
  have key : ∀ c : Fin 16, ∀ m : Fin 4, (max m.val (c.val / 2) ≤ 7) ∧ Int32.ofNat c.val + (if (Int32.ofNat m.val) < (Int32.ofNat c.val >>> (1 &&& 31)) then (Int32.ofNat c.val >>> (1 &&& 31)) else Int32.ofNat m.val) = Int32.ofNat (c.val + max m.val (c.val / 2)) ∧ ¬ 2147483639 < Int32.ofNat (c.val + max m.val (c.val / 2)) := by decide
  obtain ⟨k1, k2, k4⟩ := key ⟨c, by omega⟩ ⟨m, by omega⟩
  have k1' : max m (c / 2) ≤ 7 := k1
  refine ⟨max m (c / 2), k1, Nat.le_max_left _ _, ?_⟩
  have k3 : ¬ Int32.ofNat (c + max m (c / 2)) ≤ 0 := by
    rw [show (0 : Int32) = Int32.ofNat 0 from rfl, kN_le (by omega) (by omega)]; omega
  simp only [f_J8_newLength_cabcc, b_J8_newLength_cabcc_0, nm]
  rw [k2, if_neg k3, if_neg k4]
theorem copy_arr (hj : Inj φ T) (hl : live T φ (mZ τ)) (tw : T w = (106, c)) (hwe : φ w ≠ e0) {m : Nat} (hm : m ≤ 22) (hc : c ≤ 22) (hel : ∀ k, k < m → k < c → R w k = none ∨ ∃ u', R w k = some (φ u') ∧ ((T u').1 = 8 ∨ (T u').1 = 9 ∨ (T u').1 = 100)) : ∃ τ2, f_J7_copyOf_1904c e0 mi (some (φ w)) (Int32.ofNat m) (pt φ T I R τ) = some (some (mZ τ), pt φ T I R τ2) ∧ mT τ2 (mZ τ) = (106, m) ∧ (∀ k, k < m → k < c → mR τ2 (mZ τ) k = R w k) ∧ (∀ k, c ≤ k → mR τ2 (mZ τ) k = none) ∧ Kp (mZ τ) τ τ2 ∧ mZ τ2 = mZ τ + 1 := by
  have hoZ : Off φ T (mZ τ) := Off.of hl (Nat.le_refl _)
  obtain ⟨τ1, hτ1⟩ : ∃ τ1, τ1 = sN τ (106, m) := ⟨_, rfl⟩
  have t1 : mT τ1 (mZ τ) = (106, m) := by rw [hτ1]; exact mT_sN_at
  have z1 : mZ τ1 = mZ τ + 1 := by rw [hτ1]; rfl
  have r1 : ∀ k, mR τ1 (mZ τ) k = none := fun k => by rw [hτ1]; exact mR_sN_at
  obtain ⟨x, hx⟩ : ∃ x, x = if m < c then m else c := ⟨_, rfl⟩
  have xm : x ≤ m := by rw [hx]; split <;> omega
  have xc : x ≤ c := by rw [hx]; split <;> omega
  have tx : (Int32.ofNat x).toNatClampNeg = x := tnK (by omega)
  have tm : (Int32.ofNat m).toNatClampNeg = m := tnK (by omega)
  have ix : (if Int32.ofNat m < Int32.ofNat c then Int32.ofNat m else Int32.ofNat c) = Int32.ofNat x := by
    by_cases q : m < c
    · rw [if_pos ((kN_lt (by omega) (by omega)).mpr q), hx, if_pos q]
    · rw [if_neg (fun y => q ((kN_lt (by omega) (by omega)).mp y)), hx, if_neg q]
  have GC : ∀ (K : Option Nat → Option (Option Nat × Mem)), gC mi (pt φ T I R τ) (some (φ w)) K = K (some mi) := by
    intro K
    rw [gC, if_pos (Or.inl (by rw [mT_pt hj (by rw [tw]; simp)]; rw [tw]))]
  have NA : ∀ (K : Mem → Option Nat → Option (Option Nat × Mem)), nA 6 22 (pt φ T I R τ) (Int32.ofNat m) K = K (pt φ T I R τ1) (some (mZ τ)) := by
    intro K
    rw [nA_off hoZ (kN_nn (by omega)) (by rw [tm]; omega), tm, hτ1]
  have CP : ∀ (K : Mem → Option (Option Nat × Mem)), cpR (pt φ T I R τ1) (some (φ w)) 0 (some (mZ τ)) 0 (Int32.ofNat x) K = K (pt φ T I R (sRr τ1 (mZ τ) (va_cpy (R w) (mR τ1 (mZ τ)) 0 0 x))) := by
    intro K
    rw [cpR_new hj hoZ tw t1 (by decide) (by decide) (kN_nn (by omega)) (by rw [tx, tn0]; omega) (by rw [tx, tn0]; omega) (fun i hi y hy => by
      rw [tx] at hi
      rw [tn0, Nat.zero_add] at hy
      rcases hel i (by omega) (by omega) with y1 | ⟨u', hu1, hu2⟩
      · rw [y1] at hy; cases hy
      · rw [hu1] at hy
        cases hy
        exact el_pt hj hu2), tx]
    rfl
  refine ⟨sRr τ1 (mZ τ) (va_cpy (R w) (mR τ1 (mZ τ)) 0 0 x), ?_, t1, fun k k1 k2 => ?_, fun k k1 => ?_, ?_, z1⟩
  · rw [f_J7_copyOf_1904c, b_J7_copyOf_1904c_0, GC, f_J7_copyOf_6403c, b_J7_copyOf_6403c_0, if_pos rfl, NA, aLe_pt hj hwe tw, nm, ix, CP, cl1_s]
  · show rowS (mR τ1) (mZ τ) _ (mZ τ) k = _
    rw [rowS_hit]; unfold va_cpy; rw [if_pos ⟨by omega, by rw [hx]; split <;> omega⟩]; congr 1; omega
  · show rowS (mR τ1) (mZ τ) _ (mZ τ) k = _
    rw [rowS_hit]; unfold va_cpy; rw [if_neg (by omega)]; exact r1 k
  · have K1 : Kp (mZ τ) τ τ1 := by rw [hτ1]; exact Kp.sN (Nat.le_refl _)
    refine K1.trans ⟨Nat.le_refl _, fun b hb => ⟨rfl, ?_, rfl, rfl⟩⟩
    show rowS (mR τ1) (mZ τ) _ b = _
    rw [rowS_ne (by omega)]
theorem list_addAll {l2 w2 c2 m : Nat} {uu : Nat → Nat} (hj : Inj φ T) (hl : live T φ (mZ τ)) (h1 : T l = (2, 0)) (hlw : l ≠ w) (hs : I l 2 = Int32.ofNat s) (hsc : s ≤ c) (s1 : 1 ≤ s) (hm1 : 1 ≤ m) (hm3 : m ≤ 3) (hsm : s + m ≤ 16) (hc : c ≤ 22) (hr : R l 1 = some (φ w)) (hT : T w = (106, c)) (h123 : T 123 = (300, 0)) (h123' : φ 123 = e0) (hw : w ≠ 123) (hel : ∀ k, k < c → R w k = none ∨ ∃ u', u' ≠ 402 ∧ R w k = some (φ u') ∧ ((T u').1 = 8 ∨ (T u').1 = 9 ∨ (T u').1 = 100))
    (g1 : T l2 = (2, 0)) (g2 : I l2 2 = Int32.ofNat m) (g3 : R l2 1 = some (φ w2)) (g4 : T w2 = (106, c2)) (g5 : m ≤ c2) (g6 : c2 ≤ 22) (g7 : ∀ k, k < m → R w2 k = some (φ (uu k)) ∧ ((T (uu k)).1 = 8 ∨ (T (uu k)).1 = 9 ∨ (T (uu k)).1 = 100)) (n1 : w2 ≠ 123) (n2 : l ≠ 402) (n3 : w ≠ 402) (n4 : ∀ k, k < m → uu k ≠ 402 ∧ uu k ≠ w) (n5 : l2 ≠ l) (n6 : l2 ≠ 402) (n7 : l2 ≠ w) (n8 : (402 : Nat) ≠ 123) :
    ∃ φ' T' I' R' τ' c', f_Jx4a65c_addAll_f0b43 e0 mi (φ l) (some (φ l2)) (pt φ T I R τ) = some (1, pt φ' T' I' R' τ') ∧ Inj φ' T' ∧ live T' φ' (mZ τ') ∧ (s + m ≤ c' ∧ c' ≤ 22) ∧ T' w = (106, c') ∧ (∀ v, v ≠ w → v ≠ 402 → φ' v = φ v ∧ T' v = T v) ∧ (∀ v, v ≠ w → v ≠ 402 → v ≠ l → I' v = I v) ∧ I' l 2 = Int32.ofNat (s + m) ∧ (∀ v, v ≠ w → v ≠ 402 → v ≠ l → R' v = R v) ∧ (∀ k, k ≠ 1 → R' l k = R l k) ∧ R' l 1 = some (φ' w) ∧ (∀ k, k < s → R' w k = R w k) ∧ (∀ k, k < m → R' w (s + k) = some (φ (uu k))) ∧ (∀ k, s + m ≤ k → k < c' → (k < c → R w k = none) → R' w k = none) ∧ KJ τ τ' := by
  have hlk : (T l).1 = 1 + 1 := by rw [h1]
  have hwe : φ w ≠ e0 := by
    rw [← h123']; exact fun q => hw (hj w 123 (by rw [hT]; simp) (by rw [h123]; decide) q)
  have hwe2 : φ w2 ≠ e0 := by
    rw [← h123']; exact fun q => n1 (hj w2 123 (by rw [g4]; simp) (by rw [h123]; decide) q)
  -- the array
  obtain ⟨τ2, C1, C2, C3, C4, C5, C6⟩ := copy_arr (e0 := e0) (mi := mi) (I := I) (R := R) (m := m) hj hl g4 hwe2 (by omega) g6 (fun k k1 k2 => Or.inr ⟨uu k, (g7 k k1).1, (g7 k k1).2⟩)
  obtain ⟨φ1, T1, J1, R1, τ3, eq1, inj1, live1, ph1, pT1, pI1, pR1, aP1, aT1, aI1, aR1, zz1, of1, jj1⟩ := take1 (I := I) (R := R) 402 hj hl (Nat.le_refl _) C2 (by decide)
  have TA : f_Jx4a65c_toArray_d5877 e0 mi (φ l2) (pt φ T I R τ) = some (some (φ1 402), pt φ1 T1 J1 R1 τ3) := by
    rw [f_Jx4a65c_toArray_d5877, b_Jx4a65c_toArray_d5877_0, gR_pt hj (by rw [g1]), g3, gI_pt hj (by rw [g1]), g2, C1, cl1_s, eq1, ph1]
  have zz3 : mZ τ3 = mZ τ + 1 := by rw [zz1, C6]
  have live1' : live T1 φ1 (mZ τ3) := by rw [zz3]; exact live1
  have e402 : φ1 402 ≠ e0 := by
    rw [← h123', ← aP1 123 (Ne.symm n8)]
    exact fun q => n8 (inj1 402 123 (by rw [pT1]; simp) (by rw [aT1 _ (Ne.symm n8), h123]; decide) q)
  have r402 : ∀ k, k < m → R1 402 k = some (φ1 (uu k)) := fun k hk => by
    rw [pR1, C3 k hk (by omega), (g7 k hk).1, aP1 _ (n4 k hk).1]
  have tl1 : (T1 l).1 = 1 + 1 := by rw [aT1 l n2, h1]
  have pl1 : φ l = φ1 l := (aP1 l n2).symm
  obtain ⟨J2, hJ2⟩ : ∃ J2, J2 = up2 J1 l 0 (J1 l 0 + 1) := ⟨_, rfl⟩
  have f2 : ∀ v, v ≠ l → J2 v = J1 v := fun v h => by rw [hJ2, up2_row h]
  have s2 : J2 l 2 = Int32.ofNat s := by rw [hJ2, up2_k (by decide), aI1 l n2, hs]
  have rl1 : R1 l 1 = some (φ1 w) := by rw [aR1 l n2, hr, aP1 w n3]
  have tw1 : T1 w = (106, c) := by rw [aT1 w n3, hT]
  have we1 : φ1 w ≠ e0 := by rw [aP1 w n3]; exact hwe
  have nm0 : ¬ Int32.ofNat m = 0 := by rw [show (0 : Int32) = Int32.ofNat 0 from rfl, kN_eq (by omega) (by omega)]; omega
  have tm : (Int32.ofNat m).toNatClampNeg = m := tnK (by omega)
  have ts : (Int32.ofNat s).toNatClampNeg = s := tnK (by omega)
  have BE : ∀ (φ2 : Nat → Nat) (T2 : Nat → Nat × Nat) (J3 : Nat → Nat → Int32) (R3 : Nat → Nat → Option Nat) (τ4 : Mem) (c' : Nat), Inj φ2 T2 → T2 402 = (106, m) → T2 w = (106, c') → s + m ≤ c' → (∀ k, k < m → R3 402 k = some (φ2 (uu k))) → (∀ k, k < m → (T2 (uu k)).1 = 8 ∨ (T2 (uu k)).1 = 9 ∨ (T2 (uu k)).1 = 100) → (T2 l).1 = 1 + 1 → b_Jx4a65c_addAll_f0b43_56 e0 mi (φ2 l) (some (φ2 402)) (Int32.ofNat m) (some (φ2 w)) (Int32.ofNat s) (pt φ2 T2 J3 R3 τ4) = some (1, pt φ2 T2 (up2 J3 l 2 (Int32.ofNat (s + m))) (rowS R3 w (va_cpy (R3 402) (R3 w) 0 s m)) τ4) := by
    intro φ2 T2 J3 R3 τ4 c' y1 y2 y3 y4 y5 y6 y7
    rw [b_Jx4a65c_addAll_f0b43_56, cpR_pt y1 y2 y3 (by decide) (kN_nn (by omega)) (kN_nn (by omega)) (by rw [tm, tn0]; omega) (by rw [tm, ts]; omega) (fun i hi y hy => by
      rw [tm] at hi
      rw [tn0, Nat.zero_add, y5 i hi] at hy
      cases hy
      exact el_pt y1 (y6 i hi)), tm, ts, tn0, nm, ← Int32.ofNat_add, pI_pt y1 y7]; rfl
  have START : ∀ {X : Option (Int32 × Mem)}, (if Int32.ofNat m ≤ Int32.ofNat c - Int32.ofNat s then b_Jx4a65c_addAll_f0b43_56 e0 mi (φ1 l) (some (φ1 402)) (Int32.ofNat m) (some (φ1 w)) (Int32.ofNat s) (pt φ1 T1 J2 R1 τ3) else cl1 (f_Jx4a65c_grow_92f84 e0 mi (φ1 l) (Int32.ofNat (s + m)) (pt φ1 T1 J2 R1 τ3)) fun r16 σ17 => b_Jx4a65c_addAll_f0b43_56 e0 mi (φ1 l) (some (φ1 402)) (Int32.ofNat m) r16 (Int32.ofNat s) σ17) = X → f_Jx4a65c_addAll_f0b43 e0 mi (φ l) (some (φ l2)) (pt φ T I R τ) = X := by
    intro X hX
    rw [f_Jx4a65c_addAll_f0b43, b_Jx4a65c_addAll_f0b43_0, ob_pt hj (by rw [g1]), TA, cl1_s, pl1, gI_pt inj1 tl1, nm, pI_pt inj1 tl1, ← hJ2, aLe_pt inj1 e402 pT1, if_neg nm0, gR_pt inj1 tl1, rl1, aLe_pt inj1 we1 tw1, gI_pt inj1 tl1, s2, nm, nm, ob_pt inj1 tl1, ← Int32.ofNat_add]
    exact hX
  have cs : (Int32.ofNat c - Int32.ofNat s).toInt = c - s := by rw [tSub (by rw [kN_t (by omega), kN_t (by omega)]; omega) (by rw [kN_t (by omega), kN_t (by omega)]; omega), kN_t (by omega), kN_t (by omega)]
  have kT : ∀ k, k < m → (T1 (uu k)).1 = 8 ∨ (T1 (uu k)).1 = 9 ∨ (T1 (uu k)).1 = 100 := fun k hk => by rw [aT1 _ (n4 k hk).1]; exact (g7 k hk).2
  have jK : ∀ b, b < mZ τ → mJ τ3 b = mJ τ b := fun b hb => by rw [jj1, (C5.2 b hb).2.2.1]
  have cpy1 : ∀ (f g : Nat → Option Nat) k, k < s → va_cpy f g 0 s m k = g k := fun f g k hk => by unfold va_cpy; rw [if_neg (by omega)]
  have cpy2 : ∀ (f g : Nat → Option Nat) k, k < m → va_cpy f g 0 s m (s + k) = f k := fun f g k hk => by unfold va_cpy; rw [if_pos ⟨by omega, by omega⟩]; congr 1; omega
  have cpy3 : ∀ (f g : Nat → Option Nat) k, s + m ≤ k → va_cpy f g 0 s m k = g k := fun f g k hk => by unfold va_cpy; rw [if_neg (by omega)]
  by_cases room : s + m ≤ c
  · have c1 : Int32.ofNat m ≤ Int32.ofNat c - Int32.ofNat s := by rw [Int32.le_iff_toInt_le, cs, kN_t (by omega)]; omega
    refine ⟨φ1, T1, up2 J2 l 2 (Int32.ofNat (s + m)), rowS R1 w (va_cpy (R1 402) (R1 w) 0 s m), τ3, c, START (by rw [if_pos c1]; exact BE φ1 T1 J2 R1 τ3 c inj1 pT1 tw1 room r402 kT tl1), inj1, live1', ⟨room, hc⟩, tw1, fun v h h' => ⟨aP1 v h', aT1 v h'⟩, fun v h h' h'' => by rw [up2_row h'', f2 v h'', aI1 v h'], up2_at, fun v h h' h'' => by rw [rowS_ne h, aR1 v h'], fun k hk => by rw [rowS_ne hlw, aR1 l n2], by rw [rowS_ne hlw]; exact rl1, fun k hk => by rw [rowS_hit, cpy1 _ _ k hk, aR1 w n3], fun k hk => by rw [rowS_hit, cpy2 _ _ k hk, r402 k hk, aP1 _ (n4 k hk).1], fun k hk h h' => by rw [rowS_hit, cpy3 _ _ k hk, aR1 w n3]; exact h' h, ⟨by rw [zz3]; exact Nat.le_succ _, jK⟩⟩
  · have c1 : ¬ Int32.ofNat m ≤ Int32.ofNat c - Int32.ofNat s := by rw [Int32.le_iff_toInt_le, cs, kN_t (by omega)]; omega
    obtain ⟨d, d7, dm, ND⟩ := nlen2 (c := c) (m := s + m - c) (pt φ1 T1 J2 R1 τ3) (by omega) (by omega) (by omega) (by omega)
    have sm' : Int32.ofNat (s + m) - Int32.ofNat c = Int32.ofNat (s + m - c) := Int32.toInt_inj.mp (by
      rw [tSub (by rw [kN_t (by omega), kN_t (by omega)]; omega) (by rw [kN_t (by omega), kN_t (by omega)]; omega), kN_t (by omega), kN_t (by omega), kN_t (by omega)]; omega)
    obtain ⟨τ4, D1, D2, D3, D4, D5, D6⟩ := copy_arr (e0 := e0) (mi := mi) (I := J2) (R := R1) (m := c + d) inj1 live1' tw1 we1 (by omega) hc (fun k k1 k2 => by
      rw [aR1 w n3]
      rcases hel k k2 with y | ⟨u', y0, y1, y2⟩
      · exact Or.inl y
      · refine Or.inr ⟨u', ?_⟩
        rw [aP1 u' y0, aT1 u' y0]; exact ⟨y1, y2⟩)
    have c0 : (0 : Int32) < Int32.ofNat c := (kN_lt (a := 0) (by omega) (by omega)).mpr (by omega)
    have GROW : f_Jx4a65c_grow_92f84 e0 mi (φ1 l) (Int32.ofNat (s + m)) (pt φ1 T1 J2 R1 τ3) = some (some (mZ τ3), pt φ1 T1 J2 (up2 R1 l 1 (some (mZ τ3))) τ4) := by
      rw [f_Jx4a65c_grow_92f84, b_Jx4a65c_grow_92f84_0, gR_pt inj1 tl1, rl1, aLe_pt inj1 we1 tw1, if_pos c0, b_Jx4a65c_grow_92f84_20, nm, nm, sm', ND, cl1_s, gR_pt inj1 tl1, rl1, D1, cl1_s, pR_pt inj1 tl1]
    obtain ⟨φ2, T2, J3, R3, τ5, eq2, inj2, live2, ph2, pT2, pI2, pR2, aP2, aT2, aI2, aR2, zz2, of2, jj2⟩ := take1 (I := J2) (R := up2 R1 l 1 (some (mZ τ3))) w inj1 live1' (Nat.le_refl _) D2 (by simp)
    have n3' : (402 : Nat) ≠ w := Ne.symm n3
    have n2' : (402 : Nat) ≠ l := Ne.symm n2
    have zz5 : mZ τ5 = mZ τ3 + 1 := by rw [zz2, D6]
    have R402 : ∀ k, k < m → R3 402 k = some (φ2 (uu k)) := fun k hk => by rw [aR2 402 n3', up2_row n2', r402 k hk, aP2 _ (n4 k hk).2]
    have FIN := BE φ2 T2 J3 R3 τ5 (c + d) inj2 (by rw [aT2 402 n3']; exact pT1) pT2 (by omega) R402 (fun k hk => by rw [aT2 _ (n4 k hk).2]; exact kT k hk) (by rw [aT2 l hlw]; exact tl1)
    rw [aP2 l hlw, aP2 402 n3', ph2] at FIN
    refine ⟨φ2, T2, up2 J3 l 2 (Int32.ofNat (s + m)), rowS R3 w (va_cpy (R3 402) (R3 w) 0 s m), τ5, c + d, START (by rw [if_neg c1, GROW, cl1_s, eq2]; exact FIN), inj2, by rw [zz5]; exact live2, ⟨by omega, by omega⟩, pT2, fun v h h' => ⟨by rw [aP2 v h, aP1 v h'], by rw [aT2 v h, aT1 v h']⟩, fun v h h' h'' => by rw [up2_row h'', aI2 v h, f2 v h'', aI1 v h'], up2_at, fun v h h' h'' => by rw [rowS_ne h, aR2 v h, up2_row h'', aR1 v h'], fun k hk => by rw [rowS_ne hlw, aR2 l hlw, up2_k hk, aR1 l n2], by rw [rowS_ne hlw, aR2 l hlw, up2_at, ph2], fun k hk => by rw [rowS_hit, cpy1 _ _ k hk, pR2, D3 k (by omega) (by omega), aR1 w n3], fun k hk => by rw [rowS_hit, cpy2 _ _ k hk, R402 k hk, aP2 _ (n4 k hk).2, aP1 _ (n4 k hk).1], fun k hk h h' => by rw [rowS_hit, cpy3 _ _ k hk, pR2]; exact D4 k (by omega), ⟨by rw [zz5, zz3]; omega, fun b hb => by rw [jj2, (D5.2 b (by rw [zz3]; omega)).2.2.1, jK b hb]⟩⟩
end S3

/-! SORT: the reference's graded lots -/
section S4
variable {φ : Nat → Nat} {T : Nat → Nat × Nat} {I : Nat → Nat → Int32} {R : Nat → Nat → Option Nat} {τ : Mem} {e0 nS nL cS cL n z : Nat} {mx : Nat → Int32} {cB : Nat → Nat} {bl : Nat → List (Nat × Int32)}
variable {mi a b w q g k i j t c : Nat} {J J' : Nat → Nat → Int32} {p r d : Int32} {x y u : Nat → Int32} {τ1 : Mem} {f : Nat → Int32}
theorem m_part (σ : Mem) (hg : g < 3) : f_X8_part p (Int32.ofNat g) r σ = some (shV r p g, σ) := by
  rw [f_X8_part, b_X8_part_0, nm, dv40, nm, dv20]
  rcases lt3 hg with rfl | rfl | rfl
  · rw [if_neg (by decide), if_neg (by decide), nm, nm, b_X8_part_40, sub_swap]; rfl
  · rw [if_neg (by decide), if_pos (by decide), b_X8_part_40]; rfl
  · rw [if_pos (by decide), b_X8_part_40]; rfl
theorem dG_congr {u' : Nat → Int32} (e : ∀ k, k < 4 → u k = u' k) : dG r u g = dG r u' g := by
  unfold dG; rw [e 0 (by decide), e 1 (by decide), e 2 (by decide), e 3 (by decide)]
theorem m_gradeL {made : Option Nat} {k20 : Option Nat → Int32 → Option Nat → Int32 → Mem → Option (Option Nat × Mem)} (hj : Inj φ T) (ta : T a = (8, 0)) (ra : R a 1 = some (φ (a + 1))) (tb : T (a + 1) = (100, 4)) (tq : T q = (8, 0)) (rq : R q 1 = some (φ (q + 1))) (tw : T (q + 1) = (100, 4)) (n1 : q ≠ a) (n2 : q ≠ a + 1) (n3 : q + 1 ≠ a) (n4 : q + 1 ≠ a + 1) (hg : g < 3) : ∃ J', l_X8_graded_34 e0 mi k20 5 (some (φ a)) r made (Int32.ofNat g) (some (φ q)) 0 (pt φ T J R τ) = (if dG r (J (a + 1)) g ≤ 0 then k20 (some (φ a)) r made (Int32.ofNat (g + 1)) (pt φ T J' R τ) else ob 1 (pt φ T J' R τ) made fun h27 => cl1 (f_Jx4a65c_add_9ea2d e0 mi h27 (some (φ q)) (pt φ T J' R τ)) fun v25 σ26 => k20 (some (φ a)) r made (Int32.ofNat (g + 1)) σ26) ∧ (∀ v, v ≠ q → v ≠ q + 1 → J' v = J v) ∧ (∀ k, J' q k = if k = 2 then mn (shV r (J a 2) g) (dG r (J (a + 1)) g) else if k = 3 then 0 else if k = 9 then Int32.ofNat g else J q k) ∧ (∀ k, k < 4 → J' (q + 1) k = shV r (J (a + 1) k) g) := by
  have t1 : (T a).1 = 7 + 1 := by rw [ta]
  have t2 : (T (a + 1)).1 = 100 := by rw [tb]
  have t3 : (T q).1 = 7 + 1 := by rw [tq]
  have t4 : (T (q + 1)).1 = 100 := by rw [tw]
  have n5 : q ≠ q + 1 := by omega
  have S := fun (σ : Mem) (p : Int32) => m_part (p := p) (r := r) σ hg
  have ai : ∀ {K : Int32 → Option (Option Nat × Mem)} (J0 : Nat → Nat → Int32) (k : Int32) (m : Nat), J0 (a + 1) = J (a + 1) → ¬ k < 0 → k.toNatClampNeg = m → m < 4 → aI (pt φ T J0 R τ) (some (φ (a + 1))) k K = K (J (a + 1) m) := fun {K} J0 k m h0 h1 h2 h3 => by
    rw [aI_pt hj t2 h1 (by rw [h2, tb]; exact h3), h2, h0]
  have wi : ∀ {K : Mem → Option (Option Nat × Mem)} (J0 : Nat → Nat → Int32) (k : Int32) (m : Nat) (v : Int32), ¬ k < 0 → k.toNatClampNeg = m → m < 4 → wI (pt φ T J0 R τ) (some (φ (q + 1))) k v K = K (pt φ T (up2 J0 (q + 1) m v) R τ) := fun {K} J0 k m v h1 h2 h3 => by
    rw [wI_pt hj t4 h1 (by rw [h2, tw]; exact h3), h2]
  have e0' : (0 : Int32) + 1 = 1 := rfl
  have e1 : (1 : Int32) + 1 = 2 := rfl
  have e2 : (2 : Int32) + 1 = 3 := rfl
  have e3 : (3 : Int32) + 1 = 4 := rfl
  obtain ⟨J1, h1⟩ : ∃ J1, J1 = up2 J (q + 1) 0 (shV r (J (a + 1) 0) g) := ⟨_, rfl⟩
  obtain ⟨J2, h2⟩ : ∃ J2, J2 = up2 J1 (q + 1) 1 (shV r (J (a + 1) 1) g) := ⟨_, rfl⟩
  obtain ⟨J3, h3⟩ : ∃ J3, J3 = up2 J2 (q + 1) 2 (shV r (J (a + 1) 2) g) := ⟨_, rfl⟩
  obtain ⟨J4, h4⟩ : ∃ J4, J4 = up2 J3 (q + 1) 3 (shV r (J (a + 1) 3) g) := ⟨_, rfl⟩
  have f1 : ∀ v, v ≠ q + 1 → J1 v = J v := fun v h => by rw [h1, up2_row h]
  have f2 : ∀ v, v ≠ q + 1 → J2 v = J v := fun v h => by rw [h2, up2_row h, f1 v h]
  have f3 : ∀ v, v ≠ q + 1 → J3 v = J v := fun v h => by rw [h3, up2_row h, f2 v h]
  have f4 : ∀ v, v ≠ q + 1 → J4 v = J v := fun v h => by rw [h4, up2_row h, f3 v h]
  have w4 : ∀ k, k < 4 → J4 (q + 1) k = shV r (J (a + 1) k) g := by
    intro k hk
    rcases (show k = 0 ∨ k = 1 ∨ k = 2 ∨ k = 3 by omega) with rfl | rfl | rfl | rfl
    · rw [h4, up2_k (by decide), h3, up2_k (by decide), h2, up2_k (by decide), h1, up2_at]
    · rw [h4, up2_k (by decide), h3, up2_k (by decide), h2, up2_at]
    · rw [h4, up2_k (by decide), h3, up2_at]
    · rw [h4, up2_at]
  obtain ⟨J5, h5⟩ : ∃ J5, J5 = up2 (up2 (up2 J4 q 2 (mn (shV r (J a 2) g) (dG r (J (a + 1)) g))) q 9 (Int32.ofNat g)) q 3 0 := ⟨_, rfl⟩
  have f5 : ∀ v, v ≠ q → J5 v = J4 v := fun v h => by rw [h5, up2_row h, up2_row h, up2_row h]
  have D4 := mdry (I := J4) (R := R) (τ := τ) hj tq rq tw
  have D5 := mdry (I := J5) (R := R) (τ := τ) hj tq rq tw
  rw [f5 (q + 1) (Ne.symm n5)] at D5
  rw [w4 0 (by decide), w4 1 (by decide), w4 2 (by decide), w4 3 (by decide)] at D4 D5
  have DE : shV r (J (a + 1) 0) g + shV r (J (a + 1) 1) g + shV r (J (a + 1) 2) g + shV r (J (a + 1) 3) g = dG r (J (a + 1)) g := rfl
  rw [DE] at D4 D5
  refine ⟨J5, ?_, fun v y1 y2 => by rw [f5 v y1, f4 v y2], fun k => ?_, fun k hk => by rw [f5 _ (Ne.symm n5)]; exact w4 k hk⟩
  · rw [show (5 : Nat) = 0 + 1 + 1 + 1 + 1 + 1 from rfl, l_X8_graded_34]
    rw [itr_succ, b_X8_graded_34, if_neg (by decide), gR_pt hj t3, rq, gR_pt hj t1, ra, ai J 0 0 rfl (by decide) rfl (by decide), S, cl1_s, wi J 0 0 _ (by decide) rfl (by decide), nm, e0', ← h1]
    rw [itr_succ, b_X8_graded_34, if_neg (by decide), gR_pt hj t3, rq, gR_pt hj t1, ra, ai J1 1 1 (f1 _ (Ne.symm n4)) (by decide) rfl (by decide), S, cl1_s, wi J1 1 1 _ (by decide) rfl (by decide), nm, e1, ← h2]
    rw [itr_succ, b_X8_graded_34, if_neg (by decide), gR_pt hj t3, rq, gR_pt hj t1, ra, ai J2 2 2 (f2 _ (Ne.symm n4)) (by decide) rfl (by decide), S, cl1_s, wi J2 2 2 _ (by decide) rfl (by decide), nm, e2, ← h3]
    rw [itr_succ, b_X8_graded_34, if_neg (by decide), gR_pt hj t3, rq, gR_pt hj t1, ra, ai J3 3 3 (f3 _ (Ne.symm n4)) (by decide) rfl (by decide), S, cl1_s, wi J3 3 3 _ (by decide) rfl (by decide), nm, e3, ← h4]
    rw [itr_succ, b_X8_graded_34, if_pos (by decide), ob_pt hj t3, D4, cl1_s, gI_pt hj t1, S, cl1_s, nm, pI_pt hj t3, pI_pt hj t3, pI_pt hj t3, f4 a (Ne.symm n3)]
    have mE : (if shV r (J a 2) g < dG r (J (a + 1)) g then shV r (J a 2) g else dG r (J (a + 1)) g) = mn (shV r (J a 2) g) (dG r (J (a + 1)) g) := rfl
    rw [mE, ← h5, ob_pt hj t3, D5, cl1_s]
    by_cases c : dG r (J (a + 1)) g ≤ 0
    · rw [if_pos c, if_pos c, b_X8_graded_115, nm, kN_s]
    · rw [if_neg c, if_neg c]
      simp only [b_X8_graded_115, nm, kN_s]
  · rw [h5]
    by_cases k3 : k = 3
    · subst k3; rw [up2_at, if_neg (by decide), if_pos rfl]
    · rw [up2_k k3, if_neg k3]
      by_cases k9 : k = 9
      · subst k9; rw [up2_at, if_neg (by decide), if_pos rfl]
      · rw [up2_k k9, if_neg k9]
        by_cases k2 : k = 2
        · subst k2; rw [up2_at, if_pos rfl]
        · rw [up2_k k2, if_neg k2, f4 q n5]
/-- the reference's lot of one grade -/
def mG (m mu : Nat → Int32) (g k : Nat) : Int32 := if k = 2 then mn (shV (bq (m 5)) (m 2) g) (dG (bq (m 5)) mu g) else if k = 3 then 0 else if k = 9 then Int32.ofNat g else m k
def ML (e0 : Nat) (φ : Nat → Nat) (T : Nat → Nat × Nat) (J : Nat → Nat → Int32) (R : Nat → Nat → Option Nat) (q : Nat) (m mu : Nat → Int32) (g : Nat) : Prop :=
  T q = (8, 0) ∧ R q 1 = some (φ (q + 1)) ∧ T (q + 1) = (100, 4) ∧ R q 12 = none ∧ R q 14 = some (φ (q + 3)) ∧ T (q + 3) = (2, 0) ∧ J (q + 3) 2 = 0 ∧ R (q + 3) 1 = some e0 ∧ (∀ k, k ≤ 11 → k ≠ 1 → J q k = mG m mu g k) ∧ J q 13 = 0 ∧ (∀ k, k < 4 → J (q + 1) k = shV (bq (m 5)) (mu k) g)
theorem ML.fr {φ' : Nat → Nat} {T' : Nat → Nat × Nat} {R' : Nat → Nat → Option Nat} {m mu : Nat → Int32} (h : ML e0 φ T J R q m mu g) (e : ∀ v, v = q ∨ v = q + 1 ∨ v = q + 3 → φ' v = φ v ∧ T' v = T v ∧ J' v = J v ∧ R' v = R v) : ML e0 φ' T' J' R' q m mu g := by
  obtain ⟨h1, h2, h3, h4, h5, h6, h7, h8, h9, h10, h11⟩ := h
  obtain ⟨a1, a2, a3, a4⟩ := e q (Or.inl rfl)
  obtain ⟨b1, b2, b3, b4⟩ := e (q + 1) (Or.inr (Or.inl rfl))
  obtain ⟨c1, c2, c3, c4⟩ := e (q + 3) (Or.inr (Or.inr rfl))
  exact ⟨by rw [a2]; exact h1, by rw [a4, b1]; exact h2, by rw [b2]; exact h3, by rw [a4]; exact h4, by rw [a4, c1]; exact h5, by rw [c2]; exact h6, by rw [c3]; exact h7, by rw [c4]; exact h8, by rw [a3]; exact h9, by rw [a3]; exact h10, by rw [b3]; exact h11⟩
/-- behind g grades -/
def MI (e0 : Nat) (φ φ' : Nat → Nat) (T T' : Nat → Nat × Nat) (J J' : Nat → Nat → Int32) (R R' : Nat → Nat → Option Nat) (i nL : Nat) (f : Nat → Int32) (g c : Nat) : Prop :=
  (∀ v, v < 10 * nL + 150 → φ' v = φ v ∧ T' v = T v ∧ J' v = J v ∧ R' v = R v) ∧ T' 400 = (2, 0) ∧ J' 400 2 = Int32.ofNat (cN f g) ∧ R' 400 1 = some (if c = 0 then e0 else φ' 401) ∧ (c ≠ 0 → T' 401 = (106, c)) ∧ cN f g ≤ c ∧ c ≤ 22 ∧
  ∀ g', g' < g → ¬ f g' ≤ 0 → ML e0 φ' T' J' R' (10 * (nL + cN f g') + 150) (J (10 * i + 150)) (J (10 * i + 151)) g' ∧ R' 401 (cN f g') = some (φ' (10 * (nL + cN f g') + 150))
theorem m_gradedL (hN : nL ≤ 16) (iL : i < nL) (ta : T (10 * i + 150) = (8, 0)) (ra : R (10 * i + 150) 1 = some (φ (10 * i + 151))) (tb : T (10 * i + 151) = (100, 4)) (b10 : J (10 * i + 150) 10 = 0 ∨ J (10 * i + 150) 10 = 1) (b11 : J (10 * i + 150) 11 = 0 ∨ J (10 * i + 150) 11 = 1) (h123 : T 123 = (300, 0)) (h123' : φ 123 = e0) (hf : ∀ g, f g = dG (bq (J (10 * i + 150) 5)) (J (10 * i + 151)) g) {M0 : Nat} : ∀ d g fl (φ' : Nat → Nat) (T' : Nat → Nat × Nat) (J' : Nat → Nat → Int32) (R' : Nat → Nat → Option Nat) (τ' : Mem) (c : Nat), g + d = 3 → d + 1 ≤ fl → Inj φ' T' → live T' φ' (mZ τ') → φ' 400 = M0 → MI e0 φ φ' T T' J J' R R' i nL f g c → ∃ φ2 T2 J2 R2 τ2 c2, l_X8_graded_20 e0 mi fl (some (φ (10 * i + 150))) (bq (J (10 * i + 150) 5)) (some M0) (Int32.ofNat g) (pt φ' T' J' R' τ') = some (some M0, pt φ2 T2 J2 R2 τ2) ∧ Inj φ2 T2 ∧ live T2 φ2 (mZ τ2) ∧ φ2 400 = M0 ∧ MI e0 φ φ2 T T2 J J2 R R2 i nL f 3 c2 ∧ KJ τ' τ2 := by
  intro d
  induction d with
  | zero =>
    intro g fl φ' T' J' R' τ' c h1 h2 h3 h4 h5 h6
    obtain ⟨fl', rfl⟩ : ∃ x, fl = x + 1 := ⟨fl - 1, by omega⟩
    have g3 : g = 3 := by omega
    subst g3
    refine ⟨φ', T', J', R', τ', c, ?_, h3, h4, h5, h6, KJ.refl⟩
    rw [l_X8_graded_20, itr_succ, b_X8_graded_20, if_pos (show (3 : Int32) ≤ Int32.ofNat 3 by decide)]
  | succ d ih =>
    intro g fl φ' T' J' R' τ' c h1 h2 h3 h4 h5 h6
    obtain ⟨fl', rfl⟩ : ∃ x, fl = x + 1 := ⟨fl - 1, by omega⟩
    have c1 : ¬ (3 : Int32) ≤ Int32.ofNat g := by rw [show (3 : Int32) = Int32.ofNat 3 from rfl, kN_le (by omega) (by omega)]; omega
    obtain ⟨V, L1, L2, L3, L4, L5, L6, L7⟩ := h6
    have cg := cN_le f g
    obtain ⟨q, hq⟩ : ∃ q, q = 10 * (nL + cN f g) + 150 := ⟨_, rfl⟩
    have q400 : q + 3 < 400 := by omega
    have qi : 10 * i + 151 < q := by omega
    obtain ⟨v1, v2, v3, v4⟩ := V (10 * i + 150) (by omega)
    obtain ⟨u1, u2, u3, u4⟩ := V (10 * i + 151) (by omega)
    have old : ∀ g', g' < g → ¬ f g' ≤ 0 → 10 * (nL + cN f g') + 150 + 10 ≤ q := fun g' hg' hp => by
      have := cN_lt (g' := g) hg' hp; omega
    obtain ⟨φ1, T1, J1, R1, τ1, k1, k2, k3, k4, k5, k6, k7, k8, k9, k10, k11, k12, k13, k14, k15, k16, k17, k18, k19, k20, k21, k22, k23⟩ := m_likeV (e0 := e0) (mi := mi) (J := J') (R := R') (q := 10 * i + 150) q h3 h4 (by rw [v2]; exact ta) (by omega) (by omega) (by omega) (by rw [v3]; exact b10) (by rw [v3]; exact b11)
    have a1 : J1 (10 * i + 150) = J (10 * i + 150) := by rw [k18 _ (by omega) (by omega) (by omega), v3]
    have a2 : J1 (10 * i + 151) = J (10 * i + 151) := by rw [k18 _ (by omega) (by omega) (by omega), u3]
    have p1 : φ1 (10 * i + 150) = φ (10 * i + 150) := by rw [k16 _ (by omega) (by omega) (by omega), v1]
    obtain ⟨J2, m1, m2, m3, m4⟩ := m_gradeL (e0 := e0) (mi := mi) (k20 := l_X8_graded_20 e0 mi fl') (made := some M0) (r := bq (J (10 * i + 150) 5)) (a := 10 * i + 150) (q := q) (J := J1) (R := R1) (τ := τ1) k2 (by rw [k17 _ (by omega) (by omega) (by omega), v2]; exact ta) (by rw [k19 _ (by omega) (by omega) (by omega), v4, ra, k16 (10 * i + 150 + 1) (by omega) (by omega) (by omega), u1]) (by rw [k17 (10 * i + 150 + 1) (by omega) (by omega) (by omega), u2]; exact tb) k6 k10 k7 (by omega) (by omega) (by omega) (by omega) (show g < 3 by omega)
    have a2' : J1 (10 * i + 150 + 1) = J (10 * i + 151) := a2
    rw [p1, a2', ← hf g] at m1
    rw [a2', a1, ← hf g] at m3
    rw [a2'] at m4
    rw [v1] at k1
    have V2 : ∀ v, v < 10 * nL + 150 → φ1 v = φ v ∧ T1 v = T v ∧ J2 v = J v ∧ R1 v = R v := fun v hv => by
      obtain ⟨y1, y2, y3, y4⟩ := V v hv
      rw [k16 v (by omega) (by omega) (by omega), k17 v (by omega) (by omega) (by omega), m2 v (by omega) (by omega), k18 v (by omega) (by omega) (by omega), k19 v (by omega) (by omega) (by omega)]
      exact ⟨y1, y2, y3, y4⟩
    have P4 : φ1 400 = M0 := by rw [k16 _ (by omega) (by omega) (by omega), h5]
    have same : ∀ v, v ≠ q → v ≠ q + 1 → v ≠ q + 3 → φ1 v = φ' v ∧ T1 v = T' v ∧ J2 v = J' v ∧ R1 v = R' v := fun v y1 y2 y3 => ⟨k16 v y1 y2 y3, k17 v y1 y2 y3, by rw [m2 v y1 y2, k18 v y1 y2 y3], k19 v y1 y2 y3⟩
    obtain ⟨z1, z2, z3, z4⟩ := same 400 (by omega) (by omega) (by omega)
    obtain ⟨w1, w2, w3, w4⟩ := same 401 (by omega) (by omega) (by omega)
    have OLD : ∀ g', g' < g → ¬ f g' ≤ 0 → ML e0 φ1 T1 J2 R1 (10 * (nL + cN f g') + 150) (J (10 * i + 150)) (J (10 * i + 151)) g' ∧ R1 401 (cN f g') = some (φ1 (10 * (nL + cN f g') + 150)) := fun g' hg' hp => by
      have := old g' hg' hp
      obtain ⟨y1, y2⟩ := L7 g' hg' hp
      refine ⟨y1.fr (fun v hv => same v (by omega) (by omega) (by omega)), ?_⟩
      rw [w4, y2, (same _ (by omega) (by omega) (by omega)).1]
    have NEW : ML e0 φ1 T1 J2 R1 q (J (10 * i + 150)) (J (10 * i + 151)) g := by
      refine ⟨k6, k10, k7, k11, k12, k8, ?_, k15, fun k y1 y2 => ?_, ?_, m4⟩
      · rw [m2 _ (by omega) (by omega)]; exact k14
      · rw [m3, mG, ← hf g]
        by_cases e2 : k = 2
        · rw [if_pos e2, if_pos e2]
        · rw [if_neg e2, if_neg e2]
          by_cases e3 : k = 3
          · rw [if_pos e3, if_pos e3]
          · rw [if_neg e3, if_neg e3]
            by_cases e9 : k = 9
            · rw [if_pos e9, if_pos e9]
            · rw [if_neg e9, if_neg e9, k9 k (by omega), lkF, if_pos (by omega), v3]
      · rw [m3, if_neg (by decide), if_neg (by decide), if_neg (by decide)]; exact k23
    rw [l_X8_graded_20, itr_succ, b_X8_graded_20, if_neg c1, ← v1, ob_pt h3 (by rw [v2, ta]), v1, k1, cl1_s]
    by_cases cc : f g ≤ 0
    · rw [if_pos cc] at m1
      have cE : cN f (g + 1) = cN f g := by rw [cN, if_pos cc]
      obtain ⟨φ2, T2, J3, R2, τ2, c2, i1, i2, i3, i4, i5, i6⟩ := ih (g + 1) fl' φ1 T1 J2 R1 τ1 c (by omega) (by omega) k2 k3 P4 ⟨V2, by rw [z2]; exact L1, by rw [z3, cE]; exact L2, by rw [z4, w1]; exact L3, by rw [w2]; exact L4, by rw [cE]; exact L5, L6, fun g' hg' hp => OLD g' (by
        rcases (show g' < g ∨ g' = g by omega) with y | y
        · exact y
        · rw [y] at hp; exact absurd cc hp) hp⟩
      exact ⟨φ2, T2, J3, R2, τ2, c2, m1.trans i1, i2, i3, i4, i5, k20.trans i6⟩
    · rw [if_neg cc] at m1
      have cE : cN f (g + 1) = cN f g + 1 := by rw [cN, if_neg cc]
      have y123 : T1 123 = (300, 0) ∧ φ1 123 = e0 := by
        obtain ⟨y1, y2, -⟩ := V2 123 (by omega)
        exact ⟨by rw [y2]; exact h123, by rw [y1]; exact h123'⟩
      have A := list_add (e0 := e0) (mi := mi) (l := 400) (w := 401) (s := cN f g) (c := c) (u := q) (I := J2) (R := R1) (τ := τ1) k2 k3 (by rw [z2]; exact L1) (by decide) (by rw [z3]; exact L2) L5 (by omega) L6 (by rw [z4, L3, w1]) (by rw [w2]; exact L4) y123.1 y123.2 (by decide) (by omega) (Or.inl (by rw [k6])) (fun k hk => by
        obtain ⟨g', y1, y2, y3⟩ := cN_ex g k hk
        obtain ⟨y4, y5⟩ := OLD g' y1 y2
        rw [y3] at y4 y5
        exact ⟨_, y5, Or.inl (by rw [y4.1])⟩)
      obtain ⟨φ3, T3, J3, R3, τ3, c3, LA, inj3, live3, ⟨c3a, c3b⟩, LT, LP, LI, LL2, LI2, LR, LR2, LL1, LRk, LRs, Lz, Lj, Lnn⟩ := A
      have s3 : ∀ v, v ≠ 400 → v ≠ 401 → φ3 v = φ1 v ∧ T3 v = T1 v ∧ J3 v = J2 v ∧ R3 v = R1 v := fun v y1 y2 => ⟨(LP v y2).1, (LP v y2).2, LI v y2 y1, LR v y2 y1⟩
      have P43 : φ3 400 = M0 := by rw [(LP 400 (by decide)).1, P4]
      obtain ⟨φ2, T2, J4, R2, τ2, c2, i1, i2, i3, i4, i5, i6⟩ := ih (g + 1) fl' φ3 T3 J3 R3 τ3 c3 (by omega) (by omega) inj3 live3 P43 ⟨fun v hv => by
          obtain ⟨y1, y2, y3, y4⟩ := s3 v (by omega) (by omega)
          rw [y1, y2, y3, y4]; exact V2 v hv, by rw [(LP 400 (by decide)).2, z2]; exact L1, by rw [cE]; exact LL2, by rw [if_neg (by omega)]; exact LL1, fun _ => LT, by rw [cE]; exact c3a, c3b, fun g' hg' hp => by
          rcases (show g' < g ∨ g' = g by omega) with y | y
          · obtain ⟨y1, y2⟩ := OLD g' y hp
            have := old g' y hp
            refine ⟨y1.fr (fun v hv => s3 v (by omega) (by omega)), ?_⟩
            rw [LRk _ (cN_lt y hp), y2, (s3 _ (by omega) (by omega)).1]
          · subst y
            rw [← hq]
            refine ⟨NEW.fr (fun v hv => s3 v (by omega) (by omega)), ?_⟩
            rw [LRs, (s3 _ (by omega) (by omega)).1]⟩
      refine ⟨φ2, T2, J4, R2, τ2, c2, m1.trans ?_, i2, i3, i4, i5, k20.trans (KJ.trans ⟨Lz, Lj⟩ i6)⟩
      rw [← P4, ob_pt k2 (by rw [z2, L1]), LA, cl1_s, P4]
      exact i1
theorem m_graded (hj : Inj φ T) (hl : live T φ (mZ τ)) (hN : nL ≤ 16) (iL : i < nL) (ta : T (10 * i + 150) = (8, 0)) (ra : R (10 * i + 150) 1 = some (φ (10 * i + 151))) (tb : T (10 * i + 151) = (100, 4)) (b10 : J (10 * i + 150) 10 = 0 ∨ J (10 * i + 150) 10 = 1) (b11 : J (10 * i + 150) 11 = 0 ∨ J (10 * i + 150) 11 = 1) (h123 : T 123 = (300, 0)) (h123' : φ 123 = e0) (hf : ∀ g, f g = dG (bq (J (10 * i + 150) 5)) (J (10 * i + 151)) g) : ∃ φ2 T2 J2 R2 τ2 c2, f_X8_graded e0 mi (some (φ (10 * i + 150))) (pt φ T J R τ) = some (some (φ2 400), pt φ2 T2 J2 R2 τ2) ∧ Inj φ2 T2 ∧ live T2 φ2 (mZ τ2) ∧ MI e0 φ φ2 T T2 J J2 R R2 i nL f 3 c2 ∧ KJ τ τ2 := by
  have o1 : Off φ T (mZ τ) := Off.of hl (Nat.le_refl _)
  obtain ⟨τ1, N1, ⟨N2, N3, N4, N5⟩, N6, N7⟩ := ol_new (e0 := e0) (mi := mi) (I := J) (R := R) (τ := τ) (z := mZ τ) hj hl (Nat.le_refl _)
  have N8 : mR τ1 (mZ τ) 1 = some e0 := by
    rcases N5 with ⟨-, y⟩ | ⟨wa, -, -, y1, y2, -⟩
    · exact y
    · omega
  obtain ⟨φ1, T1, J1, R1, τ3, eq1, inj1, live1, ph1, pT1, pI1, pR1, aP1, aT1, aI1, aR1, zz1, of1, jj1⟩ := take1 (I := J) (R := R) 400 hj hl (Nat.le_refl _) N2 (by decide)
  have zz : mZ τ3 = mZ τ + 1 := by rw [zz1, N7]
  obtain ⟨φ2, T2, J2, R2, τ2, c2, i1, i2, i3, i4, i5, i6⟩ := m_gradedL (e0 := e0) (mi := mi) (f := f) (M0 := φ1 400) hN iL ta ra tb b10 b11 h123 h123' hf 3 0 4 φ1 T1 J1 R1 τ3 0 (by omega) (by omega) inj1 (by rw [zz]; exact live1) rfl ⟨fun v hv => ⟨aP1 v (by omega), aT1 v (by omega), aI1 v (by omega), aR1 v (by omega)⟩, pT1, by rw [pI1, N4]; rfl, by rw [pR1, N8, if_pos rfl], fun y => absurd rfl y, Nat.le_refl _, by omega, fun g' hg' => absurd hg' (Nat.not_lt_zero _)⟩
  refine ⟨φ2, T2, J2, R2, τ2, c2, ?_, i2, i3, i5, KJ.trans ⟨by rw [zz]; exact Nat.le_succ _, fun b hb => by rw [jj1, (N6.2 b hb).2.2.1]⟩ i6⟩
  have ZZ : ∀ (K : Mem → Option Nat → Option (Option Nat × Mem)), nO 1 (pt φ T J R τ) K = K (pt φ T J R (sN τ (2, 0))) (some (mZ τ)) := fun K => by rw [nO_off o1]
  have OB1 : ∀ (K : Nat → Option (Option Nat × Mem)), ob 1 (pt φ T J R (sN τ (2, 0))) (some (mZ τ)) K = K (mZ τ) := fun K => by rw [ob_off o1 (by rw [mT_sN_at])]
  rw [f_X8_graded, b_X8_graded_0, gI_pt hj (by rw [ta]), nm, ZZ, OB1, N1, cl1_s, eq1, ← ph1]
  have E : l_X8_graded_20 e0 mi 4 (some (φ (10 * i + 150))) (bq (J (10 * i + 150) 5)) (some (φ1 400)) 0 (pt φ1 T1 J1 R1 τ3) = some (some (φ1 400), pt φ2 T2 J2 R2 τ2) := i1
  rw [i4]
  exact E
end S4
