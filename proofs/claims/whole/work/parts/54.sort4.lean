/-! SORT, the end -/
section S7
variable {φ : Nat → Nat} {T : Nat → Nat × Nat} {I : Nat → Nat → Int32} {R : Nat → Nat → Option Nat} {τ : Mem} {e0 nS nL cS cL n z : Nat} {mx : Nat → Int32} {cB : Nat → Nat} {bl : Nat → List (Nat × Int32)}
variable {mi a b w q g k i j t c : Nat} {J J' JX : Nat → Nat → Int32} {p r d : Int32} {x y u : Nat → Int32} {τ1 : Mem} {f : Nat → Int32}
theorem m_sortE (h : Cx φ T I R (mZ τ) e0 nS nL cS cL mx cB bl n) (hJ : ∀ v, 125 ≤ v → JX v = I v) (iL : i < nL) (hb : bl i = []) {φ2 : Nat → Nat} {T2 : Nat → Nat × Nat} {J2 : Nat → Nat → Int32} {R2 : Nat → Nat → Option Nat} {τ2 : Mem} {c2 : Nat} (inj2 : Inj φ2 T2) (live2 : live T2 φ2 (mZ τ2)) (hM : MI e0 φ φ2 T T2 (up2 JX 124 0 0) J2 R R2 i nL f 3 c2) (h16 : nL + cN f 3 ≤ 16) (h1 : 1 ≤ cN f 3) :
    ∃ φ3 T3 J3 R3 τ3 c3, b_X8_sort_100 e0 mi (φ2 124) (some (φ2 (10 * i + 150))) (some (φ2 400)) 0 (some (φ2 124)) (pt φ2 T2 J2 R2 τ2) = some (Int32.ofNat (cN f 3), pt φ3 T3 J3 R3 τ3) ∧ Inj φ3 T3 ∧ live T3 φ3 (mZ τ3) ∧ SX φ3 T3 R3 ∧ SM φ3 T3 J3 R3 e0 nS (nL + cN f 3) cS c3 (fun k => if k < nL then mx k else 0) (fun k => if k < nL then cB k else 0) (fun k => if k < nL then bl k else []) ∧ KJ τ2 τ3 ∧ (φ3 0 = φ 0 ∧ φ3 124 = φ 124 ∧ φ3 132 = φ 132) ∧ (∀ v, v < 10 * nL + 150 → v ≠ 134 → v ≠ 126 → v ≠ 10 * i + 150 → v ≠ 10 * i + 151 → v ≠ 10 * i + 153 → J3 v = up2 JX 124 0 0 v) ∧ J3 (10 * i + 150) 0 = 3 ∧ J3 (10 * i + 150) 13 = 0 ∧ (∀ k, k ≠ 0 → k ≠ 13 → J3 (10 * i + 150) k = I (10 * i + 150) k) ∧ (∀ k, k < 4 → J3 (10 * i + 151) k = 0) ∧ (∀ g, g < 3 → ¬ f g ≤ 0 → ML e0 φ3 T3 J3 R3 (10 * (nL + cN f g) + 150) (I (10 * i + 150)) (I (10 * i + 151)) g) := by
  have hj := h.hj
  have hN := h.m.2.2.2.2.1
  have h0 := h.m.1
  have h6 := h.m.2.2.1
  have h7 := h.m.2.2.2.1
  have t8 := h.t8 iL
  have hm := h.2.2.2.1
  have hx := h.2.2.1
  obtain ⟨hm0, hm1, hm2, hm3, hm4, hm5, hm6, hm7, hm8, hm9, hm10, hm11, hm12, hm13, hm14, hm15, hm16, hm17, hm18, hm19, hm20, hm21, hm22, hm23, hm24, hm25, hm26, hm27, hm28, hm29, hm30, hm31, hm32, hm33, hm34, hm35, hm36, hm37, hm38, hm39, hm40, hm41, hm42, hm43, hm44⟩ := id hm
  have JJ : ∀ v, 125 ≤ v → up2 JX 124 0 0 v = I v := fun v hv => by rw [up2_row (by omega), hJ v hv]
  obtain ⟨V, L1, L2, L3, L4, L5, L6, L7⟩ := hM
  have c3' := cN_le f 3
  have vP : ∀ v, v < 10 * nL + 150 → φ2 v = φ v := fun v hv => (V v hv).1
  have vT : ∀ v, v < 10 * nL + 150 → T2 v = T v := fun v hv => (V v hv).2.1
  have vI : ∀ v, v < 10 * nL + 150 → J2 v = up2 JX 124 0 0 v := fun v hv => (V v hv).2.2.1
  have vR : ∀ v, v < 10 * nL + 150 → R2 v = R v := fun v hv => (V v hv).2.2.2
  have vII : ∀ v, v < 10 * nL + 150 → 125 ≤ v → J2 v = I v := fun v hv y => by rw [vI v hv, JJ v y]
  have s153 : I (10 * i + 153) 2 = 0 := by rw [hm36 i iL, hb]; rfl
  -- it goes
  obtain ⟨J3, R3, G1, G2, G3, G4, G5, G6, G7, G8⟩ := m_goV (φ1 := φ2) (T1 := T2) (R1 := R2) (J := J2) (τ := τ2) (b := 10 * i + 150) inj2 (by rw [vT _ (by omega)]; exact t8) (by rw [vR _ (by omega), vP (10 * i + 150 + 1) (by omega)]; exact hm30 i iL) (by rw [vT (10 * i + 150 + 1) (by omega)]; exact hm31 i iL) (by rw [vR _ (by omega), vP (10 * i + 150 + 3) (by omega)]; exact hm34 i iL) (by rw [vT (10 * i + 150 + 3) (by omega)]; exact hm35 i iL) ⟨_, by rw [vR (10 * i + 150 + 3) (by omega)]; exact hm37 i iL⟩ (by rw [vII (10 * i + 150 + 3) (by omega) (by omega)]; exact s153)
  -- the list
  have A := list_addAll (e0 := e0) (mi := mi) (l := 126) (w := 134) (s := nL) (c := cL) (l2 := 400) (w2 := 401) (c2 := c2) (m := cN f 3) (uu := fun k => 10 * (nL + k) + 150) (I := J3) (R := R3) (τ := τ2) inj2 live2 (by rw [vT _ (by omega)]; exact h6) (by decide) (by rw [G2 _ (by omega) (by omega) (by omega), vII _ (by omega) (by omega)]; exact hm13) hm20 (by omega) h1 c3' h16 hm21 (by rw [G8 _ (by omega), vR _ (by omega), hm15, if_neg (by omega), vP 134 (by omega)]) (by rw [vT _ (by omega)]; exact hm17 (by omega)) (by rw [vT _ (by omega)]; exact hm41) (by rw [vP _ (by omega)]; exact hm42) (by decide) (fun k hk => by
      rw [G8 134 (by omega), vR 134 (by omega)]
      by_cases y : k < nL
      · refine Or.inr ⟨10 * k + 150, by omega, ?_, Or.inl ?_⟩
        · rw [vP _ (by omega)]; exact hm28 k y
        · rw [vT _ (by omega), hm29 k y]
      · exact Or.inl (hm44 k (by omega) hk)) L1 (by rw [G2 _ (by omega) (by omega) (by omega)]; exact L2) (by rw [G8 _ (by omega), L3, if_neg (by omega)]) (L4 (by omega)) L5 L6 (fun k hk => by
      obtain ⟨g', y1, y2, y3⟩ := cN_ex 3 k hk
      obtain ⟨y4, y5⟩ := L7 g' y1 y2
      rw [y3] at y4 y5
      exact ⟨by rw [G8 _ (by omega)]; exact y5, Or.inl (by rw [y4.1])⟩) (by decide) (by decide) (by decide) (fun k hk => ⟨by omega, by omega⟩) (by decide) (by decide) (by decide) (by decide)
  obtain ⟨φ3, T3, J4, R4, τ3, c3, LA, inj3, live3, ⟨c3a, c3b⟩, LT, LP, LI, LL2, LR, LR2, LL1, LRk, LRs, Lnn, LK⟩ := A
  have eP : ∀ v, v < 10 * nL + 150 → v ≠ 134 → φ3 v = φ v := fun v y1 y2 => by rw [(LP v y2 (by omega)).1, vP v y1]
  have eT : ∀ v, v < 10 * nL + 150 → v ≠ 134 → T3 v = T v := fun v y1 y2 => by rw [(LP v y2 (by omega)).2, vT v y1]
  have eR : ∀ v, v < 10 * nL + 150 → v ≠ 134 → v ≠ 126 → v ≠ 10 * i + 154 → R4 v = R v := fun v y1 y2 y3 y4 => by rw [LR v y2 (by omega) y3, G8 v y4, vR v y1]
  have eJ : ∀ v, v < 10 * nL + 150 → v ≠ 134 → v ≠ 126 → v ≠ 10 * i + 150 → v ≠ 10 * i + 151 → v ≠ 10 * i + 153 → J4 v = up2 JX 124 0 0 v := fun v y1 y2 y3 y4 y5 y6 => by rw [LI v y2 (by omega) y3, G2 v y4 y5 y6, vI v y1]
  have NEW : ∀ g, g < 3 → ¬ f g ≤ 0 → ML e0 φ3 T3 J4 R4 (10 * (nL + cN f g) + 150) (I (10 * i + 150)) (I (10 * i + 151)) g := fun g hg hp => by
    obtain ⟨y1, -⟩ := L7 g hg hp
    have y3 := cN_lt (g' := 3) hg hp
    rw [JJ _ (by omega), JJ _ (by omega)] at y1
    refine y1.fr (fun v hv => ⟨(LP v (by omega) (by omega)).1, (LP v (by omega) (by omega)).2, ?_, ?_⟩)
    · rw [LI v (by omega) (by omega) (by omega), G2 v (by omega) (by omega) (by omega)]
    · rw [LR v (by omega) (by omega) (by omega), G8 v (by omega)]
  have i153 : J4 (10 * i + 153) 2 = 0 := by rw [LI _ (by omega) (by omega) (by omega)]; exact G7
  have M1 := SM.clr (I' := rowS I (10 * i + 153) (J4 (10 * i + 153))) (R' := rowS R (10 * i + 154) (R4 (10 * i + 154))) hm iL (fun v hv => by
    refine rowS_ne (fun y => ?_)
    rcases hv with rfl | rfl | ⟨i', k, y1, y2, y3, y4, y5⟩
    · omega
    · omega
    · exact y5 y) (by rw [rowS_hit]; exact i153) (fun v hv => rowS_ne hv)
  rw [show rowS bl i [] = bl by funext x; by_cases y : x = i <;> simp [rowS, y, hb]] at M1
  refine ⟨φ3, T3, J4, R4, τ3, c3, ?_, inj3, live3, hx.frame (fun v hv => eP v (by omega) (by omega)) (fun v hv => eT v (by omega) (by omega)) (fun v hv => eR v (by omega) (by omega) (by omega) (by omega)), ?_, LK, ⟨eP 0 (by omega) (by omega), eP 124 (by omega) (by omega), eP 132 (by omega) (by omega)⟩, eJ, ?_, ?_, ?_, ?_, NEW⟩
  · have z124 : J2 124 0 = 0 := by rw [vI 124 (by omega), up2_at]
    have a0 : (T2 124).1 = 10 + 1 := by rw [vT 124 (by omega), h0]
    have a8 : (T2 (10 * i + 150)).1 = 7 + 1 := by rw [vT _ (by omega), t8]
    have a6 : (T2 126).1 = 1 + 1 := by rw [vT 126 (by omega), h6]
    have b4 : (T3 400).1 = 1 + 1 := by rw [(LP 400 (by omega) (by omega)).2, L1]
    have r7 : R3 124 7 = some (φ2 126) := by rw [G8 124 (by omega), vR 124 (by omega), h7, vP 126 (by omega)]
    have s4 : J4 400 2 = Int32.ofNat (cN f 3) := by rw [LI 400 (by omega) (by omega) (by omega), G2 400 (by omega) (by omega) (by omega)]; exact L2
    have e4 : φ2 400 = φ3 400 := ((LP 400 (by omega) (by omega)).1).symm
    rw [b_X8_sort_100, ob_pt inj2 a0, m_refJ0 inj2 (by rw [vT 124 (by omega), h0]) z124, cl1_s, if_pos rfl, ob_pt inj2 a8, G1, cl1_s, gR_pt inj2 a0, r7, ob_pt inj2 a6, LA, cl1_s, e4, ob_pt inj3 b4, f_Jx4a65c_size_8abf5, b_Jx4a65c_size_8abf5_0, gI_pt inj3 b4, s4, cl1_s]
  · refine SM.addM M1 h16 (by omega) eP eT (fun v y1 y2 y3 => ?_) (fun v y1 y2 => ?_) c3a c3b LL2 LL1 LT (fun k hk => ?_) (fun i' y1 y2 => ?_) (fun k y1 y2 => ?_)
    · by_cases y4 : v = 10 * i + 154
      · rw [y4, rowS_hit]
      · rw [rowS_ne y4]; exact eR v y1 y2 y3 y4
    · by_cases y4 : v = 10 * i + 153
      · rw [y4, rowS_hit]
      · rw [rowS_ne y4]
        rcases y2 with rfl | ⟨i', k, y6, y7, y8, rfl⟩
        · rw [eJ _ (by omega) (by omega) (by omega) (by omega) (by omega) (by omega), JJ _ (by omega)]
        · rw [eJ _ (by omega) (by omega) (by omega) (by omega) (by omega) (by omega), JJ _ (by omega)]
    · rw [LRk k hk, G8 134 (by omega), vR 134 (by omega), rowS_ne (by omega)]
    · obtain ⟨g', z1, z2, z3⟩ := cN_ex 3 (i' - nL) (by omega : i' - nL < cN f 3)
      have z4 := NEW g' z1 z2
      rw [z3, show nL + (i' - nL) = i' by omega] at z4
      obtain ⟨m1, m2, m3, m4, m5, m6, m7, m8, -⟩ := z4
      refine ⟨?_, m1, m2, m3, m4, m5, m6, m7, m8⟩
      have z5 := LRs (i' - nL) (by omega)
      rw [show nL + (i' - nL) = i' by omega] at z5
      rw [z5, (LP (10 * i' + 150) (by omega) (by omega)).1]
    · exact Lnn k y1 y2 (fun y3 => by rw [G8 134 (by omega), vR 134 (by omega)]; exact hm44 k (by omega) y3)
  · rw [LI _ (by omega) (by omega) (by omega)]; exact G3
  · rw [LI _ (by omega) (by omega) (by omega)]; exact G4
  · intro k k0 k13; rw [LI _ (by omega) (by omega) (by omega), G5 k k0 k13, vII _ (by omega) (by omega)]
  · intro k hk; rw [LI _ (by omega) (by omega) (by omega)]; exact G6 k hk
/-- a lot of one grade on both sides -/
theorem LotR.grade {x xu xn xa xp xt m mu mn' : Nat → Int32} {m0 : Int32} {b : List (Nat × Int32)} {x' xu' xn' xa' xp' xt' m' mu' mn'' : Nat → Int32} (h : LotR x xu xn xa xp xt m mu mn' m0 b n) (hx0 : x 0 = 2) (s5 : (x 1).toInt ≤ 5760) (hg : g < 3) (hp : ¬ dG (bq (x 5)) xu g ≤ 0)
    (X1 : ∀ k, k ≤ 11 → x' k = xG x xu g k) (X2 : x' 12 = 0) (X3 : ∀ k, k < 4 → xu' k = shV (bq (x 5)) (xu k) g) (M1 : ∀ k, k ≤ 11 → k ≠ 1 → m' k = mG m mu g k) (M2 : m' 13 = 0) (M3 : ∀ k, k < 4 → mu' k = shV (bq (m 5)) (mu k) g) (A0 : xa' 0 = 0) (A1 : xa' 1 = 0) (P0 : ∀ k, k < 4 → xp' k = 0) : LotR x' xu' xn' xa' xp' xt' m' mu' mn'' 0 [] (n + 1) := by
  obtain ⟨⟨E0, E2, E3, E4, E5, E6, E7, E8, E9, E10, E11, E12, E13⟩, ⟨u0, u1, u2, u3⟩, ⟨D1, D2, D3, D4, D5, D6⟩, qD, ⟨qE1, qE2, qE3⟩, qF, qG, qH, -⟩ := h
  have z0 : (0 : Int32).toInt = 0 := rfl
  have eu : ∀ k, k < 4 → xu k = mu k := fun k hk => by
    rcases (show k = 0 ∨ k = 1 ∨ k = 2 ∨ k = 3 by omega) with rfl | rfl | rfl | rfl <;> assumption
  have eD : dG (bq (x 5)) xu g = dG (bq (m 5)) mu g := by rw [E5]; exact dG_congr eu
  have bb := bq_b (v := x 5) qG.1
  obtain ⟨k1, -⟩ := dG_b (b := bq (x 5)) (u := mu) bb D2 D3 D4 D5 (by omega)
  have eS : dG (bq (x 5)) xu g = dG (bq (x 5)) mu g := dG_congr eu
  obtain ⟨k2, k3, k4, k5, k6⟩ := k1 g hg
  have xu4 : ∀ k, k < 4 → xu' k = mu' k := fun k hk => by rw [X3 k hk, M3 k hk, E5, eu k hk]
  have x1 : x' 1 = dG (bq (x 5)) mu g := by rw [X1 1 (by decide), ← eS]; rfl
  have m4 : ∀ k, k < 4 → mu' k = shV (bq (x 5)) (mu k) g := fun k hk => by rw [M3 k hk, E5]
  have pos : 0 < (x' 1).toInt := by
    rw [x1, ← eS]
    have := Int32.not_le.mp hp
    have := ltT this; omega
  refine ⟨⟨?_, ?_, ?_, ?_, ?_, ?_, ?_, ?_, ?_, ?_, ?_, X2, by rw [A0, M2]⟩, ⟨xu4 0 (by decide), xu4 1 (by decide), xu4 2 (by decide), xu4 3 (by decide)⟩, ⟨?_, ?_, ?_, ?_, ?_, ?_⟩, ⟨Or.inl rfl, fun q => absurd rfl q⟩, ⟨?_, ?_, ?_⟩, ⟨fun q => ?_, fun _ => pos, fun q => ?_⟩, ?_, ⟨by rw [A0]; decide, by rw [A0]; decide, fun q => absurd A0 q, fun q => absurd rfl q⟩, BidR.nil (by rw [A1]; decide) (by rw [A1, z0]; omega) P0⟩
  · rw [X1 0 (by decide), M1 0 (by decide) (by decide)]; show 2 = m 0; rw [← E0, hx0]
  · rw [X1 2 (by decide), M1 2 (by decide) (by decide)]; show mn _ _ = mn _ _; rw [E5, E2, ← eD, E5]
  · rw [X1 3 (by decide), M1 3 (by decide) (by decide)]; rfl
  · rw [X1 4 (by decide), M1 4 (by decide) (by decide)]; exact E4
  · rw [X1 5 (by decide), M1 5 (by decide) (by decide)]; exact E5
  · rw [X1 6 (by decide), M1 6 (by decide) (by decide)]; exact E6
  · rw [X1 7 (by decide), M1 7 (by decide) (by decide)]; exact E7
  · rw [X1 8 (by decide), M1 8 (by decide) (by decide)]; exact E8
  · rw [X1 9 (by decide), M1 9 (by decide) (by decide)]; rfl
  · rw [X1 10 (by decide), M1 10 (by decide) (by decide)]; exact E10
  · rw [X1 11 (by decide), M1 11 (by decide) (by decide)]; exact E11
  · rw [x1, m4 0 (by decide), m4 1 (by decide), m4 2 (by decide), m4 3 (by decide)]; rfl
  · rw [m4 0 (by decide)]; exact k3
  · rw [m4 1 (by decide)]; exact k4
  · rw [m4 2 (by decide)]; exact k5
  · rw [m4 3 (by decide)]; exact k6
  · rw [x1, m4 0 (by decide), m4 1 (by decide), m4 2 (by decide), m4 3 (by decide)]; exact k2
  · rw [X1 10 (by decide)]; exact qE1
  · rw [X1 11 (by decide)]; exact qE2
  · rw [X1 0 (by decide)]; exact Or.inr (Or.inr (Or.inl rfl))
  · rw [X1 0 (by decide)] at q; exact absurd q (show ¬ (2 : Int32) = 3 by decide)
  · rw [X1 0 (by decide)] at q; exact absurd q (show ¬ ((2 : Int32) = 0 ∨ (2 : Int32) = 1) by decide)
  · rw [X1 5 (by decide)]; exact ⟨qG.1, by have := qG.2; show (x 5).toInt ≤ _; omega⟩
end S7
