/-! THE LAW'S SMALL HELPERS; a section laid -/
section HP
variable {φ : Nat → Nat} {T : Nat → Nat × Nat} {I J : Nat → Nat → Int32} {R : Nat → Nat → Option Nat} {τ : Mem} {nS nL n z : Nat}
variable {a b v m p : Int32} {xs : Nat → Int32} {L9 b9 : Nat}
theorem and_nn (v : Int32) : 0 ≤ (v &&& 2147483647).toInt := by
  have h1 : (v &&& 2147483647).toBitVec.toNat < 2147483648 := by
    rw [Int32.toBitVec_and, BitVec.toNat_and]
    have : (2147483647 : Int32).toBitVec.toNat = 2 ^ 31 - 1 := by decide
    rw [this, Nat.and_two_pow_sub_one_eq_mod]
    exact Nat.mod_lt _ (by decide)
  show 0 ≤ (v &&& 2147483647).toBitVec.toInt
  rw [BitVec.toInt_eq_toNat_of_lt (by omega)]
  omega
def blw (v m : Int32) : Nat := ((v &&& 2147483647) - (v &&& 2147483647) / m * m).toInt.toNat
theorem rm_b (h0 : 0 ≤ a.toInt) (hm : 0 < m.toInt) : 0 ≤ (a - a / m * m).toInt ∧ (a - a / m * m).toInt < m.toInt := by
  have e1 := divP m rfl hm h0
  have a1 := Int32.toInt_lt a
  have q1 := Int.mul_ediv_add_emod a.toInt m.toInt
  have q2 := Int.emod_nonneg a.toInt (show m.toInt ≠ 0 by omega)
  have q3 := Int.emod_lt_of_pos a.toInt hm
  have q4 : (a.toInt / m.toInt) * m.toInt = m.toInt * (a.toInt / m.toInt) := Int.mul_comm _ _
  have q5 : 0 ≤ m.toInt * (a.toInt / m.toInt) := Int.mul_nonneg (by omega) (Int.ediv_nonneg h0 (by omega))
  have e2 : (a / m * m).toInt = a.toInt / m.toInt * m.toInt := by rw [tMul (by rw [e1]; omega) (by rw [e1]; omega), e1]
  rw [tSub (by omega) (by omega), e2]
  omega
theorem rm_v {β : Type} {K : Int32 → Option β} (h0 : 0 ≤ a.toInt) (hm : 0 < m.toInt) : rm a m K = K (a - a / m * m) := by
  have : m ≠ 0 := fun y => by rw [y] at hm; exact absurd hm (by decide)
  unfold rm
  rw [if_neg this]
theorem blw_lt (hm : 0 < m.toInt) : (blw v m : Int) < m.toInt := by
  have := rm_b (and_nn v) hm
  unfold blw
  omega
theorem x_below {σ : Mem} (hm : 0 < m.toInt) : f_L_below v m σ = some (Int32.ofNat (blw v m), σ) := by
  have := rm_b (and_nn v) hm
  have h2 := Int32.toInt_lt m
  unfold f_L_below b_L_below_0
  rw [nm, rm_v (and_nn v) hm]
  congr 2
  apply Int32.toInt_inj.mp
  rw [oN (by have := blw_lt (v := v) hm; omega)]
  unfold blw
  omega
def clw (xs : Nat → Int32) (L9 : Nat) (p : Int32) : Int32 := if Int32.ofNat L9 ≤ p then 790386105 * (p + 3) else xs p.toNatClampNeg
theorem x_cell {σ : Mem} (hL : L9 ≤ 260) (hp : ¬ p < 0) : f_L_cell xs L9 b9 (some b9) p σ = some (clw xs L9 p, σ) := by
  unfold f_L_cell b_L_cell_0 b_L_cell_18 clw aLs aIs
  rw [if_pos rfl]
  by_cases c : Int32.ofNat L9 ≤ p
  · rw [if_pos c]; show (if Int32.ofNat L9 ≤ p then _ else _) = _
    rw [if_pos c]; rfl
  · rw [if_neg c]; show (if Int32.ofNat L9 ≤ p then _ else _) = _
    rw [if_neg c, if_pos rfl, if_pos]
    refine ⟨hp, ?_⟩
    have h1 := Int32.not_le.mp c
    have h2 := ltT h1
    rw [oN (by omega)] at h2
    have z : (0 : Int32).toInt = 0 := rfl
    have h3 := leT (Int32.not_lt.mp hp)
    rw [show p.toNatClampNeg = p.toInt.toNat from rfl]; omega
theorem x_secC (h : Cx φ T I R z nS 0 n) (hS : nS < 4) (ha : 1 ≤ a ∧ a ≤ 9) (hb : 0 ≤ b ∧ b ≤ 2) : Cx φ T (up2 (up2 (up2 I (2 * nS + 11) 0 a) (2 * nS + 11) 1 b) 0 1 (Int32.ofNat nS + 1)) R z (nS + 1) 0 n := by
  have hh := h
  obtain ⟨hj, hl, hx, ⟨hm22, hm23⟩, hr⟩ := h; obtain ⟨hx0, hx1, hx2, hx3, hx4, hx5, hx6, hx7, hx8, hx9, hx10, hx11, hx12, hx13, hx14, hx15, hx16, hx17, hx18, hx19, hx20, hx21, hx22, hx23, hx24, hx25, hx26, hx27⟩ := hx; obtain ⟨⟨g1, g2⟩, r1, r2, r3, r4, r5, r6, r7⟩ := hr
  obtain ⟨J', hJ⟩ : ∃ J', J' = up2 (up2 (up2 I (2 * nS + 11) 0 a) (2 * nS + 11) 1 b) 0 1 (Int32.ofNat nS + 1) := ⟨_, rfl⟩
  rw [← hJ]
  have eV : ∀ v, v ≠ 0 → v ≠ 2 * nS + 11 → J' v = I v := fun v h1 h2 => by rw [hJ, up2_row h1, up2_row h2, up2_row h2]
  have e0 : J' 0 1 = Int32.ofNat (nS + 1) := by rw [hJ, up2_at, kN_s]
  have eK : ∀ k, k ≠ 1 → J' 0 k = I 0 k := fun k h1 => by rw [hJ, up2_k h1, up2_row (by omega), up2_row (by omega)]
  have eA : J' (2 * nS + 11) 0 = a := by rw [hJ, up2_row (by omega), up2_k (by omega), up2_at]
  have eB : J' (2 * nS + 11) 1 = b := by rw [hJ, up2_row (by omega), up2_at]
  have eC : ∀ k, k ≠ 0 → k ≠ 1 → J' (2 * nS + 11) k = I (2 * nS + 11) k := fun k h1 h2 => by rw [hJ, up2_row (by omega), up2_k h2, up2_k h1]
  clear hJ
  have sb := r4 nS (Nat.le_refl _) hS
  refine ⟨hj, hl, hh.2.2.1, ⟨by omega, by omega⟩, ⟨e0, ?_⟩, fun i hi => absurd hi (by omega), fun i h1 h2 => ?_, fun i hi => ?_, fun i h1 h2 => ?_, fun i hi => ?_, ?_, ?_⟩
  · rw [eK 4 (by omega), g2]
  · rw [eV _ (by omega) (by omega), eV _ (by omega) (by omega), eV _ (by omega) (by omega), eV _ (by omega) (by omega), eV _ (by omega) (by omega)]
    exact r2 i (by omega) h2
  · by_cases q : i = nS
    · subst q
      have z0 : (0 : Int32).toInt = 0 := rfl
      have z1 : (1 : Int32).toInt = 1 := rfl
      have z9 : (9 : Int32).toInt = 9 := rfl
      have z2 : (2 : Int32).toInt = 2 := rfl
      have a1 := leT ha.1
      have a2 := leT ha.2
      have b1 := leT hb.1
      have b2 := leT hb.2
      refine ⟨?_, ?_, ?_, ?_, ?_, ?_, ?_⟩
      · rw [eA]; omega
      · rw [eB]; omega
      · rw [eC 2 (by omega) (by omega), sb.1 2 (by omega)]; omega
      · rw [eC 3 (by omega) (by omega), sb.1 3 (by omega)]
      · rw [eC 4 (by omega) (by omega), sb.1 4 (by omega)]; omega
      · intro k hk
        rw [eV _ (by omega) (by omega), sb.2 k hk]; omega
      · rw [eC 6 (by omega) (by omega), sb.1 6 (by omega)]; omega
    · rw [eV _ (by omega) (by omega), eV _ (by omega) (by omega)]
      exact r3 i (by omega)
  · rw [eV _ (by omega) (by omega), eV _ (by omega) (by omega)]
    exact r4 i (by omega) h2
  · rw [eV _ (by omega) (by omega)]
    exact r5 i hi
  · rw [eV _ (by omega) (by omega)]
    exact r6
  · obtain ⟨s1, s2, s3⟩ := r7
    have d0 : ∀ F : Nat → Nat → Int32, dryS F 0 = 0 := fun F => rfl
    have u1 := eK 11 (by omega)
    have u2 := eK 10 (by omega)
    rw [d0] at s1
    unfold SumR
    rw [d0, u1, u2]
    exact ⟨s1, s2, s3⟩
theorem x_secF (h : Cx φ T I R (mZ τ) nS 0 n) (hS : nS < 4) (ha : 1 ≤ a ∧ a ≤ 9) (hb : 0 ≤ b ∧ b ≤ 2) : ∃ J', f_X4_section (φ 0) a b (pt φ T I R τ) = some (Int32.ofNat nS, pt φ T J' R τ) ∧ Cx φ T J' R (mZ τ) (nS + 1) 0 n ∧ (∀ k, k ≠ 1 → J' 0 k = I 0 k) ∧ J' 10 = I 10 := by
  have hh := h
  obtain ⟨hj, hl, hx, ⟨hm22, hm23⟩, hr⟩ := h; obtain ⟨hx0, hx1, hx2, hx3, hx4, hx5, hx6, hx7, hx8, hx9, hx10, hx11, hx12, hx13, hx14, hx15, hx16, hx17, hx18, hx19, hx20, hx21, hx22, hx23, hx24, hx25, hx26, hx27⟩ := hx; obtain ⟨⟨g1, g2⟩, r1, r2, r3, r4, r5, r6, r7⟩ := hr
  have Q1 := x_req (pt φ T I R τ) ha.1 ha.2
  have Q2 := x_req (pt φ T I R τ) hb.1 hb.2
  have c4 : ¬ (4 : Int32) ≤ Int32.ofNat nS := by
    rw [show (4 : Int32) = Int32.ofNat 4 from rfl, kN_le (by omega) (by omega)]; omega
  have nn : ¬ Int32.ofNat nS < 0 := kN_nn (by omega)
  have tk : (Int32.ofNat nS).toNatClampNeg = nS := tnK (by omega)
  have r10 := hx10 nS hS
  have t11 := hx11 nS hS
  have q0 : (T 0).1 = 4 + 1 := by rw [hx0]
  have q1 : (T 1).1 = 100 + 2 := by rw [hx6]
  have q2 : (T (2 * nS + 11)).1 = 2 + 1 := by rw [t11]
  have w0 : 2 * nS + 11 ≠ 0 := by omega
  refine ⟨up2 (up2 (up2 I (2 * nS + 11) 0 a) (2 * nS + 11) 1 b) 0 1 (Int32.ofNat nS + 1), ?_, ?_, ?_, ?_⟩
  · rw [f_X4_section, b_X4_section_0, Q1, cl1_s, Q2, cl1_s, gI_pt hj q0, g1, if_neg c4, b_X4_section_26, x_st1, cl1_s, gR_pt hj q0, hx1, gI_pt hj q0, g1, aR_pt hj q1 nn (by rw [tk, hx6]; exact hS), tk, r10, pI_pt hj q2, pI_pt hj q2, gI_pt hj q0, nm, pI_pt hj q0, gI_pt hj q0, nm]
    rw [up2_at, up2_row (by omega), up2_row (by omega), g1]
    have z1 : (1 : Int32).toInt = 1 := rfl
    have eN : (Int32.ofNat nS).toInt = nS := kN_t (by omega)
    have e1 : (Int32.ofNat nS + 1).toInt = nS + 1 := by rw [tAdd (by omega) (by omega)]; omega
    have e2 : Int32.ofNat nS + 1 - 1 = Int32.ofNat nS := Int32.toInt_inj.mp (by rw [tSub (by omega) (by omega)]; omega)
    rw [e2]
  · exact x_secC hh hS ha hb
  · intro k hk
    rw [up2_k hk, up2_row (by omega), up2_row (by omega)]
  · rw [up2_row (by omega), up2_row (by omega), up2_row (by omega)]
end HP
