/-! A LOT TASTED AND TOLD -/
section TO
variable {φ : Nat → Nat} {T : Nat → Nat × Nat} {I J : Nat → Nat → Int32} {R : Nat → Nat → Option Nat} {τ : Mem} {nS nL n z : Nat}
variable {i j : Nat} {c : Int32}
theorem x_tdL (h : Cx φ T I R (mZ τ) nS nL n) (hn : n < 600) (iL : i < nL) (s0 : I (6 * i + 19) 0 = 2) : l_L_isTold_71 40 (some (φ 0)) (Int32.ofNat i) 0 (pt φ T I R τ) = some (1, pt φ T I R τ) := by
  have hj := h.hj
  have hN := h.m.2.2.2.2.1
  have q0 : (T 0).1 = 4 + 1 := by rw [h.m.2.2.2.2.2.2.2]
  have z0 : (0 : Int32).toInt = 0 := rfl
  have z4 : (4 : Int32).toInt = 4 := rfl
  have z9 : (9 : Int32).toInt = 9 := rfl
  have ip : InN (Int32.ofNat i) nL := InN.of iL (by omega)
  have it : (Int32.ofNat i).toNatClampNeg = i := tnK (by omega)
  have N : ∀ k, k < 3 → f_X4_note (φ 0) (Int32.ofNat i) (Int32.ofNat k) (pt φ T I R τ) = some (NV I i k, pt φ T I R τ) := fun k hk => x_note h ip it s0 hk
  have A : ∀ k, k < 3 → f_X4_taste (φ 0) (Int32.ofNat i) (Int32.ofNat k) (pt φ T I R τ) = some (TV I (NV I i k), pt φ T I R τ) := fun k hk => x_taste h (by omega) ip it s0 hk
  have c1 : ∀ k, k < 3 → ¬ NV I i k < 0 := fun k hk y => by have := ltT y; have := (NV_b h iL hk).1; omega
  have c2 : ∀ k, k < 3 → ¬ 9 < NV I i k := fun k hk y => by have := ltT y; have := (NV_b h iL hk).2; omega
  have c3 : ∀ k, k < 3 → (if 0 ≤ TV I (NV I i k) - NV I i k then TV I (NV I i k) - NV I i k else 0 - (TV I (NV I i k) - NV I i k)) ≤ 4 := fun k hk => by
    have t := TV_near h hn (NV_b h iL hk)
    have e : (TV I (NV I i k) - NV I i k).toInt = (TV I (NV I i k)).toInt - (NV I i k).toInt := tSub (by omega) (by omega)
    rw [Int32.le_iff_toInt_le]
    split
    · omega
    · rw [tSub (by omega) (by omega)]; omega
  have N0 : f_X4_note (φ 0) (Int32.ofNat i) 0 (pt φ T I R τ) = some (NV I i 0, pt φ T I R τ) := N 0 (by omega)
  have N1 : f_X4_note (φ 0) (Int32.ofNat i) 1 (pt φ T I R τ) = some (NV I i 1, pt φ T I R τ) := N 1 (by omega)
  have N2 : f_X4_note (φ 0) (Int32.ofNat i) 2 (pt φ T I R τ) = some (NV I i 2, pt φ T I R τ) := N 2 (by omega)
  have A0 : f_X4_taste (φ 0) (Int32.ofNat i) 0 (pt φ T I R τ) = some (TV I (NV I i 0), pt φ T I R τ) := A 0 (by omega)
  have A1 : f_X4_taste (φ 0) (Int32.ofNat i) 1 (pt φ T I R τ) = some (TV I (NV I i 1), pt φ T I R τ) := A 1 (by omega)
  have A2 : f_X4_taste (φ 0) (Int32.ofNat i) 2 (pt φ T I R τ) = some (TV I (NV I i 2), pt φ T I R τ) := A 2 (by omega)
  rw [show (40 : Nat) = 36 + 1 + 1 + 1 + 1 from rfl, l_L_isTold_71,
    itr_succ, b_L_isTold_71, if_neg (by decide), ob_pt hj q0, N0, cl1_s, if_neg (c1 0 (by omega)), ob_pt hj q0, N0, cl1_s, if_neg (c2 0 (by omega)), ob_pt hj q0, A0, cl1_s, ob_pt hj q0, N0, cl1_s, nm, nm, if_pos (c3 0 (by omega)), nm, ii0,
    itr_succ, b_L_isTold_71, if_neg (by decide), ob_pt hj q0, N1, cl1_s, if_neg (c1 1 (by omega)), ob_pt hj q0, N1, cl1_s, if_neg (c2 1 (by omega)), ob_pt hj q0, A1, cl1_s, ob_pt hj q0, N1, cl1_s, nm, nm, if_pos (c3 1 (by omega)), nm, ii1,
    itr_succ, b_L_isTold_71, if_neg (by decide), ob_pt hj q0, N2, cl1_s, if_neg (c1 2 (by omega)), ob_pt hj q0, N2, cl1_s, if_neg (c2 2 (by omega)), ob_pt hj q0, A2, cl1_s, ob_pt hj q0, N2, cl1_s, nm, nm, if_pos (c3 2 (by omega)), nm, ii2,
    itr_succ, b_L_isTold_71, if_pos (by decide), bo1]
theorem x_told (h : Cx φ T I R (mZ τ) nS nL n) (hn : n < 590) (iL : i < nL) (s0 : I (6 * i + 19) 0 = 2) (hj3 : j < 3) (hc : -2 ≤ c ∧ c ≤ 2) :
    ∃ J', f_L_isTold (some (φ 0)) (Int32.ofNat j) (Int32.ofNat i) c (pt φ T I R τ) = some (1, pt φ T J' R τ) ∧ Cx φ T J' R (mZ τ) nS nL (n + 2) ∧ J' 0 8 = I 0 8 ∧ J' 10 = I 10 := by
  have hj := h.hj
  have q0 : (T 0).1 = 4 + 1 := by rw [h.m.2.2.2.2.2.2.2]
  obtain ⟨J1, A1, A2, A3, A4⟩ := x_leanF (τ := τ) h hj3 hc
  have s1 : J1 (6 * i + 19) 0 = 2 := by rw [A4 _ (by omega)]; exact s0
  obtain ⟨g, J2, B1, ⟨g1, g2⟩, B2, B3, B4, B5⟩ := x_repeatF (τ := τ) A3 (by omega) iL s1 hj3
  obtain ⟨-, T1⟩ := x_ofTasC (τ := τ) A3 (by omega) hj3
  obtain ⟨T2, T3⟩ := x_ofTasC (τ := τ) B4 (by omega) hj3
  have s2 : J2 (6 * i + 19) 0 = 2 := by rw [B5 _ (by omega)]; exact s1
  refine ⟨J2, ?_, B4, by rw [B5 0 (by omega), A4 0 (by omega)], by rw [B5 10 (by omega), A4 10 (by omega)]⟩
  rw [f_L_isTold, b_L_isTold_0, ob_pt hj q0, A1, cl1_s, if_pos (Int32.not_lt.mp A2), ob_pt hj q0, T1, cl1_s, ob_pt hj q0, B1, cl1_s, ob_pt hj q0, T3, cl1_s, nm, if_pos B3, ob_pt hj q0, T2, cl1_s, if_pos B2, if_neg (Int32.not_lt.mpr g1), if_pos g2]
  exact x_tdL B4 (by omega) iL s2
end TO
