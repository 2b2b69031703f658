/-! A LOT SOLD -/
section SO
variable {φ : Nat → Nat} {T : Nat → Nat × Nat} {I J : Nat → Nat → Int32} {R : Nat → Nat → Option Nat} {τ : Mem} {nS nL n z : Nat}
variable {i : Nat} {b d s : Int32} {P : Int}
theorem x_sdL (h : Cx φ T I R (mZ τ) nS nL n) (hM : Mon I P n) (iL : i < nL) (hz : ∀ k, k < 4 → I (6 * i + 23) k = 0) (hb : I 0 10 = s + (if 0 ≤ b then d else 0)) :
    b_L_isSold_97 (some (φ 0)) (Int32.ofNat i) s d b (pt φ T I R τ) = some (1, pt φ T I R τ) := by
  have hj := h.hj
  have hN := h.m.2.2.2.2.1
  have q0 : (T 0).1 = 4 + 1 := by rw [h.m.2.2.2.2.2.2.2]
  have z0 : (0 : Int32).toInt = 0 := rfl
  have BD : ∀ w, w < 4 → f_X4_bidOf (φ 0) (Int32.ofNat w) (Int32.ofNat i) (pt φ T I R τ) = some (-1, pt φ T I R τ) := fun w hw => by
    rw [x_bidOf h (InN.of iL (by omega)) (tnK (by omega)) hw, hz w hw, if_pos (by decide)]
  have nn : ∀ k, k < 4 → (0 : Int32) ≤ I 10 k := fun k hk => Int32.le_iff_toInt_le.mpr (by have := (hM.1 k hk).1; omega)
  have M1 : f_X4_many (φ 0) (11 + 0) (pt φ T I R τ) = some (I 10 0, pt φ T I R τ) := x_many (k := 11) h (by omega)
  have M2 : f_X4_many (φ 0) (11 + 1) (pt φ T I R τ) = some (I 10 1, pt φ T I R τ) := x_many (k := 12) h (by omega)
  have M3 : f_X4_many (φ 0) (11 + 2) (pt φ T I R τ) = some (I 10 2, pt φ T I R τ) := x_many (k := 13) h (by omega)
  have M4 : f_X4_many (φ 0) (11 + 3) (pt φ T I R τ) = some (I 10 3, pt φ T I R τ) := x_many (k := 14) h (by omega)
  have M0 : f_X4_many (φ 0) 10 (pt φ T I R τ) = some (I 0 10, pt φ T I R τ) := x_many (k := 10) h (by omega)
  have B0 : f_X4_bidOf (φ 0) 0 (Int32.ofNat i) (pt φ T I R τ) = some (-1, pt φ T I R τ) := BD 0 (by omega)
  have B1 : f_X4_bidOf (φ 0) 1 (Int32.ofNat i) (pt φ T I R τ) = some (-1, pt φ T I R τ) := BD 1 (by omega)
  have B2 : f_X4_bidOf (φ 0) 2 (Int32.ofNat i) (pt φ T I R τ) = some (-1, pt φ T I R τ) := BD 2 (by omega)
  have B3 : f_X4_bidOf (φ 0) 3 (Int32.ofNat i) (pt φ T I R τ) = some (-1, pt φ T I R τ) := BD 3 (by omega)
  rw [b_L_isSold_97, show (40 : Nat) = 35 + 1 + 1 + 1 + 1 + 1 from rfl, l_L_isSold_100,
    itr_succ, b_L_isSold_100, if_neg (by decide), ob_pt hj q0, B0, cl1_s, if_pos rfl, nm, ob_pt hj q0, M1, cl1_s, if_pos (nn 0 (by omega)), nm, ii0,
    itr_succ, b_L_isSold_100, if_neg (by decide), ob_pt hj q0, B1, cl1_s, if_pos rfl, nm, ob_pt hj q0, M2, cl1_s, if_pos (nn 1 (by omega)), nm, ii1,
    itr_succ, b_L_isSold_100, if_neg (by decide), ob_pt hj q0, B2, cl1_s, if_pos rfl, nm, ob_pt hj q0, M3, cl1_s, if_pos (nn 2 (by omega)), nm, ii2,
    itr_succ, b_L_isSold_100, if_neg (by decide), ob_pt hj q0, B3, cl1_s, if_pos rfl, nm, ob_pt hj q0, M4, cl1_s, if_pos (nn 3 (by omega)), nm, ii3,
    itr_succ, b_L_isSold_100, if_pos (by decide), ob_pt hj q0, M0, cl1_s]
  by_cases c : 0 ≤ b
  · rw [if_pos c, b_L_isSold_156, nm, hb, if_pos c, if_pos rfl, b_L_isSold_165, bo1]
  · rw [if_neg c, b_L_isSold_156, nm, hb, if_neg c, if_pos rfl, b_L_isSold_165, bo1]
theorem x_sold (h : Cx φ T I R (mZ τ) nS nL n) (hM : Mon I P n) (hn : n < 590) (iL : i < nL) (ho : ¬ I (6 * i + 22) 0 ≤ 0) :
    ∃ J', f_L_isSold (some (φ 0)) (Int32.ofNat i) (pt φ T I R τ) = some (1, pt φ T J' R τ) ∧ Cx φ T J' R (mZ τ) nS nL (n + 1) ∧ Mon J' P (n + 1) := by
  have hj := h.hj
  have hN := h.m.2.2.2.2.1
  have q0 : (T 0).1 = 4 + 1 := by rw [h.m.2.2.2.2.2.2.2]
  obtain ⟨b, J', K1, K2, K3, K4, K5, K6, K7⟩ := x_knockF (τ := τ) h hM (by omega) iL ho
  have W := x_wouldPay (τ := τ) h (InN.of iL (by omega)) (tnK (k := i) (by omega)) ho
  have M6 : f_X4_many (φ 0) 6 (pt φ T I R τ) = some (I 0 8, pt φ T I R τ) := x_many (k := 6) h (by omega)
  have M10 : f_X4_many (φ 0) 10 (pt φ T I R τ) = some (I 0 10, pt φ T I R τ) := x_many (k := 10) h (by omega)
  have M6' : f_X4_many (φ 0) 6 (pt φ T J' R τ) = some (J' 0 8, pt φ T J' R τ) := x_many (k := 6) K2 (by omega)
  have L1 : f_X4_ofLot (φ 0) (Int32.ofNat i) 1 (pt φ T I R τ) = some (I (6 * i + 19) 1, pt φ T I R τ) := x_ofLotC (k := 1) h iL (by omega)
  have L13 : f_X4_ofLot (φ 0) (Int32.ofNat i) 13 (pt φ T J' R τ) = some (J' (6 * i + 22) 0, pt φ T J' R τ) := x_ofLotC (k := 13) K2 iL (by omega)
  have L0 : f_X4_ofLot (φ 0) (Int32.ofNat i) 0 (pt φ T J' R τ) = some (J' (6 * i + 19) 0, pt φ T J' R τ) := x_ofLotC (k := 0) K2 iL (by omega)
  refine ⟨J', ?_, K2, K3⟩
  rw [f_L_isSold, b_L_isSold_0, ob_pt hj q0, W, cl1_s, ob_pt hj q0, M6, cl1_s, ob_pt hj q0, M10, cl1_s, ob_pt hj q0, L1, cl1_s, ob_pt hj q0, K1, cl1_s, ob_pt hj q0, M6', cl1_s, nm, if_pos K4, ob_pt hj q0, L13, cl1_s, if_pos K5]
  rcases K7 with ⟨rfl, k1, k2, k3⟩ | ⟨k0, k1, k2⟩
  · rw [if_pos (by decide), b_L_isSold_68, ob_pt hj q0, L0, cl1_s, k1, if_neg (by decide), b_L_isSold_83, if_pos rfl, if_neg (by decide), k2, if_pos (by decide)]
    exact x_sdL K2 K3 iL K6 (by rw [k3, if_neg (by decide), Int32.add_zero])
  · rw [if_neg (Int32.not_lt.mpr k0), b_L_isSold_68, ob_pt hj q0, L0, cl1_s, k1, if_pos rfl, b_L_isSold_83, if_pos rfl, if_pos k0]
    exact x_sdL K2 K3 iL K6 (by rw [k2, if_pos k0])
end SO
