/-! A LOT WORKED: killed, withered, rolled, rested, fired -/
section W1
variable {φ : Nat → Nat} {T : Nat → Nat × Nat} {I J : Nat → Nat → Int32} {R : Nat → Nat → Option Nat} {τ : Mem} {nS nL n z : Nat}
variable {i : Nat} {v r q d : Int32}
def Wk (φ : Nat → Nat) (T : Nat → Nat × Nat) (I : Nat → Nat → Int32) (R : Nat → Nat → Option Nat) (nS n : Nat) (res : Option (Int32 × Mem)) : Prop :=
  ∃ J' τ' nL', res = some (1, pt φ T J' R τ') ∧ Cx φ T J' R (mZ τ') nS nL' (n + 1) ∧ J' 0 8 = I 0 8 ∧ J' 10 = I 10
theorem Wk.same (h : Cx φ T I R (mZ τ) nS nL n) {res : Option (Int32 × Mem)} (e : res = some (1, pt φ T I R τ)) : Wk φ T I R nS n res := ⟨I, τ, nL, e, h.mono (by omega), rfl, rfl⟩
theorem oneN (a : Nat) : 1 + Int32.ofNat a = Int32.ofNat (a + 1) := by rw [Int32.add_comm, kN_s]
theorem bl_of {c : Nat} {σ : Mem} (hc : 0 < c) (hc2 : c < 1000000) : ∃ b, b < c ∧ f_L_below v (Int32.ofNat c) σ = some (Int32.ofNat b, σ) := by
  have e : (Int32.ofNat c).toInt = c := kN_t hc2
  have h0 : 0 < (Int32.ofNat c).toInt := by omega
  refine ⟨blw v (Int32.ofNat c), ?_, x_below h0⟩
  have := blw_lt (v := v) h0
  omega
theorem rgN {a lo hi : Nat} (h : lo ≤ a ∧ a ≤ hi) (hh : hi < 1000000) : Int32.ofNat lo ≤ Int32.ofNat a ∧ Int32.ofNat a ≤ Int32.ofNat hi :=
  ⟨(kN_le (by omega) (by omega)).mpr h.1, (kN_le (by omega) hh).mpr h.2⟩
theorem q0_of (h : Cx φ T I R (mZ τ) nS nL n) : (T 0).1 = 4 + 1 := by rw [h.m.2.2.2.2.2.2.2]
theorem lo (h : Cx φ T I R (mZ τ) nS nL n) (iL : i < nL) {k : Nat} (hk : k ≤ 17) : f_X4_ofLot (φ 0) (Int32.ofNat i) (Int32.ofNat k) (pt φ T I R τ) = some (vLI I i k, pt φ T I R τ) := x_ofLotC h iL hk
theorem x_wk161 (h : Cx φ T I R (mZ τ) nS nL n) (hn : n < 590) (iL : i < nL) (s0 : I (6 * i + 19) 0 = 0 ∨ I (6 * i + 19) 0 = 1) (hw : ¬ 2 * I (6 * i + 19) 1 < I (6 * i + 19) 3) : Wk φ T I R nS n (b_L_isWorked_161 (some (φ 0)) (Int32.ofNat i) q (pt φ T I R τ)) := by
  have hj := h.hj
  have q0 := q0_of h
  have L5 : f_X4_ofLot (φ 0) (Int32.ofNat i) 5 (pt φ T I R τ) = some (I (6 * i + 19) 5, pt φ T I R τ) := lo (k := 5) h iL (by omega)
  obtain ⟨b, hb, B⟩ := bl_of (c := 5) (v := q) (σ := pt φ T I R τ) (by omega) (by omega)
  have B' : f_L_below q 5 (pt φ T I R τ) = some (Int32.ofNat b, pt φ T I R τ) := B
  obtain ⟨J', P1, P2, P3, P4, P5⟩ := x_rollF (τ := τ) (f := Int32.ofNat (b + 1)) h (by omega) iL s0 hw (rgN (lo := 1) (hi := 5) (by omega) (by omega))
  have L0 : f_X4_ofLot (φ 0) (Int32.ofNat i) 0 (pt φ T J' R τ) = some (J' (6 * i + 19) 0, pt φ T J' R τ) := lo (k := 0) P2 iL (by omega)
  refine ⟨J', τ, nL, ?_, P2, by rw [P4], P5⟩
  rw [b_L_isWorked_161, ob_pt hj q0, L5, cl1_s, B', cl1_s, nm, oneN, ob_pt hj q0, P1, cl1_s, nm, if_pos rfl, ob_pt hj q0, L0, cl1_s, if_pos P3, b_L_isWorked_209, bo1]
theorem x_wk31 (h : Cx φ T I R (mZ τ) nS nL n) (hn : n < 590) (iL : i < nL) (s0 : I (6 * i + 19) 0 = 0) (k0 : I (6 * i + 19) 10 = 0) (hw : 2 * I (6 * i + 19) 1 < I (6 * i + 19) 3) : Wk φ T I R nS n (b_L_isWorked_31 (some (φ 0)) (Int32.ofNat i) (I (6 * i + 19) 0) r q (I (6 * i + 19) 1) 0 (pt φ T I R τ)) := by
  have hj := h.hj
  have q0 := q0_of h
  have L10 : f_X4_ofLot (φ 0) (Int32.ofNat i) 10 (pt φ T I R τ) = some (0, pt φ T I R τ) := by
    have A : f_X4_ofLot (φ 0) (Int32.ofNat i) 10 (pt φ T I R τ) = some (b01 (I (6 * i + 19) 10), pt φ T I R τ) := lo (k := 10) h iL (by omega)
    rw [A, k0]; rfl
  have L3 : f_X4_ofLot (φ 0) (Int32.ofNat i) 3 (pt φ T I R τ) = some (I (6 * i + 19) 3, pt φ T I R τ) := lo (k := 3) h iL (by omega)
  obtain ⟨b, hb, B⟩ := bl_of (c := 5) (v := r) (σ := pt φ T I R τ) (by omega) (by omega)
  have B' : f_L_below r 5 (pt φ T I R τ) = some (Int32.ofNat b, pt φ T I R τ) := B
  rw [b_L_isWorked_31, if_pos s0, ob_pt hj q0, L10, cl1_s, if_pos rfl, if_pos rfl, ob_pt hj q0, L3, cl1_s, B', cl1_s]
  by_cases c : Int32.ofNat b = 0
  · obtain ⟨J', P1, P2, P3, P4, P5⟩ := x_killF (τ := τ) h iL s0 k0
    have L10' : f_X4_ofLot (φ 0) (Int32.ofNat i) 10 (pt φ T J' R τ) = some (1, pt φ T J' R τ) := by
      have A : f_X4_ofLot (φ 0) (Int32.ofNat i) 10 (pt φ T J' R τ) = some (b01 (J' (6 * i + 19) 10), pt φ T J' R τ) := lo (k := 10) P2 iL (by omega)
      rw [A, P3]; rfl
    refine ⟨J', τ, nL, ?_, P2, by rw [P4], P5⟩
    rw [if_pos c, ob_pt hj q0, P1, cl1_s, dv5, nm, if_pos rfl, ob_pt hj q0, L10', cl1_s, if_pos rfl, b_L_isWorked_99, bo1]
  · obtain ⟨b1, hb1, B1⟩ := bl_of (c := 4) (v := q) (σ := pt φ T I R τ) (by omega) (by omega)
    have B1' : f_L_below q 4 (pt φ T I R τ) = some (Int32.ofNat b1, pt φ T I R τ) := B1
    obtain ⟨b2, hb2, B2⟩ := bl_of (c := 3) (v := r >>> (2 &&& 31)) (σ := pt φ T I R τ) (by omega) (by omega)
    have B2' : f_L_below (r >>> (2 &&& 31)) 3 (pt φ T I R τ) = some (Int32.ofNat b2, pt φ T I R τ) := B2
    obtain ⟨-, -, ⟨u1, u2, -⟩, ⟨-, dp⟩, -, ⟨w1, w2⟩, -⟩ := h.lr iL
    have d2 : (I (6 * i + 19) 1).toInt < (I (6 * i + 19) 3).toInt := by
      have z2 : (2 : Int32).toInt = 2 := rfl
      have d0 := dp (by rw [s0]; decide)
      have d1 := (h.dry iL).2
      have e := ltT hw
      rw [tMul (by rw [z2]; omega) (by rw [z2]; omega), z2] at e
      omega
    obtain ⟨v, J', P1, P2, P3, P4, P5, P6, P7⟩ := x_withF (τ := τ) (m := b1 + 1) (c := Int32.ofNat (b2 + 1)) h (by omega) iL s0 k0 d2 (by omega) (rgN (lo := 1) (hi := 3) (by omega) (by omega))
    have L3' : f_X4_ofLot (φ 0) (Int32.ofNat i) 3 (pt φ T J' R τ) = some (J' (6 * i + 19) 3, pt φ T J' R τ) := lo (k := 3) P5 iL (by omega)
    refine ⟨J', τ, nL, ?_, P5, by rw [P6], P7⟩
    rw [if_neg c, B1', cl1_s, nm, oneN, nm, B2', cl1_s, nm, oneN, ob_pt hj q0, P1, cl1_s, if_neg (Int32.not_le.mpr P2), ob_pt hj q0, L3', cl1_s, P3, if_neg (Int32.not_lt.mpr P4), b_L_isWorked_143, bo1]
/-- the greatest heat and the minutes out of one number -/
theorem hm_t {a m : Nat} (ha : 1 ≤ a ∧ a ≤ 5) (hm : 1 ≤ m ∧ m ≤ 30) : (0 : Int32) ≤ 100 * Int32.ofNat a + Int32.ofNat m ∧ (100 * Int32.ofNat a + Int32.ofNat m) / 100 = Int32.ofNat a ∧ (100 * Int32.ofNat a + Int32.ofNat m) - (100 * Int32.ofNat a + Int32.ofNat m) / 100 * 100 = Int32.ofNat m := by
  have zc : (100 : Int32).toInt = 100 := rfl
  have z0 : (0 : Int32).toInt = 0 := rfl
  have ea : (Int32.ofNat a).toInt = a := kN_t (by omega)
  have em : (Int32.ofNat m).toInt = m := kN_t (by omega)
  have e1 : (100 * Int32.ofNat a).toInt = 100 * a := by rw [tMul (by rw [zc, ea]; omega) (by rw [zc, ea]; omega), zc, ea]
  have e2 : (100 * Int32.ofNat a + Int32.ofNat m).toInt = 100 * a + m := by rw [tAdd (by omega) (by omega), e1, em]
  have e3 : ((100 * Int32.ofNat a + Int32.ofNat m) / 100).toInt = a := by rw [divP 100 zc (by omega) (by omega), e2]; omega
  have e4 : (100 * Int32.ofNat a + Int32.ofNat m) / 100 = Int32.ofNat a := Int32.toInt_inj.mp (by rw [e3, ea])
  refine ⟨Int32.le_iff_toInt_le.mpr (by omega), e4, ?_⟩
  rw [e4]
  have e5 : (Int32.ofNat a * 100).toInt = a * 100 := by rw [tMul (by rw [zc, ea]; omega) (by rw [zc, ea]; omega), zc, ea]
  exact Int32.toInt_inj.mp (by rw [tSub (by omega) (by omega), e2, e5, em]; omega)
theorem x_wk268 (h : Cx φ T I R (mZ τ) nS nL n) (hn : n < 590) (iL : i < nL) (s0 : I (6 * i + 19) 0 = 1) : Wk φ T I R nS n (b_L_isWorked_268 (some (φ 0)) (Int32.ofNat i) (I (6 * i + 19) 1) (pt φ T I R τ)) := by
  have hj := h.hj
  have hN := h.m.2.2.2.2.1
  have q0 := q0_of h
  have z0 : (0 : Int32).toInt = 0 := rfl
  obtain ⟨J1, A1, A2, A3⟩ := x_bestF (τ := τ) h iL s0
  have r1 : J1 (6 * i + 19) = I (6 * i + 19) := A2 _ (by omega)
  have s1 : J1 (6 * i + 19) 0 = 1 := by rw [r1]; exact s0
  rw [b_L_isWorked_268, ob_pt hj q0, A1, cl1_s]
  rcases BFV_gd (I := I) (i := i) with g | ⟨a, m, ha, hm, g, gd⟩
  · obtain ⟨J2, P1, P2, P3, P4, P5, P6, P7⟩ := x_fireF (τ := τ) A3 (by omega) iL s1 (m := 30) (h0 := 5) (by omega) (by decide)
    have P : f_X4_fire (φ 0) (Int32.ofNat i) 5 30 (pt φ T J1 R τ) = some (itn (hs 5 (J1 (6 * i + 19) 1)) 30 (J1 (6 * i + 19)) 3, pt φ T J2 R τ) := P1
    refine ⟨J2, τ, nL, ?_, P2, by rw [P6, A2 0 (by omega)], by rw [P7, A2 10 (by omega)]⟩
    rw [g, if_neg (by decide), ob_pt hj q0, P, cl1_s, if_neg (Int32.not_lt.mpr P3), b_L_isWorked_296, bo1]
  · obtain ⟨t1, t2, t3⟩ := hm_t ha hm
    obtain ⟨J2, P1, P2, P3, P4, P5, P6, P7⟩ := x_fireF (τ := τ) A3 (by omega) iL s1 (m := m) (h0 := Int32.ofNat a) hm (rgN (lo := 1) (hi := 5) ha (by omega))
    have rm' : ∀ {β : Type} {K : Int32 → Option β}, rm (BFV I i) 100 K = K (BFV I i - BFV I i / 100 * 100) := fun {β K} => if_neg (by decide)
    rw [r1] at P1 P5
    have s2 := P5 gd
    have L0 : f_X4_ofLot (φ 0) (Int32.ofNat i) 0 (pt φ T J2 R τ) = some (J2 (6 * i + 19) 0, pt φ T J2 R τ) := lo (k := 0) P2 iL (by omega)
    have N0 : f_X4_note (φ 0) (Int32.ofNat i) 0 (pt φ T J2 R τ) = some (NV J2 i 0, pt φ T J2 R τ) := x_note (k := 0) P2 (InN.of iL (by omega)) (tnK (by omega)) s2 (by omega)
    have N1 : f_X4_note (φ 0) (Int32.ofNat i) 1 (pt φ T J2 R τ) = some (NV J2 i 1, pt φ T J2 R τ) := x_note (k := 1) P2 (InN.of iL (by omega)) (tnK (by omega)) s2 (by omega)
    have N2 : f_X4_note (φ 0) (Int32.ofNat i) 2 (pt φ T J2 R τ) = some (NV J2 i 2, pt φ T J2 R τ) := x_note (k := 2) P2 (InN.of iL (by omega)) (tnK (by omega)) s2 (by omega)
    have b0 := NV_b P2 iL (k := 0) (by omega)
    have b1 := NV_b P2 iL (k := 1) (by omega)
    have b2 := NV_b P2 iL (k := 2) (by omega)
    have c27 : ¬ 27 < NV J2 i 0 + NV J2 i 1 + NV J2 i 2 := fun y => by
      have z27 : (27 : Int32).toInt = 27 := rfl
      have := ltT y
      have e1 : (NV J2 i 0 + NV J2 i 1).toInt = (NV J2 i 0).toInt + (NV J2 i 1).toInt := tAdd (by omega) (by omega)
      rw [tAdd (by omega) (by omega), e1] at this
      omega
    refine ⟨J2, τ, nL, ?_, P2, by rw [P6, A2 0 (by omega)], by rw [P7, A2 10 (by omega)]⟩
    rw [if_pos (by rw [g]; exact t1), dv_c (by decide), rm', g, t3, t2, ob_pt hj q0, P1, cl1_s, nm, if_neg (by rw [Int32.mul_comm]; exact gd), ob_pt hj q0, L0, cl1_s, if_pos s2, ob_pt hj q0, N0, cl1_s, ob_pt hj q0, N1, cl1_s, nm, ob_pt hj q0, N2, cl1_s, nm, if_neg c27, b_L_isWorked_362, bo1]
end W1
