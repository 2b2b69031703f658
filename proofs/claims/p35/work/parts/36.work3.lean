/-! A LOT WORKED: which way -/
section W3
variable {φ : Nat → Nat} {T : Nat → Nat × Nat} {I J : Nat → Nat → Int32} {R : Nat → Nat → Option Nat} {τ : Mem} {nS nL n z : Nat}
variable {i : Nat} {v r q d : Int32}
theorem x_wk210 (h : Cx φ T I R (mZ τ) nS nL n) (hn : n < 590) (iL : i < nL) : Wk φ T I R nS n (b_L_isWorked_210 (some (φ 0)) (Int32.ofNat i) (I (6 * i + 19) 0) r q (I (6 * i + 19) 1) (pt φ T I R τ)) := by
  have hj := h.hj
  have hN := h.m.2.2.2.2.1
  have q0 := q0_of h
  have z0 : (0 : Int32).toInt = 0 := rfl
  obtain ⟨-, ⟨k10, k11, k12⟩, -, -, -, -, -, ⟨g9, -⟩, -⟩ := h.lr iL
  have W378 : Wk φ T I R nS n (b_L_isWorked_378 (pt φ T I R τ)) := Wk.same h (by rw [b_L_isWorked_378, bo1])
  rw [b_L_isWorked_210]
  by_cases c1 : I (6 * i + 19) 0 = 1
  · have L10 : f_X4_ofLot (φ 0) (Int32.ofNat i) 10 (pt φ T I R τ) = some (b01 (I (6 * i + 19) 10), pt φ T I R τ) := lo (k := 10) h iL (by omega)
    rw [if_pos c1, ob_pt hj q0, L10, cl1_s, b01_of k10]
    by_cases c2 : I (6 * i + 19) 10 = 0
    · obtain ⟨b, hb, B⟩ := bl_of (c := 3) (v := r) (σ := pt φ T I R τ) (by omega) (by omega)
      have B' : f_L_below r 3 (pt φ T I R τ) = some (Int32.ofNat b, pt φ T I R τ) := B
      rw [if_pos c2, B', cl1_s]
      by_cases c3 : Int32.ofNat b = 1
      · obtain ⟨b1, hb1, B1⟩ := bl_of (c := 9) (v := q) (σ := pt φ T I R τ) (by omega) (by omega)
        have B1' : f_L_below q 9 (pt φ T I R τ) = some (Int32.ofNat b1, pt φ T I R τ) := B1
        obtain ⟨b2, hb2, B2⟩ := bl_of (c := 4) (v := r >>> (2 &&& 31)) (σ := pt φ T I R τ) (by omega) (by omega)
        have B2' : f_L_below (r >>> (2 &&& 31)) 4 (pt φ T I R τ) = some (Int32.ofNat b2, pt φ T I R τ) := B2
        obtain ⟨v, J', P1, P2, P3, P4, P5⟩ := x_restF (τ := τ) (p := Int32.ofNat (b1 + 1)) (c := Int32.ofNat (b2 + 1)) h iL c1 c2 (rgN (lo := 1) (hi := 20) (by omega) (by omega)) (rgN (lo := 1) (hi := 4) (by omega) (by omega))
        refine ⟨J', τ, nL, ?_, P3, by rw [P4], P5⟩
        rw [if_pos c3, B1', cl1_s, nm, oneN, nm, B2', cl1_s, nm, oneN, ob_pt hj q0, P1, cl1_s, if_neg (Int32.not_lt.mpr P2), b_L_isWorked_267, bo1]
      · rw [if_neg c3]; exact x_wk268 h hn iL c1
    · rw [if_neg c2]; exact x_wk268 h hn iL c1
  · rw [if_neg c1]
    by_cases c2 : I (6 * i + 19) 0 = 2
    · have L13 : f_X4_ofLot (φ 0) (Int32.ofNat i) 13 (pt φ T I R τ) = some (I (6 * i + 22) 0, pt φ T I R τ) := lo (k := 13) h iL (by omega)
      have L9 : f_X4_ofLot (φ 0) (Int32.ofNat i) 9 (pt φ T I R τ) = some (I (6 * i + 19) 9, pt φ T I R τ) := lo (k := 9) h iL (by omega)
      have L12 : f_X4_ofLot (φ 0) (Int32.ofNat i) 12 (pt φ T I R τ) = some (b01 (I (6 * i + 19) 12), pt φ T I R τ) := lo (k := 12) h iL (by omega)
      rw [if_pos c2, ob_pt hj q0, L13, cl1_s]
      by_cases c3 : I (6 * i + 22) 0 ≤ 0
      · have G := x_wk442 (r := r) (q := q) h hn iL c2 c3
        rw [if_pos c3, ob_pt hj q0, L9, cl1_s]
        by_cases c4 : 0 ≤ I (6 * i + 19) 9
        · rw [if_pos c4]; exact G
        · rw [if_neg c4, ob_pt hj q0, L12, cl1_s, b01_of k12]
          by_cases c5 : I (6 * i + 19) 12 = 0
          · have g2 : I 0 4 = Int32.ofNat nL := h.2.2.2.2.1.2
            have M2 : f_X4_many (φ 0) 2 (pt φ T I R τ) = some (Int32.ofNat nL, pt φ T I R τ) := by rw [← g2]; exact x_many (k := 2) h (by omega)
            rw [if_pos c5, ob_pt hj q0, M2, cl1_s]
            by_cases c6 : 14 ≤ Int32.ofNat nL
            · rw [if_pos c6]; exact G
            · obtain ⟨b, hb, B⟩ := bl_of (c := 2) (v := r) (σ := pt φ T I R τ) (by omega) (by omega)
              have B' : f_L_below r 2 (pt φ T I R τ) = some (Int32.ofNat b, pt φ T I R τ) := B
              rw [if_neg c6, B', cl1_s]
              by_cases c7 : Int32.ofNat b = 0
              · have h13 : nL ≤ 13 := by
                  rw [show (14 : Int32) = Int32.ofNat 14 from rfl, kN_le (by omega) (by omega)] at c6
                  omega
                have g9' : (I (6 * i + 19) 9).toInt < 0 := by
                  have := ltT (Int32.not_le.mp c4)
                  omega
                obtain ⟨v, J', nL', P1, P2, P3, P4, P5, P6, P7⟩ := x_sortF (τ := τ) h iL h13 c2 c3 g9' c5
                have L0 : f_X4_ofLot (φ 0) (Int32.ofNat i) 0 (pt φ T J' R τ) = some (J' (6 * i + 19) 0, pt φ T J' R τ) := lo (k := 0) P5 (by omega) (by omega)
                refine ⟨J', τ, nL', ?_, P5, P6 8 (by omega), P7⟩
                rw [if_pos c7, ob_pt hj q0, P1, cl1_s, if_neg P2, ob_pt hj q0, L0, cl1_s, if_pos P3, b_L_isWorked_441, bo1]
              · rw [if_neg c7]; exact G
          · rw [if_neg c5]; exact G
      · rw [if_neg c3]; exact W378
    · rw [if_neg c2]; exact W378
theorem x_wk144 (h : Cx φ T I R (mZ τ) nS nL n) (hn : n < 590) (iL : i < nL) {y : Int32} (hy : y ≠ 0 → (I (6 * i + 19) 0 = 0 ∨ I (6 * i + 19) 0 = 1) ∧ ¬ 2 * I (6 * i + 19) 1 < I (6 * i + 19) 3) : Wk φ T I R nS n (b_L_isWorked_144 (some (φ 0)) (Int32.ofNat i) (I (6 * i + 19) 0) r q (I (6 * i + 19) 1) y (pt φ T I R τ)) := by
  have G := x_wk210 (r := r) (q := q) h hn iL
  rw [b_L_isWorked_144]
  by_cases c1 : y = 0
  · rw [if_pos c1]; exact G
  · obtain ⟨y1, y2⟩ := hy c1
    have F := x_wk161 (q := q) h hn iL y1 y2
    rw [if_neg c1]
    by_cases c2 : I (6 * i + 19) 0 = 0
    · rw [if_pos c2]; exact F
    · obtain ⟨b, hb, B⟩ := bl_of (c := 3) (v := r) (σ := pt φ T I R τ) (by omega) (by omega)
      have B' : f_L_below r 3 (pt φ T I R τ) = some (Int32.ofNat b, pt φ T I R τ) := B
      rw [if_neg c2, B', cl1_s]
      by_cases c3 : Int32.ofNat b = 0
      · rw [if_pos c3]; exact F
      · rw [if_neg c3]; exact G
theorem x_wk31g (h : Cx φ T I R (mZ τ) nS nL n) (hn : n < 590) (iL : i < nL) {y : Int32} (hy : y ≠ 0 → (I (6 * i + 19) 0 = 0 ∨ I (6 * i + 19) 0 = 1) ∧ ¬ 2 * I (6 * i + 19) 1 < I (6 * i + 19) 3) (hy0 : y = 0 → ¬ 2 ≤ I (6 * i + 19) 0 → 2 * I (6 * i + 19) 1 < I (6 * i + 19) 3) : Wk φ T I R nS n (b_L_isWorked_31 (some (φ 0)) (Int32.ofNat i) (I (6 * i + 19) 0) r q (I (6 * i + 19) 1) y (pt φ T I R τ)) := by
  have hj := h.hj
  have q0 := q0_of h
  obtain ⟨-, ⟨k10, -⟩, -⟩ := h.lr iL
  have G := x_wk144 (r := r) (q := q) h hn iL hy
  by_cases c1 : I (6 * i + 19) 0 = 0
  · by_cases c2 : I (6 * i + 19) 10 = 0
    · by_cases c3 : y = 0
      · have := x_wk31 (r := r) (q := q) h hn iL c1 c2 (hy0 c3 (by rw [c1]; decide))
        rw [c3]; exact this
      · have L10 : f_X4_ofLot (φ 0) (Int32.ofNat i) 10 (pt φ T I R τ) = some (b01 (I (6 * i + 19) 10), pt φ T I R τ) := lo (k := 10) h iL (by omega)
        rw [b_L_isWorked_31, if_pos c1, ob_pt hj q0, L10, cl1_s, b01_of k10, if_pos c2, if_neg c3]; exact G
    · have L10 : f_X4_ofLot (φ 0) (Int32.ofNat i) 10 (pt φ T I R τ) = some (b01 (I (6 * i + 19) 10), pt φ T I R τ) := lo (k := 10) h iL (by omega)
      rw [b_L_isWorked_31, if_pos c1, ob_pt hj q0, L10, cl1_s, b01_of k10, if_neg c2]; exact G
  · rw [b_L_isWorked_31, if_neg c1]; exact G
theorem x_worked (h : Cx φ T I R (mZ τ) nS nL n) (hn : n < 590) (iL : i < nL) : Wk φ T I R nS n (f_L_isWorked (some (φ 0)) (Int32.ofNat i) (I (6 * i + 19) 0) r q (pt φ T I R τ)) := by
  have hj := h.hj
  have q0 := q0_of h
  obtain ⟨s4, -⟩ := h.lr iL
  have L1 : f_X4_ofLot (φ 0) (Int32.ofNat i) 1 (pt φ T I R τ) = some (I (6 * i + 19) 1, pt φ T I R τ) := lo (k := 1) h iL (by omega)
  have L3 : f_X4_ofLot (φ 0) (Int32.ofNat i) 3 (pt φ T I R τ) = some (I (6 * i + 19) 3, pt φ T I R τ) := lo (k := 3) h iL (by omega)
  rw [f_L_isWorked, b_L_isWorked_0, ob_pt hj q0, L1, cl1_s]
  by_cases c1 : 2 ≤ I (6 * i + 19) 0
  · rw [if_pos c1, b_L_isWorked_30]
    exact x_wk31g h hn iL (fun y => absurd rfl y) (fun _ y => absurd c1 y)
  · have s2 : I (6 * i + 19) 0 = 0 ∨ I (6 * i + 19) 0 = 1 := by
      rcases s4 with s | s | s | s
      · exact Or.inl s
      · exact Or.inr s
      · exact absurd (show (2 : Int32) ≤ I (6 * i + 19) 0 by rw [s]; decide) c1
      · exact absurd (show (2 : Int32) ≤ I (6 * i + 19) 0 by rw [s]; decide) c1
    rw [if_neg c1, ob_pt hj q0, L3, cl1_s, nm]
    by_cases c2 : 2 * I (6 * i + 19) 1 < I (6 * i + 19) 3
    · rw [if_pos c2, b_L_isWorked_30]
      exact x_wk31g h hn iL (fun y => absurd rfl y) (fun _ _ => c2)
    · rw [if_neg c2]
      exact x_wk31g h hn iL (fun _ => ⟨s2, c2⟩) (fun y => absurd y (by decide))
end W3
