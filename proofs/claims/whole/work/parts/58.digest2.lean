/-! DIGEST: the reference -/
section D2
variable {φ : Nat → Nat} {T : Nat → Nat × Nat} {I : Nat → Nat → Int32} {R : Nat → Nat → Option Nat} {τ : Mem} {e0 nS nL cS cL n z : Nat} {mx : Nat → Int32} {cB : Nat → Nat} {bl : Nat → List (Nat × Int32)}
variable {mi a b w q k i j t c : Nat} {I' J : Nat → Nat → Int32} {p r : Int32} {d : Int64} {τ0 τ1 : Mem} {ne : Nat → Int32}
theorem m_add (v : Int32) (σ : Mem) : f_X8_add d v.toInt64 σ = some (ad d v, σ) := by
  rw [f_X8_add, b_X8_add_0, nm, nm]; rfl
theorem m_gDM (h : Cx φ T I R (mZ τ) e0 nS nL cS cL mx cB bl n) : ∀ m k d fl (τ1 : Mem), k + m = 15 → m + 1 ≤ fl → mZ τ ≤ mZ τ1 → ∃ τ', l_X8_digest_11 e0 mi fl (φ 124) d (Int32.ofNat k) (pt φ T (up2 I 124 0 0) R τ1) = l_X8_digest_36 e0 mi 5 (φ 124) (fo (MV I nL) m k d) 0 (pt φ T (up2 I 124 0 0) R τ') ∧ KJ τ1 τ' := by
  have hj := h.hj
  have q0 : (T 124).1 = 10 + 1 := by rw [h.m.1]
  intro m
  induction m with
  | zero =>
    intro k d fl τ1 h1 h2 hz
    obtain ⟨fl', rfl⟩ : ∃ x, fl = x + 1 := ⟨fl - 1, by omega⟩
    have c1 : (15 : Int32) ≤ Int32.ofNat k := (kN_le (a := 15) (by omega) (by omega)).mpr (by omega)
    refine ⟨τ1, ?_, KJ.refl⟩
    rw [l_X8_digest_11, itr_succ, b_X8_digest_11, if_pos c1]; rfl
  | succ m ih =>
    intro k d fl τ1 h1 h2 hz
    obtain ⟨fl', rfl⟩ : ∃ x, fl = x + 1 := ⟨fl - 1, by omega⟩
    have c1 : ¬ (15 : Int32) ≤ Int32.ofNat k := by rw [show (15 : Int32) = Int32.ofNat 15 from rfl, kN_le (by omega) (by omega)]; omega
    obtain ⟨τ2, e1, e2⟩ := m_manyNow (mi := mi) (J := up2 I 124 0 0) (τ1 := τ1) (k := k) h (fun v hv => up2_row (by omega)) (fun k hk => up2_k (by omega)) hz (by omega)
    obtain ⟨τ3, e3, e4⟩ := ih (k + 1) (ad d (MV I nL k)) fl' τ2 (by omega) (by omega) (Nat.le_trans hz e2.1)
    refine ⟨τ3, ?_, KJ.trans e2.kj e4⟩
    rw [l_X8_digest_11, itr_succ, b_X8_digest_11, if_neg c1, ob_pt hj q0, e1, cl1_s, nm, m_add, cl1_s, nm, kN_s]
    exact e3
theorem m_ofSecC (h : Cx φ T I R (mZ τ) e0 nS nL cS cL mx cB bl n) (hJ : ∀ v, 125 ≤ v → J v = I v) (hz : mZ τ ≤ mZ τ1) (iS : i < nS) (hk : k ≤ 10) : ∃ τ', f_X8_ofSectionNow (φ 124) (Int32.ofNat i) (Int32.ofNat k) (pt φ T J R τ1) = some (vSI I i k, pt φ T J R τ') ∧ KJ τ1 τ' := by
  have hS := h.m.2.2.2.2.2.1
  have tn := tnK (k := i) (by omega)
  have ho := h.offZ hz
  have SR := h.sr iS
  obtain ⟨hj, hl, hx, hm, hr⟩ := h; obtain ⟨hx0, hx1, hx2, hx3, hx4, hx5, hx6, hx7, hx8, hx9, hx10, hx11, hx12, hx13, hx14, hx15, hx16, hx17, hx18, hx19, hx20, hx21, hx22, hx23, hx24, hx25, hx26, hx27⟩ := hx; obtain ⟨hm0, hm1, hm2, hm3, hm4, hm5, hm6, hm7, hm8, hm9, hm10, hm11, hm12, hm13, hm14, hm15, hm16, hm17, hm18, hm19, hm20, hm21, hm22, hm23, hm24, hm25, hm26, hm27, hm28, hm29, hm30, hm31, hm32, hm33, hm34, hm35, hm36, hm37, hm38, hm39, hm40, hm41, hm42, hm43, hm44⟩ := hm; obtain ⟨⟨⟨g1, g2⟩, ⟨g3, g4, g5, g6, g7⟩, g8, g9, g10⟩, r1, r2, r3, r4, r5, r6⟩ := hr
  have M := m_ofSec (I := J) (R := R) (τ := τ1) (v := 2 * i + 135) (w := 2 * i + 136) (c := cS) (p := Int32.ofNat i) (k := k) hj ho hm0 hm1 hm5 (by rw [hm14, if_neg (by omega)]) (hm16 (by omega)) (kN_nn (by omega)) (by rw [hJ 125 (by omega), hm12]; exact (kN_lt (by omega) (by omega)).mpr iS) (by rw [tn]; omega) (by rw [tn]; exact hm24 i iS) (hm25 i iS) (hm26 i iS) (hm27 i iS) hk
  have V : vSecM (J (2 * i + 135)) (J (2 * i + 136)) k = vSI I i k := by
    rw [hJ _ (by omega), hJ _ (by omega), vSI]; exact vSec_eq SR hk
  rw [V] at M
  have K : KJ τ1 (tSec (J (2 * i + 135)) τ1) := ⟨by rw [mZ_tSec]; exact Nat.le_succ _, fun b hb => mJ_tSec (by omega)⟩
  exact ⟨_, M, K⟩
theorem m_gDS {k36 : Nat → Int64 → Int32 → Mem → Option (Int64 × Mem)} (h : Cx φ T I R (mZ τ) e0 nS nL cS cL mx cB bl n) (hn : n < 600) (hJ : ∀ v, 125 ≤ v → J v = I v) (iS : i < nS) : ∀ m k d fl (τ1 : Mem), k + m = 11 → m + 1 ≤ fl → mZ τ ≤ mZ τ1 → ∃ τ', l_X8_digest_50 e0 mi k36 fl (φ 124) d (Int32.ofNat i) (Int32.ofNat k) (pt φ T J R τ1) = k36 (φ 124) (ad (fo (vSI I i) m k d) (FI I i 3 2)) (Int32.ofNat (i + 1)) (pt φ T J R τ') ∧ KJ τ1 τ' := by
  have hj := h.hj
  have hS := h.m.2.2.2.2.2.1
  have q0 : (T 124).1 = 10 + 1 := by rw [h.m.1]
  intro m
  induction m with
  | zero =>
    intro k d fl τ1 h1 h2 hz
    obtain ⟨fl', rfl⟩ : ∃ x, fl = x + 1 := ⟨fl - 1, by omega⟩
    have c1 : (11 : Int32) ≤ Int32.ofNat k := (kN_le (a := 11) (by omega) (by omega)).mpr (by omega)
    obtain ⟨τ2, e1, e2⟩ := m_flushInNow (J := J) (R := R) (τ1 := τ1) (p := Int32.ofNat i) (w := 3) (e := 2) h hn hJ hz (InN.of iS (by omega)) (tnK (by omega)) ⟨by decide, by decide⟩ ⟨by decide, by decide⟩
    refine ⟨τ2, ?_, e2⟩
    rw [l_X8_digest_50, itr_succ, b_X8_digest_50, if_pos c1, ob_pt hj q0, e1, cl1_s, nm, m_add, cl1_s, nm, kN_s]; rfl
  | succ m ih =>
    intro k d fl τ1 h1 h2 hz
    obtain ⟨fl', rfl⟩ : ∃ x, fl = x + 1 := ⟨fl - 1, by omega⟩
    have c1 : ¬ (11 : Int32) ≤ Int32.ofNat k := by rw [show (11 : Int32) = Int32.ofNat 11 from rfl, kN_le (by omega) (by omega)]; omega
    obtain ⟨τ2, e1, e2⟩ := m_ofSecC (k := k) h hJ hz iS (by omega)
    obtain ⟨τ3, e3, e4⟩ := ih (k + 1) (ad d (vSI I i k)) fl' τ2 (by omega) (by omega) (Nat.le_trans hz e2.1)
    refine ⟨τ3, ?_, KJ.trans e2 e4⟩
    rw [l_X8_digest_50, itr_succ, b_X8_digest_50, if_neg c1, ob_pt hj q0, e1, cl1_s, nm, m_add, cl1_s, nm, kN_s]
    exact e3
theorem m_sizeS (h : Cx φ T I R z e0 nS nL cS cL mx cB bl n) (hJ : J 125 = I 125) : f_Jx4a65c_size_8abf5 (φ 125) (pt φ T J R τ1) = some (Int32.ofNat nS, pt φ T J R τ1) := by
  obtain ⟨hj, hl, hx, hm, hr⟩ := h; obtain ⟨hx0, hx1, hx2, hx3, hx4, hx5, hx6, hx7, hx8, hx9, hx10, hx11, hx12, hx13, hx14, hx15, hx16, hx17, hx18, hx19, hx20, hx21, hx22, hx23, hx24, hx25, hx26, hx27⟩ := hx; obtain ⟨hm0, hm1, hm2, hm3, hm4, hm5, hm6, hm7, hm8, hm9, hm10, hm11, hm12, hm13, hm14, hm15, hm16, hm17, hm18, hm19, hm20, hm21, hm22, hm23, hm24, hm25, hm26, hm27, hm28, hm29, hm30, hm31, hm32, hm33, hm34, hm35, hm36, hm37, hm38, hm39, hm40, hm41, hm42, hm43, hm44⟩ := hm; obtain ⟨⟨⟨g1, g2⟩, ⟨g3, g4, g5, g6, g7⟩, g8, g9, g10⟩, r1, r2, r3, r4, r5, r6⟩ := hr
  rw [f_Jx4a65c_size_8abf5, b_Jx4a65c_size_8abf5_0, gI_pt hj (by rw [hm5]), hJ, hm12]
theorem m_sizeL (h : Cx φ T I R z e0 nS nL cS cL mx cB bl n) (hJ : J 126 = I 126) : f_Jx4a65c_size_8abf5 (φ 126) (pt φ T J R τ1) = some (Int32.ofNat nL, pt φ T J R τ1) := by
  obtain ⟨hj, hl, hx, hm, hr⟩ := h; obtain ⟨hx0, hx1, hx2, hx3, hx4, hx5, hx6, hx7, hx8, hx9, hx10, hx11, hx12, hx13, hx14, hx15, hx16, hx17, hx18, hx19, hx20, hx21, hx22, hx23, hx24, hx25, hx26, hx27⟩ := hx; obtain ⟨hm0, hm1, hm2, hm3, hm4, hm5, hm6, hm7, hm8, hm9, hm10, hm11, hm12, hm13, hm14, hm15, hm16, hm17, hm18, hm19, hm20, hm21, hm22, hm23, hm24, hm25, hm26, hm27, hm28, hm29, hm30, hm31, hm32, hm33, hm34, hm35, hm36, hm37, hm38, hm39, hm40, hm41, hm42, hm43, hm44⟩ := hm; obtain ⟨⟨⟨g1, g2⟩, ⟨g3, g4, g5, g6, g7⟩, g8, g9, g10⟩, r1, r2, r3, r4, r5, r6⟩ := hr
  rw [f_Jx4a65c_size_8abf5, b_Jx4a65c_size_8abf5_0, gI_pt hj (by rw [hm6]), hJ, hm13]
theorem m_gDSS (h : Cx φ T I R (mZ τ) e0 nS nL cS cL mx cB bl n) (hn : n < 600) (hJ : ∀ v, 125 ≤ v → J v = I v) : ∀ m i d fl (τ1 : Mem), i + m = nS → m + 1 ≤ fl → mZ τ ≤ mZ τ1 → ∃ τ', l_X8_digest_36 e0 mi fl (φ 124) d (Int32.ofNat i) (pt φ T J R τ1) = l_X8_digest_97 e0 mi 17 (φ 124) (seD I m i d) 0 (pt φ T J R τ') ∧ KJ τ1 τ' := by
  have hj := h.hj
  have hS := h.m.2.2.2.2.2.1
  have q0 : (T 124).1 = 10 + 1 := by rw [h.m.1]
  obtain ⟨r6, t5⟩ : R 124 6 = some (φ 125) ∧ T 125 = (2, 0) := by
    obtain ⟨hj, hl, hx, hm, hr⟩ := h; obtain ⟨hx0, hx1, hx2, hx3, hx4, hx5, hx6, hx7, hx8, hx9, hx10, hx11, hx12, hx13, hx14, hx15, hx16, hx17, hx18, hx19, hx20, hx21, hx22, hx23, hx24, hx25, hx26, hx27⟩ := hx; obtain ⟨hm0, hm1, hm2, hm3, hm4, hm5, hm6, hm7, hm8, hm9, hm10, hm11, hm12, hm13, hm14, hm15, hm16, hm17, hm18, hm19, hm20, hm21, hm22, hm23, hm24, hm25, hm26, hm27, hm28, hm29, hm30, hm31, hm32, hm33, hm34, hm35, hm36, hm37, hm38, hm39, hm40, hm41, hm42, hm43, hm44⟩ := hm; obtain ⟨⟨⟨g1, g2⟩, ⟨g3, g4, g5, g6, g7⟩, g8, g9, g10⟩, r1, r2, r3, r4, r5, r6⟩ := hr
    exact ⟨hm1, hm5⟩
  intro m
  induction m with
  | zero =>
    intro i d fl τ1 h1 h2 hz
    obtain ⟨fl', rfl⟩ : ∃ x, fl = x + 1 := ⟨fl - 1, by omega⟩
    have c1 : Int32.ofNat nS ≤ Int32.ofNat i := (kN_le (by omega) (by omega)).mpr (by omega)
    refine ⟨τ1, ?_, KJ.refl⟩
    rw [l_X8_digest_36, itr_succ, b_X8_digest_36, gR_pt hj q0, r6, ob_pt hj (by rw [t5]), m_sizeS h (hJ 125 (by omega)), cl1_s, if_pos c1]; rfl
  | succ m ih =>
    intro i d fl τ1 h1 h2 hz
    obtain ⟨fl', rfl⟩ : ∃ x, fl = x + 1 := ⟨fl - 1, by omega⟩
    have c1 : ¬ Int32.ofNat nS ≤ Int32.ofNat i := by rw [kN_le (by omega) (by omega)]; omega
    obtain ⟨τ2, e1, e2⟩ := m_gDS (mi := mi) (k36 := l_X8_digest_36 e0 mi fl') h hn hJ (show i < nS by omega) 11 0 d 12 τ1 (by omega) (by omega) hz
    obtain ⟨τ3, e3, e4⟩ := ih (i + 1) (ad (fo (vSI I i) 11 0 d) (FI I i 3 2)) fl' τ2 (by omega) (by omega) (Nat.le_trans hz e2.1)
    refine ⟨τ3, ?_, KJ.trans e2 e4⟩
    rw [l_X8_digest_36, itr_succ, b_X8_digest_36, gR_pt hj q0, r6, ob_pt hj (by rw [t5]), m_sizeS h (hJ 125 (by omega)), cl1_s, if_neg c1]
    exact e1.trans e3
theorem m_ofLotC (h : Cx φ T I R (mZ τ) e0 nS nL cS cL mx cB bl n) (hJ : ∀ v, 125 ≤ v → J v = I v) (hz : mZ τ ≤ mZ τ1) (iL : i < nL) (hk : k ≤ 17) : ∃ τ', f_X8_ofLotNow (φ 124) (Int32.ofNat i) (Int32.ofNat k) (pt φ T J R τ1) = some (vLI I i k, pt φ T J R τ') ∧ KJ τ1 τ' := by
  have hN := h.m.2.2.2.2.1
  have tn := tnK (k := i) (by omega)
  have ho := h.offZ hz
  have LR := h.lr iL
  obtain ⟨⟨-, -, -, -, -, -, -, -, -, E10, E11, -, -⟩, -, -, ⟨qD, -⟩, ⟨b10, b11, -⟩, -⟩ := h.lr iL
  obtain ⟨hj, hl, hx, hm, hr⟩ := h; obtain ⟨hx0, hx1, hx2, hx3, hx4, hx5, hx6, hx7, hx8, hx9, hx10, hx11, hx12, hx13, hx14, hx15, hx16, hx17, hx18, hx19, hx20, hx21, hx22, hx23, hx24, hx25, hx26, hx27⟩ := hx; obtain ⟨hm0, hm1, hm2, hm3, hm4, hm5, hm6, hm7, hm8, hm9, hm10, hm11, hm12, hm13, hm14, hm15, hm16, hm17, hm18, hm19, hm20, hm21, hm22, hm23, hm24, hm25, hm26, hm27, hm28, hm29, hm30, hm31, hm32, hm33, hm34, hm35, hm36, hm37, hm38, hm39, hm40, hm41, hm42, hm43, hm44⟩ := hm; obtain ⟨⟨⟨g1, g2⟩, ⟨g3, g4, g5, g6, g7⟩, g8, g9, g10⟩, r1, r2, r3, r4, r5, r6⟩ := hr
  obtain ⟨τ', M, z1, j1⟩ := m_ofLotE (I := J) (R := R) (τ := τ1) (v := 10 * i + 150) (w := 10 * i + 151) (c := cL) (p := Int32.ofNat i) (k := k) (mx := mx i) hj ho hm0 hm2 hm6 (by rw [hm15, if_neg (by omega)]) (hm17 (by omega)) (kN_nn (by omega)) (by rw [hJ 126 (by omega), hm13]; exact (kN_lt (by omega) (by omega)).mpr iL) (by rw [tn]; omega) (by rw [tn]; exact hm28 i iL) (hm29 i iL) (hm30 i iL) (hm31 i iL) (hm32 i iL) (by rw [hJ _ (by omega), ← E10]; exact b10) (by rw [hJ _ (by omega), ← E11]; exact b11) qD hk
  have V : vLotM (J (10 * i + 150)) (J (10 * i + 151)) (mx i) k = vLI I i k := by
    rw [hJ _ (by omega), hJ _ (by omega), vLI]; exact vLot_eq LR hk
  rw [V] at M
  exact ⟨τ', M, ⟨by rw [z1]; exact Nat.le_succ _, fun b hb => j1 b (by omega)⟩⟩
theorem m_gL19 (h : Cx φ T I R (mZ τ) e0 nS nL cS cL mx cB bl n) (hJ : ∀ v, 125 ≤ v → J v = I v) (iL : i < nL) : ∀ m k d fl (τ1 : Mem), k + m = 18 → m + 1 ≤ fl → mZ τ ≤ mZ τ1 → ∃ τ', l_X8_addLot_19 e0 mi fl (φ 124) (Int32.ofNat i) d (some (φ (10 * i + 150))) (Int32.ofNat k) (pt φ T J R τ1) = l_X8_addLot_50 e0 mi 4 (φ 124) (Int32.ofNat i) (fo (vLI I i) m k d) (some (φ (10 * i + 150))) 0 (pt φ T J R τ') ∧ KJ τ1 τ' := by
  have hj := h.hj
  have q0 : (T 124).1 = 10 + 1 := by rw [h.m.1]
  intro m
  induction m with
  | zero =>
    intro k d fl τ1 h1 h2 hz
    obtain ⟨fl', rfl⟩ : ∃ x, fl = x + 1 := ⟨fl - 1, by omega⟩
    have c1 : (18 : Int32) ≤ Int32.ofNat k := (kN_le (a := 18) (by omega) (by omega)).mpr (by omega)
    refine ⟨τ1, ?_, KJ.refl⟩
    rw [l_X8_addLot_19, itr_succ, b_X8_addLot_19, if_pos c1]; rfl
  | succ m ih =>
    intro k d fl τ1 h1 h2 hz
    obtain ⟨fl', rfl⟩ : ∃ x, fl = x + 1 := ⟨fl - 1, by omega⟩
    have c1 : ¬ (18 : Int32) ≤ Int32.ofNat k := by rw [show (18 : Int32) = Int32.ofNat 18 from rfl, kN_le (by omega) (by omega)]; omega
    obtain ⟨τ2, e1, e2⟩ := m_ofLotC (k := k) h hJ hz iL (by omega)
    obtain ⟨τ3, e3, e4⟩ := ih (k + 1) (ad d (vLI I i k)) fl' τ2 (by omega) (by omega) (Nat.le_trans hz e2.1)
    refine ⟨τ3, ?_, KJ.trans e2 e4⟩
    rw [l_X8_addLot_19, itr_succ, b_X8_addLot_19, if_neg c1, ob_pt hj q0, e1, cl1_s, nm, m_add, cl1_s, nm, kN_s]
    exact e3
theorem m_gL50 (h : Cx φ T I R (mZ τ) e0 nS nL cS cL mx cB bl n) (hJ : ∀ v, 125 ≤ v → J v = I v) (iL : i < nL) (hs : I (6 * i + 19) 0 = 2) : ∀ m k d fl, k + m = 3 → m + 1 ≤ fl → l_X8_addLot_50 e0 mi fl (φ 124) (Int32.ofNat i) d (some (φ (10 * i + 150))) (Int32.ofNat k) (pt φ T J R τ1) = l_X8_addLot_89 e0 mi 4 (φ 124) (Int32.ofNat i) (fo (NV I i) m k d) (some (φ (10 * i + 150))) 0 (pt φ T J R τ1) := by
  have hj := h.hj
  have q8 : (T (10 * i + 150)).1 = 7 + 1 := by rw [h.t8 iL]
  have J0 : J (10 * i + 150) 0 = 2 := by rw [hJ _ (by omega), ← (h.lr iL).1.1]; exact hs
  intro m
  induction m with
  | zero =>
    intro k d fl h1 h2
    obtain ⟨fl', rfl⟩ : ∃ x, fl = x + 1 := ⟨fl - 1, by omega⟩
    have c1 : (3 : Int32) ≤ Int32.ofNat k := (kN_le (a := 3) (by omega) (by omega)).mpr (by omega)
    rw [l_X8_addLot_50, itr_succ, b_X8_addLot_50, if_pos c1, b_X8_addLot_86]; rfl
  | succ m ih =>
    intro k d fl h1 h2
    obtain ⟨fl', rfl⟩ : ∃ x, fl = x + 1 := ⟨fl - 1, by omega⟩
    have c1 : ¬ (3 : Int32) ≤ Int32.ofNat k := by rw [show (3 : Int32) = Int32.ofNat 3 from rfl, kN_le (by omega) (by omega)]; omega
    have N := m_noteJ (J := J) (τ := τ1) h iL (hJ _ (by omega)) (hJ _ (by omega)) (hJ _ (by omega)) (by rw [hs]; decide) (show k < 3 by omega)
    rw [l_X8_addLot_50, itr_succ, b_X8_addLot_50, if_neg c1, gI_pt hj q8, J0, if_pos rfl, ob_pt hj q8, N, cl1_s, nm, m_add, cl1_s, nm, kN_s]
    exact ih (k + 1) _ fl' (by omega) (by omega)
theorem m_gL89 (h : Cx φ T I R (mZ τ) e0 nS nL cS cL mx cB bl n) (hn : n < 600) (hz : mZ τ ≤ mZ τ1) (iL : i < nL) (hs : I (6 * i + 19) 0 = 2) : ∀ m k d fl, k + m = 3 → m + 1 ≤ fl → l_X8_addLot_89 e0 mi fl (φ 124) (Int32.ofNat i) d (some (φ (10 * i + 150))) (Int32.ofNat k) (pt φ T (up2 I 124 0 0) R τ1) = b_X8_addLot_125 e0 mi (φ 124) (Int32.ofNat i) (fo (fun k => TV I (NV I i k)) m k d) (some (φ (10 * i + 150))) (pt φ T (up2 I 124 0 0) R τ1) := by
  have hj := h.hj
  have hN := h.m.2.2.2.2.1
  have q0 : (T 124).1 = 10 + 1 := by rw [h.m.1]
  have q8 : (T (10 * i + 150)).1 = 7 + 1 := by rw [h.t8 iL]
  have J0 : up2 I 124 0 0 (10 * i + 150) 0 = 2 := by rw [up2_row (by omega), ← (h.lr iL).1.1]; exact hs
  have h' : Cx φ T (up2 I 124 0 0) R (mZ τ1) e0 nS nL cS cL mx cB bl (n + 1) := Cx.up h.thr hz
  intro m
  induction m with
  | zero =>
    intro k d fl h1 h2
    obtain ⟨fl', rfl⟩ : ∃ x, fl = x + 1 := ⟨fl - 1, by omega⟩
    have c1 : (3 : Int32) ≤ Int32.ofNat k := (kN_le (a := 3) (by omega) (by omega)).mpr (by omega)
    rw [l_X8_addLot_89, itr_succ, b_X8_addLot_89, if_pos c1]; rfl
  | succ m ih =>
    intro k d fl h1 h2
    obtain ⟨fl', rfl⟩ : ∃ x, fl = x + 1 := ⟨fl - 1, by omega⟩
    have c1 : ¬ (3 : Int32) ≤ Int32.ofNat k := by rw [show (3 : Int32) = Int32.ofNat 3 from rfl, kN_le (by omega) (by omega)]; omega
    have N := m_tasteNow (τ := τ1) h' (by omega) (InN.of iL (by omega)) (tnK (show i < 1000000 by omega)) (by rw [up2_row (by omega), hs]; decide) (show k < 3 by omega)
    rw [TV_thr, NV_thr (by omega)] at N
    rw [l_X8_addLot_89, itr_succ, b_X8_addLot_89, if_neg c1, gI_pt hj q8, J0, if_pos rfl, ob_pt hj q0, N, cl1_s, nm, m_add, cl1_s, nm, kN_s]
    exact ih (k + 1) _ fl' (by omega) (by omega)
theorem m_gL174 (h : Cx φ T I R (mZ τ) e0 nS nL cS cL mx cB bl n) (hJ : ∀ v, 125 ≤ v → J v = I v) (iL : i < nL) : ∀ m k d fl (τ1 : Mem), k + m = 4 → m + 1 ≤ fl → mZ τ ≤ mZ τ1 → ∃ τ', l_X8_addLot_174 e0 mi fl (φ 124) (Int32.ofNat i) d (Int32.ofNat k) (pt φ T J R τ1) = some (fo (bdV I i) m k d, pt φ T J R τ') ∧ KJ τ1 τ' := by
  have hj := h.hj
  have hN := h.m.2.2.2.2.1
  have q0 : (T 124).1 = 10 + 1 := by rw [h.m.1]
  intro m
  induction m with
  | zero =>
    intro k d fl τ1 h1 h2 hz
    obtain ⟨fl', rfl⟩ : ∃ x, fl = x + 1 := ⟨fl - 1, by omega⟩
    have c1 : (4 : Int32) ≤ Int32.ofNat k := (kN_le (a := 4) (by omega) (by omega)).mpr (by omega)
    refine ⟨τ1, ?_, KJ.refl⟩
    rw [l_X8_addLot_174, itr_succ, b_X8_addLot_174, if_pos c1]; rfl
  | succ m ih =>
    intro k d fl τ1 h1 h2 hz
    obtain ⟨fl', rfl⟩ : ∃ x, fl = x + 1 := ⟨fl - 1, by omega⟩
    have c1 : ¬ (4 : Int32) ≤ Int32.ofNat k := by rw [show (4 : Int32) = Int32.ofNat 4 from rfl, kN_le (by omega) (by omega)]; omega
    obtain ⟨τ2, e1, e2⟩ := m_bidOfNow (mi := mi) (J := J) (τ1 := τ1) (w := k) h hJ hz (InN.of iL (by omega)) (tnK (show i < 1000000 by omega)) (by omega)
    obtain ⟨τ3, e3, e4⟩ := ih (k + 1) (ad d (bdV I i k)) fl' τ2 (by omega) (by omega) (Nat.le_trans hz e2.1)
    refine ⟨τ3, ?_, KJ.trans e2.kj e4⟩
    rw [l_X8_addLot_174, itr_succ, b_X8_addLot_174, if_neg c1, ob_pt hj q0, e1, cl1_s, nm, m_add, cl1_s, nm, kN_s]
    exact e3
theorem m_gL147 (h : Cx φ T I R (mZ τ) e0 nS nL cS cL mx cB bl n) (hJ : ∀ v, 125 ≤ v → J v = I v) (hz : mZ τ ≤ mZ τ1) (iL : i < nL) : ∃ τ', b_X8_addLot_147 e0 mi (φ 124) (Int32.ofNat i) d (some (φ (10 * i + 150))) (pt φ T J R τ1) = some (loC I bl i d, pt φ T J R τ') ∧ KJ τ1 τ' := by
  have hj := h.hj
  have hN := h.m.2.2.2.2.1
  have q0 : (T 124).1 = 10 + 1 := by rw [h.m.1]
  have t8 := h.t8 iL
  have J13 : J (10 * i + 150) 13 = I (6 * i + 22) 0 := by
    obtain ⟨⟨-, -, -, -, -, -, -, -, -, -, -, -, E13⟩, -⟩ := h.lr iL
    rw [hJ _ (by omega), E13]
  have O := m_isOff (I := J) (R := R) (τ := τ1) hj t8
  rw [J13] at O
  rw [b_X8_addLot_147, ob_pt hj (by rw [t8]), O, cl1_s, loC]
  by_cases c : I (6 * i + 22) 0 ≤ 0
  · refine ⟨τ1, ?_, KJ.refl⟩
    rw [if_pos c, if_pos rfl, if_pos c]
  · obtain ⟨τ2, e1, e2⟩ := m_wouldPayNow (mi := mi) (J := J) (τ1 := τ1) h hJ hz (InN.of iL (by omega)) (tnK (show i < 1000000 by omega))
    obtain ⟨τ3, e3, e4⟩ := m_gL174 (mi := mi) h hJ iL 4 0 (ad d (WV I bl i)) 5 τ2 (by omega) (by omega) (Nat.le_trans hz e2.1)
    refine ⟨τ3, ?_, KJ.trans e2.kj e4⟩
    rw [if_neg c, if_neg (by decide), if_neg c, ob_pt hj q0, e1, cl1_s, nm, m_add, cl1_s]
    exact e3
theorem m_gLot (h : Cx φ T I R (mZ τ) e0 nS nL cS cL mx cB bl n) (hn : n < 600) (hz : mZ τ ≤ mZ τ1) (iL : i < nL) : ∃ τ', f_X8_addLot e0 mi (φ 124) d (Int32.ofNat i) (pt φ T (up2 I 124 0 0) R τ1) = some (loC I bl i (loB I i (loA I i d)), pt φ T (up2 I 124 0 0) R τ') ∧ KJ τ1 τ' := by
  have hj := h.hj
  have hN := h.m.2.2.2.2.1
  have hJ : ∀ v, 125 ≤ v → up2 I 124 0 0 v = I v := fun v hv => up2_row (by omega)
  have q0 : (T 124).1 = 10 + 1 := by rw [h.m.1]
  have h6 := h.m.2.2.1
  have h7 := h.m.2.2.2.1
  have t8 := h.t8 iL
  have q8 : (T (10 * i + 150)).1 = 7 + 1 := by rw [t8]
  have J0 : up2 I 124 0 0 (10 * i + 150) 0 = I (6 * i + 19) 0 := by rw [hJ _ (by omega), ← (h.lr iL).1.1]
  have G := m_getJ (J := up2 I 124 0 0) (τ := τ1) h (hJ 126 (by omega)) (InN.of iL (by omega)) (tnK (show i < 1000000 by omega))
  obtain ⟨τ2, e1, e2⟩ := m_gL19 (mi := mi) h hJ iL 18 0 d 19 τ1 (by omega) (by omega) hz
  have hz2 := Nat.le_trans hz e2.1
  have A : f_X8_addLot e0 mi (φ 124) d (Int32.ofNat i) (pt φ T (up2 I 124 0 0) R τ1) = b_X8_addLot_125 e0 mi (φ 124) (Int32.ofNat i) (loA I i d) (some (φ (10 * i + 150))) (pt φ T (up2 I 124 0 0) R τ2) := by
    rw [f_X8_addLot, b_X8_addLot_0, gR_pt hj q0, h7, ob_pt hj (by rw [h6]), G, cl1_s, ck_pt hj (by rw [t8]) (by decide)]
    refine e1.trans ?_
    rw [loA]
    by_cases c : I (6 * i + 19) 0 = 2
    · rw [if_pos c]
      refine (m_gL50 h hJ iL c 3 0 _ 4 (by omega) (by omega)).trans ?_
      exact m_gL89 h hn hz2 iL c 3 0 _ 4 (by omega) (by omega)
    · rw [if_neg c, show (4 : Nat) = 3 + 1 from rfl, l_X8_addLot_50, itr_succ, b_X8_addLot_50, if_neg (show ¬ (3 : Int32) ≤ 0 by decide), gI_pt hj q8, J0, if_neg c, b_X8_addLot_86, show (4 : Nat) = 3 + 1 from rfl, l_X8_addLot_89, itr_succ, b_X8_addLot_89, if_neg (show ¬ (3 : Int32) ≤ 0 by decide), gI_pt hj q8, J0, if_neg c]
  rw [A, b_X8_addLot_125, gI_pt hj q8, J0, loB]
  by_cases c : I (6 * i + 19) 0 = 1
  · obtain ⟨τ3, f1, f2⟩ := m_bestFireNow (mi := mi) (J := up2 I 124 0 0) (τ1 := τ2) h hJ (InN.of iL (by omega)) (tnK (show i < 1000000 by omega)) c hz2
    obtain ⟨τ4, g1, g2⟩ := m_gL147 (mi := mi) (d := ad (loA I i d) (BFV I i)) h hJ (Nat.le_trans hz2 f2.1) iL
    refine ⟨τ4, ?_, KJ.trans e2 (KJ.trans f2 g2)⟩
    rw [if_pos c, if_pos c, ob_pt hj q0, f1, cl1_s, nm, m_add, cl1_s]; exact g1
  · obtain ⟨τ4, g1, g2⟩ := m_gL147 (mi := mi) (d := loA I i d) h hJ hz2 iL
    refine ⟨τ4, ?_, KJ.trans e2 g2⟩
    rw [if_neg c, if_neg c]; exact g1
theorem m_gLL (h : Cx φ T I R (mZ τ) e0 nS nL cS cL mx cB bl n) (hn : n < 600) : ∀ m i d fl (τ1 : Mem), i + m = nL → m + 1 ≤ fl → mZ τ ≤ mZ τ1 → ∃ τ', l_X8_digest_97 e0 mi fl (φ 124) d (Int32.ofNat i) (pt φ T (up2 I 124 0 0) R τ1) = l_X8_digest_123 e0 mi 4 (φ 124) (loD I bl m i d) 0 (pt φ T (up2 I 124 0 0) R τ') ∧ KJ τ1 τ' := by
  have hj := h.hj
  have hN := h.m.2.2.2.2.1
  have q0 : (T 124).1 = 10 + 1 := by rw [h.m.1]
  have h6 := h.m.2.2.1
  have h7 := h.m.2.2.2.1
  intro m
  induction m with
  | zero =>
    intro i d fl τ1 h1 h2 hz
    obtain ⟨fl', rfl⟩ : ∃ x, fl = x + 1 := ⟨fl - 1, by omega⟩
    have c1 : Int32.ofNat nL ≤ Int32.ofNat i := (kN_le (by omega) (by omega)).mpr (by omega)
    refine ⟨τ1, ?_, KJ.refl⟩
    rw [l_X8_digest_97, itr_succ, b_X8_digest_97, gR_pt hj q0, h7, ob_pt hj (by rw [h6]), m_sizeL h (up2_row (by omega)), cl1_s, if_pos c1]; rfl
  | succ m ih =>
    intro i d fl τ1 h1 h2 hz
    obtain ⟨fl', rfl⟩ : ∃ x, fl = x + 1 := ⟨fl - 1, by omega⟩
    have c1 : ¬ Int32.ofNat nL ≤ Int32.ofNat i := by rw [kN_le (by omega) (by omega)]; omega
    obtain ⟨τ2, e1, e2⟩ := m_gLot (mi := mi) (d := d) h hn hz (show i < nL by omega)
    obtain ⟨τ3, e3, e4⟩ := ih (i + 1) (loC I bl i (loB I i (loA I i d))) fl' τ2 (by omega) (by omega) (Nat.le_trans hz e2.1)
    refine ⟨τ3, ?_, KJ.trans e2 e4⟩
    rw [l_X8_digest_97, itr_succ, b_X8_digest_97, gR_pt hj q0, h7, ob_pt hj (by rw [h6]), m_sizeL h (up2_row (by omega)), cl1_s, if_neg c1, ob_pt hj q0, e1, cl1_s, nm, kN_s]
    exact e3
theorem m_ofTasC (h : Cx φ T I R (mZ τ) e0 nS nL cS cL mx cB bl n) (hn : n < 600) (hz : mZ τ ≤ mZ τ1) (hj3 : j < 3) : f_X8_ofTasterNow (φ 124) (Int32.ofNat j) 0 (pt φ T (up2 I 124 0 0) R τ1) = some (gs (I (j + 3) 1) (I (j + 3) 2), pt φ T (up2 I 124 0 0) R τ1) ∧ f_X8_ofTasterNow (φ 124) (Int32.ofNat j) 1 (pt φ T (up2 I 124 0 0) R τ1) = some (I (j + 3) 2, pt φ T (up2 I 124 0 0) R τ1) := by
  have hj := h.hj
  have h' : Cx φ T (up2 I 124 0 0) R (mZ τ1) e0 nS nL cS cL mx cB bl (n + 1) := Cx.up h.thr hz
  have G := m_gsT (τ := τ1) h' (by omega) hj3
  rw [up2_row (by omega)] at G
  have q0 : (T 124).1 = 10 + 1 := by rw [h.m.1]
  obtain ⟨r8, t7, ra, t10, E⟩ : R 124 8 = some (φ 127) ∧ T 127 = (105, 3) ∧ R 127 j = some (φ (j + 129)) ∧ T (j + 129) = (10, 0) ∧ I (j + 129) 2 = I (j + 3) 2 := by
    obtain ⟨hj, hl, hx, hm, hr⟩ := h; obtain ⟨hx0, hx1, hx2, hx3, hx4, hx5, hx6, hx7, hx8, hx9, hx10, hx11, hx12, hx13, hx14, hx15, hx16, hx17, hx18, hx19, hx20, hx21, hx22, hx23, hx24, hx25, hx26, hx27⟩ := hx; obtain ⟨hm0, hm1, hm2, hm3, hm4, hm5, hm6, hm7, hm8, hm9, hm10, hm11, hm12, hm13, hm14, hm15, hm16, hm17, hm18, hm19, hm20, hm21, hm22, hm23, hm24, hm25, hm26, hm27, hm28, hm29, hm30, hm31, hm32, hm33, hm34, hm35, hm36, hm37, hm38, hm39, hm40, hm41, hm42, hm43, hm44⟩ := hm; obtain ⟨⟨⟨g1, g2⟩, ⟨g3, g4, g5, g6, g7⟩, g8, g9, g10⟩, r1, r2, r3, r4, r5, r6⟩ := hr
    exact ⟨hm3, hm7, hm10 j hj3, hm11 j hj3, (r5 j hj3).2.2.1.symm⟩
  have AR : ∀ {K : Option Nat → Option (Int32 × Mem)}, aR 5 (pt φ T (up2 I 124 0 0) R τ1) (some (φ 127)) (Int32.ofNat j) K = K (some (φ (j + 129))) := by
    intro K
    rw [aR_pt hj (by rw [t7]) (kN_nn (by omega)) (by rw [t7, tnK (by omega)]; exact hj3), tnK (by omega), ra]
  constructor
  · rw [f_X8_ofTasterNow, b_X8_ofTasterNow_0, if_pos rfl, gR_pt hj q0, r8, AR, ob_pt hj (by rw [t10]), G, cl1_s, b_X8_ofTasterNow_25]
  · rw [f_X8_ofTasterNow, b_X8_ofTasterNow_0, if_neg (by decide), gR_pt hj q0, r8, AR, gI_pt hj (by rw [t10]), up2_row (by omega), E, b_X8_ofTasterNow_25]
theorem m_gT (h : Cx φ T I R (mZ τ) e0 nS nL cS cL mx cB bl n) (hn : n < 600) (hz : mZ τ ≤ mZ τ1) : ∀ m j d fl, j + m = 3 → m + 1 ≤ fl → ∃ τ', l_X8_digest_123 e0 mi fl (φ 124) d (Int32.ofNat j) (pt φ T (up2 I 124 0 0) R τ1) = some (ad (taD I m j d) (BM I (n3 3 3 3) nL), pt φ T (up2 I 124 0 0) R τ') ∧ KJ τ1 τ' := by
  have hj := h.hj
  have q0 : (T 124).1 = 10 + 1 := by rw [h.m.1]
  intro m
  induction m with
  | zero =>
    intro j d fl h1 h2
    obtain ⟨fl', rfl⟩ : ∃ x, fl = x + 1 := ⟨fl - 1, by omega⟩
    have c1 : (3 : Int32) ≤ Int32.ofNat j := (kN_le (a := 3) (by omega) (by omega)).mpr (by omega)
    obtain ⟨τ2, W, T0, Z0, -, K0, z0⟩ := nA_ex (J := up2 I 124 0 0) (R := R) (τ1 := τ1) (p := 3) (c := 3) (t := 0) (bd := 3) (h.offZ hz) (by decide) rfl (by decide)
    obtain ⟨τ3, W0, T1, A0, B0, K1, z1⟩ := wI_ex (J := up2 I 124 0 0) (R := R) (p := 0) (v := 3) (k := 0) hj (h.offZ hz) T0 (by decide) rfl (by decide)
    obtain ⟨τ4, W1, T2, A1, B1, K2, z2⟩ := wI_ex (J := up2 I 124 0 0) (R := R) (p := 1) (v := 3) (k := 1) hj (h.offZ hz) T1 (by decide) rfl (by decide)
    obtain ⟨τ5, W2, T3, A2, B2, K3, z3⟩ := wI_ex (J := up2 I 124 0 0) (R := R) (p := 2) (v := 3) (k := 2) hj (h.offZ hz) T2 (by decide) rfl (by decide)
    have BMx := m_bestMixNow (J := up2 I 124 0 0) (R := R) (τ1 := τ5) (ne := n3 3 3 3) h hz (fun v hv => up2_row (by omega)) T3 (fun k hk => by
      rcases (show k = 0 ∨ k = 1 ∨ k = 2 by omega) with rfl | rfl | rfl
      · rw [B2 0 (by decide), B1 0 (by decide), A0]; rfl
      · rw [B2 1 (by decide), A1]; rfl
      · rw [A2]; rfl)
    refine ⟨τ5, ?_, ((K0.trans (K1.trans (K2.trans K3)))).kj⟩
    rw [l_X8_digest_123, itr_succ, b_X8_digest_123, if_pos c1, W, W0, W1, W2, ob_pt hj q0, BMx, cl1_s, nm, m_add, cl1_s]; rfl
  | succ m ih =>
    intro j d fl h1 h2
    obtain ⟨fl', rfl⟩ : ∃ x, fl = x + 1 := ⟨fl - 1, by omega⟩
    have c1 : ¬ (3 : Int32) ≤ Int32.ofNat j := by rw [show (3 : Int32) = Int32.ofNat 3 from rfl, kN_le (by omega) (by omega)]; omega
    obtain ⟨t0, t1⟩ := m_ofTasC h hn hz (show j < 3 by omega)
    obtain ⟨τ', e1, e2⟩ := ih (j + 1) (ad (ad d (gs (I (j + 3) 1) (I (j + 3) 2))) (I (j + 3) 2)) fl' (by omega) (by omega)
    refine ⟨τ', ?_, e2⟩
    rw [l_X8_digest_123, itr_succ, b_X8_digest_123, if_neg c1, ob_pt hj q0, t0, cl1_s, nm, m_add, cl1_s, ob_pt hj q0, t1, cl1_s, nm, m_add, cl1_s, nm, kN_s]
    exact e1
theorem m_digest (h : Cx φ T I R (mZ τ) e0 nS nL cS cL mx cB bl n) (hn : n < 600) : ∃ τ', f_X8_digest e0 mi (φ 124) (pt φ T I R τ) = some (DGV I nS nL bl, pt φ T (up2 I 124 0 0) R τ') ∧ KJ τ τ' := by
  have hj := h.hj
  have hN := h.m.2.2.2.2.1
  have hS := h.m.2.2.2.2.2.1
  have q0 : (T 124).1 = 10 + 1 := by rw [h.m.1]
  obtain ⟨τ1, a1, a2⟩ := m_gDM (mi := mi) h 15 0 5402 16 τ (by omega) (by omega) (Nat.le_refl _)
  obtain ⟨τ2, b1, b2⟩ := m_gDSS (mi := mi) (J := up2 I 124 0 0) h hn (fun v hv => up2_row (by omega)) nS 0 (fo (MV I nL) 15 0 5402) 5 τ1 (by omega) (by omega) a2.1
  have z2 := Nat.le_trans a2.1 b2.1
  obtain ⟨τ3, c1, c2⟩ := m_gLL (mi := mi) h hn nL 0 (seD I nS 0 (fo (MV I nL) 15 0 5402)) 17 τ2 (by omega) (by omega) z2
  have z3 := Nat.le_trans z2 c2.1
  obtain ⟨τ4, d1, d2⟩ := m_gT (mi := mi) h hn z3 3 0 (loD I bl nL 0 (seD I nS 0 (fo (MV I nL) 15 0 5402))) 4 (by omega) (by omega)
  refine ⟨τ4, ?_, KJ.trans a2 (KJ.trans b2 (KJ.trans c2 d2))⟩
  rw [f_X8_digest, b_X8_digest_0, pI_pt hj q0]
  exact a1.trans (b1.trans (c1.trans d1))
end D2
