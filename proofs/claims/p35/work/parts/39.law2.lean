/-! THE LAW'S ROUNDS -/
section LX
variable {φ : Nat → Nat} {T : Nat → Nat × Nat} {I J : Nat → Nat → Int32} {R : Nat → Nat → Option Nat} {τ : Mem} {nS nL n z : Nat}
variable {i s k : Nat} {pu wa r q y x9 : Int32} {P : Int} {xs : Nat → Int32} {L9 b9 : Nat}
variable {K : (Option Nat) → Int32 → Int32 → Int32 → Int32 → Mem → Option ((Int32) × Mem)}
theorem vM {w : Nat} (hw : w < 4) : MV I nL (w + 11) = I 10 w := by
  rcases lt4 hw with rfl | rfl | rfl | rfl <;> rfl
theorem x_170p (h : Cx φ T I R (mZ τ) nS nL n) (hM : Mon I P n) (hk : k < 48) (hn : n ≤ 6 * k) (hP : pu.toInt - wa.toInt = P) (hp : 0 ≤ pu.toInt ∧ pu.toInt ≤ 200 * k) (hw : 0 ≤ wa.toInt ∧ wa.toInt ≤ 18 * k) (hy : (∃ i, i < nL ∧ x9 = Int32.ofNat i ∧ y = I (6 * i + 19) 0) ∨ (x9 = -1 ∧ y = -1)) (hb : f_L_below r 14 (pt φ T I R τ) = some (6, pt φ T I R τ)) {x8 : Int32} : Gd φ T R nS k K (b_L_law_170 xs L9 b9 K (some (φ 0)) (Int32.ofNat nS) pu wa (Int32.ofNat k) r q x8 x9 y (pt φ T I R τ)) := by
  have hj := h.hj
  have hN := h.m.2.2.2.2.1
  have q0 := q0_of h
  obtain ⟨b1, hb1, B1⟩ := bl_of (c := 4) (v := r >>> (4 &&& 31)) (σ := pt φ T I R τ) (by omega) (by omega)
  have B1' : f_L_below (r >>> (4 &&& 31)) 4 (pt φ T I R τ) = some (Int32.ofNat b1, pt φ T I R τ) := B1
  obtain ⟨b2, hb2, B2⟩ := bl_of (c := 200) (v := r >>> (6 &&& 31)) (σ := pt φ T I R τ) (by omega) (by omega)
  have B2' : f_L_below (r >>> (6 &&& 31)) 200 (pt φ T I R τ) = some (Int32.ofNat b2, pt φ T I R τ) := B2
  obtain ⟨J1, P1, P2, P3, P4⟩ := x_purseF (τ := τ) (more := Int32.ofNat (b2 + 1)) h hM (by omega) hb1 (rgN (lo := 1) (hi := 200) (by omega) (by omega))
  have em : (Int32.ofNat (b2 + 1)).toInt = (b2 + 1 : Nat) := kN_t (by omega)
  have e11 : 11 + Int32.ofNat b1 = Int32.ofNat (b1 + 11) := by rw [Int32.add_comm]; exact (Int32.ofNat_add b1 11).symm
  have MM := x_many (τ := τ) (k := b1 + 11) P2 (by omega)
  rw [vM hb1] at MM
  have ep : (pu + Int32.ofNat (b2 + 1)).toInt = pu.toInt + (b2 + 1 : Nat) := by rw [tAdd (by omega) (by omega), em]
  rw [em] at P3
  rw [b_L_law_170, hb, cl1_s, if_neg (by decide), if_neg (by decide), if_neg (by decide), if_neg (by decide), if_neg (by decide), if_neg (by decide), if_pos rfl, nm, B1', cl1_s, nm, B2', cl1_s, nm, oneN, ob_pt hj q0, P1, cl1_s, nm, e11, ob_pt hj q0, MM, cl1_s, if_pos rfl, nm]
  by_cases c : y = 2
  · obtain ⟨i, iL, rfl, rfl⟩ | ⟨-, e⟩ := hy
    · have s1 : J1 (6 * i + 19) 0 = 2 := by rw [P4 _ (by omega)]; exact c
      have L13 : f_X4_ofLot (φ 0) (Int32.ofNat i) 13 (pt φ T J1 R τ) = some (J1 (6 * i + 22) 0, pt φ T J1 R τ) := lo (k := 13) P2 iL (by omega)
      rw [if_pos c, ob_pt hj q0, L13, cl1_s]
      by_cases c1 : J1 (6 * i + 22) 0 = 0
      · obtain ⟨b3, hb3, B3⟩ := bl_of (c := 30) (v := q >>> (6 &&& 31)) (σ := pt φ T J1 R τ) (by omega) (by omega)
        have B3' : f_L_below (q >>> (6 &&& 31)) 30 (pt φ T J1 R τ) = some (Int32.ofNat b3, pt φ T J1 R τ) := B3
        obtain ⟨v, J2, O1, O2, O3, O4, O5, O6, O7⟩ := x_offerF (τ := τ) (c := Int32.ofNat (b3 + 1)) P2 iL s1 (rgN (lo := 1) (hi := 99) (by omega) (by omega))
        have ho : ¬ J2 (6 * i + 22) 0 ≤ 0 := by
          rw [O4, show (0 : Int32) = Int32.ofNat 0 from rfl, kN_le (by omega) (by omega)]; omega
        rw [if_pos c1, nm, B3', cl1_s, nm, oneN, ob_pt hj q0, O1, cl1_s, if_neg O2]
        exact x_515 O3 (P3.same (by omega) (by rw [O6]) O7) hk (by omega) (by omega) (by omega) (by omega) iL ho hb1
      · obtain ⟨-, -, -, -, -, -, -, -, -, ⟨a0, -, -⟩, -⟩ := P2.lr iL
        have ho : ¬ J1 (6 * i + 22) 0 ≤ 0 := fun z => by
          have := leT z
          have z0 : (0 : Int32).toInt = 0 := rfl
          exact c1 (Int32.toInt_inj.mp (by omega))
        rw [if_neg c1]
        exact x_515 P2 P3 hk (by omega) (by omega) (by omega) (by omega) iL ho hb1
    · rw [e] at c; exact absurd c (by decide)
  · rw [if_neg c]
    exact x_658 P2 P3 hk (by omega) (by omega) (by omega) (by omega)
theorem x_170 (h : Cx φ T I R (mZ τ) nS nL n) (hM : Mon I P n) (hk : k < 48) (hn : n ≤ 6 * k) (hP : pu.toInt - wa.toInt = P) (hp : 0 ≤ pu.toInt ∧ pu.toInt ≤ 200 * k) (hw : 0 ≤ wa.toInt ∧ wa.toInt ≤ 18 * k) (hy : (∃ i, i < nL ∧ x9 = Int32.ofNat i ∧ y = I (6 * i + 19) 0) ∨ (x9 = -1 ∧ y = -1)) (sS : s < nS) : Gd φ T R nS k K (b_L_law_170 xs L9 b9 K (some (φ 0)) (Int32.ofNat nS) pu wa (Int32.ofNat k) r q (Int32.ofNat s) x9 y (pt φ T I R τ)) := by
  have hj := h.hj
  have hN := h.m.2.2.2.2.1
  have q0 := q0_of h
  have W := x_658s (xs := xs) (L9 := L9) (b9 := b9) (K := K) h hM (Nat.le_refl _) rfl rfl hk (by omega) hP hp hw
  have A := x_228 (xs := xs) (L9 := L9) (b9 := b9) (K := K) (r := r) h hM hk hn hP hp hw sS
  have B := x_258 (xs := xs) (L9 := L9) (b9 := b9) (K := K) (r := r) h hM hk hn hP hp hw sS
  obtain ⟨b, hb, Bl⟩ := bl_of (c := 14) (v := r) (σ := pt φ T I R τ) (by omega) (by omega)
  have Bl' : f_L_below r 14 (pt φ T I R τ) = some (Int32.ofNat b, pt φ T I R τ) := Bl
  by_cases c6 : Int32.ofNat b = 6
  · exact x_170p h hM hk hn hP hp hw hy (by rw [← c6]; exact Bl')
  rw [b_L_law_170, Bl', cl1_s]
  by_cases c0 : Int32.ofNat b = 0
  · rw [if_pos c0]; exact A
  rw [if_neg c0]
  by_cases c1 : Int32.ofNat b = 1
  · rw [if_pos c1]; exact A
  rw [if_neg c1]
  by_cases c2 : Int32.ofNat b = 2
  · rw [if_pos c2]; exact B
  rw [if_neg c2]
  by_cases c3 : Int32.ofNat b = 3
  · rw [if_pos c3]; exact B
  rw [if_neg c3]
  by_cases c4 : Int32.ofNat b = 4
  · rw [if_pos c4]; exact B
  rw [if_neg c4]
  by_cases c5 : Int32.ofNat b = 5
  · obtain ⟨J', P1, P2, P3, P4, P5, P6, P7⟩ := x_sprayF (τ := τ) h sS
    have S4 : f_X4_ofSection (φ 0) (Int32.ofNat s) 4 (pt φ T J' R τ) = some (J' (2 * s + 11) 4, pt φ T J' R τ) := x_ofSecC (k := 4) P5 sS (by omega)
    have S5 : f_X4_ofSection (φ 0) (Int32.ofNat s) 5 (pt φ T J' R τ) = some (J' (2 * s + 11) 5, pt φ T J' R τ) := x_ofSecC (k := 5) P5 sS (by omega)
    rw [if_pos c5, ob_pt hj q0, P1, cl1_s, if_neg (Int32.not_lt.mpr P2), ob_pt hj q0, S4, cl1_s, if_pos P3, ob_pt hj q0, S5, cl1_s, if_pos P4]
    exact x_658s P5 hM (by omega) (by rw [P6]) P7 hk (by omega) hP hp hw
  rw [if_neg c5, if_neg c6]
  by_cases c7 : Int32.ofNat b = 7
  · rw [if_pos c7]
    by_cases c : y = 2
    · obtain ⟨i, iL, rfl, rfl⟩ | ⟨-, e⟩ := hy
      · have L13 : f_X4_ofLot (φ 0) (Int32.ofNat i) 13 (pt φ T I R τ) = some (I (6 * i + 22) 0, pt φ T I R τ) := lo (k := 13) h iL (by omega)
        rw [if_pos c, ob_pt hj q0, L13, cl1_s]
        by_cases o : I (6 * i + 22) 0 ≤ 0
        · rw [if_pos o]; exact W
        · obtain ⟨b2, hb2, B2⟩ := bl_of (c := 2) (v := q) (σ := pt φ T I R τ) (by omega) (by omega)
          have B2' : f_L_below q 2 (pt φ T I R τ) = some (Int32.ofNat b2, pt φ T I R τ) := B2
          rw [if_neg o, B2', cl1_s]
          by_cases o2 : Int32.ofNat b2 = 0
          · obtain ⟨J', P1, P2, P3⟩ := x_sold (τ := τ) h hM (by omega) iL o
            rw [if_pos o2, P1, cl1_s, if_neg (by decide)]
            exact x_658 P2 P3 hk (by omega) hP (by omega) (by omega)
          · rw [if_neg o2]; exact W
      · rw [e] at c; exact absurd c (by decide)
    · rw [if_neg c]; exact W
  rw [if_neg c7]
  by_cases c8 : Int32.ofNat b = 8
  · rw [if_pos c8]
    by_cases c : y = 2
    · obtain ⟨i, iL, rfl, rfl⟩ | ⟨-, e⟩ := hy
      · obtain ⟨b1, hb1, B1⟩ := bl_of (c := 3) (v := r >>> (4 &&& 31)) (σ := pt φ T I R τ) (by omega) (by omega)
        have B1' : f_L_below (r >>> (4 &&& 31)) 3 (pt φ T I R τ) = some (Int32.ofNat b1, pt φ T I R τ) := B1
        obtain ⟨b2, hb2, B2⟩ := bl_of (c := 5) (v := q) (σ := pt φ T I R τ) (by omega) (by omega)
        have B2' : f_L_below q 5 (pt φ T I R τ) = some (Int32.ofNat b2, pt φ T I R τ) := B2
        have hc : -2 ≤ Int32.ofNat b2 - 2 ∧ Int32.ofNat b2 - 2 ≤ 2 := by
          have t1 : (Int32.ofNat b2).toInt = b2 := kN_t (by omega)
          have t2 : (2 : Int32).toInt = 2 := rfl
          have t3 : (-2 : Int32).toInt = -2 := rfl
          have t4 : (Int32.ofNat b2 - 2).toInt = b2 - 2 := by rw [tSub (by omega) (by omega)]; omega
          exact ⟨Int32.le_iff_toInt_le.mpr (by omega), Int32.le_iff_toInt_le.mpr (by omega)⟩
        obtain ⟨J', P1, P2, P3, P4⟩ := x_told (τ := τ) h (by omega) iL c hb1 hc
        rw [if_pos c, nm, B1', cl1_s, B2', cl1_s, nm, P1, cl1_s, if_neg (by decide)]
        exact x_658s P2 hM (by omega) P3 P4 hk (by omega) hP hp hw
      · rw [e] at c; exact absurd c (by decide)
    · rw [if_neg c]; exact W
  rw [if_neg c8]
  obtain ⟨i, iL, rfl, rfl⟩ | ⟨rfl, e⟩ := hy
  · obtain ⟨J', τ', nL', P1, P2, P3, P4⟩ := x_worked (τ := τ) (r := r >>> (3 &&& 31)) (q := q >>> (5 &&& 31)) h (by omega) iL
    rw [if_neg (kN_nn (by omega)), nm, nm, P1, cl1_s, if_neg (by decide)]
    exact x_658s P2 hM (by omega) P3 P4 hk (by omega) hP hp hw
  · rw [if_pos (by decide)]; exact W
theorem rm16 {a : Nat} (ha : a < 1000000) : ∃ v : Int32, ¬ v < 0 ∧ ∀ {β : Type} {K : Int32 → Option β}, rm (Int32.ofNat a) 16 K = K v := by
  have e : (Int32.ofNat a).toInt = a := kN_t ha
  have h0 : 0 ≤ (Int32.ofNat a).toInt := by omega
  refine ⟨Int32.ofNat a - Int32.ofNat a / 16 * 16, fun y => ?_, fun {β K} => rm_v h0 (by decide)⟩
  have := rm_b (m := 16) h0 (by decide)
  have := ltT y
  have z0 : (0 : Int32).toInt = 0 := rfl
  omega
theorem x_round (hL : L9 ≤ 260) (hk : k < 48) (hS1 : 1 ≤ nS) (v : Iv φ T R nS k I τ nL pu wa) : Gd φ T R nS k K (b_L_law_76 xs L9 b9 K (some (φ 0)) (Int32.ofNat nS) pu wa (Int32.ofNat k) (pt φ T I R τ)) := by
  obtain ⟨n, P, h, hM, hn, hP, hp, hw⟩ := v
  have hj := h.hj
  have hN := h.m.2.2.2.2.1
  have hS := h.m.2.2.2.2.2.1
  have q0 := q0_of h
  have g2 : I 0 4 = Int32.ofNat nL := h.2.2.2.2.1.2
  have M2 : f_X4_many (φ 0) 2 (pt φ T I R τ) = some (Int32.ofNat nL, pt φ T I R τ) := by rw [← g2]; exact x_many (k := 2) h (by omega)
  have c48 : ¬ (48 : Int32) ≤ Int32.ofNat k := by rw [show (48 : Int32) = Int32.ofNat 48 from rfl, kN_le (by omega) (by omega)]; omega
  obtain ⟨v1, n1, R1⟩ := rm16 (a := k) (by omega)
  obtain ⟨v2, n2, R2⟩ := rm16 (a := 3 * k + 1) (by omega)
  have e3 : 3 * Int32.ofNat k + 1 = Int32.ofNat (3 * k + 1) := by rw [Int32.ofNat_add, Int32.ofNat_mul]; rfl
  rw [b_L_law_76, if_neg c48, R1, x_cell hL n1, cl1_s, nm, nm, nm, nm, e3, R2, x_cell hL n2, cl1_s, nm, nm]
  obtain ⟨r, hr⟩ : ∃ r, r = clw xs L9 v1 + 37 * Int32.ofNat k := ⟨_, rfl⟩
  obtain ⟨q, hq⟩ : ∃ q, q = clw xs L9 v2 + 5 * Int32.ofNat k := ⟨_, rfl⟩
  rw [← hr, ← hq]
  obtain ⟨s, sS, B⟩ := bl_of (c := nS) (v := q) (σ := pt φ T I R τ) (by omega) (by omega)
  rw [B, cl1_s, ob_pt hj q0, M2, cl1_s]
  by_cases c : Int32.ofNat nL = 0
  · rw [if_pos c, b_L_law_152, if_neg (by decide)]
    exact x_170 h hM hk hn hP hp hw (Or.inr ⟨rfl, rfl⟩) sS
  · have nL0 : 0 < nL := by
      have : nL ≠ 0 := fun y => c (by rw [y]; rfl)
      omega
    obtain ⟨i, iL, B2⟩ := bl_of (c := nL) (v := q >>> (3 &&& 31)) (σ := pt φ T I R τ) nL0 (by omega)
    have L0 : f_X4_ofLot (φ 0) (Int32.ofNat i) 0 (pt φ T I R τ) = some (I (6 * i + 19) 0, pt φ T I R τ) := lo (k := 0) h iL (by omega)
    rw [if_neg c, nm, ob_pt hj q0, M2, cl1_s, B2, cl1_s, b_L_law_152, if_pos (Int32.not_lt.mp (kN_nn (by omega))), ob_pt hj q0, L0, cl1_s]
    exact x_170 h hM hk hn hP hp hw (Or.inl ⟨i, iL, rfl, rfl⟩) sS
theorem x_end (hS1 : 1 ≤ nS) (v : Iv φ T R nS 48 I τ nL pu wa) : ∃ σ', b_L_law_76 xs L9 b9 K (some (φ 0)) (Int32.ofNat nS) pu wa (Int32.ofNat 48) (pt φ T I R τ) = some (1, σ') := by
  obtain ⟨n, P, h, hM, hn, hP, hp, hw⟩ := v
  have hj := h.hj
  have hN := h.m.2.2.2.2.1
  have hS := h.m.2.2.2.2.2.1
  have q0 := q0_of h
  obtain ⟨I2, D1, D2⟩ := x_digest (τ := τ) h (by omega)
  have h2 : Cx φ T I2 R (mZ τ) nS nL n := D2.cx h
  have BMs := x_bestMix (τ := τ) (p := 0) (q := 0) (r := 0) h2 (by decide) (by decide) (by decide)
  have FIs : f_X4_flushIn (φ 0) 0 6 6 (pt φ T I2 R τ) = some (FI I2 0 6 6, pt φ T I2 R τ) := x_flushIn (i := 0) h2 (InN.of (k := 0) (by omega) (by omega)) rfl (by decide) (by decide)
  have MN := x_meanNotes (τ := τ) h2
  have mb := MNV_b h2
  obtain ⟨I3, E1, E2⟩ := x_digest (τ := τ) h2 (by omega)
  rw [D2.dg hN hS] at E1
  have n1 : ¬ BM I2 (n3 0 0 0) nL < -1 := fun y => by
    have := ltT y
    have := BM_b (ne := n3 0 0 0) h2
    have z : (-1 : Int32).toInt = -1 := rfl
    omega
  have n2 : ¬ 30 < FI I2 0 6 6 := fun y => by
    have b3 : I2 (2 * 0 + 11) 3 = 0 := (h2.sr (show 0 < nS by omega)).2.2.2.1
    rw [FI, b3] at y
    rcases fi_c (w := 6) (e := 6) (shade := I2 (2 * 0 + 11) 1) 30 0 (I2 (2 * 0 + 11) 2) (by omega) with g | ⟨q, hq, g⟩
    · rw [g] at y; exact absurd y (by decide)
    · rw [g, show (30 : Int32) = Int32.ofNat 30 from rfl, kN_lt (by omega) (by omega)] at y; omega
  refine ⟨pt φ T I3 R τ, ?_⟩
  have eL : ∀ d : Int64, lg_cmp d d = 0 := fun d => by
    unfold lg_cmp
    rw [if_neg (show ¬ d > d from Int64.lt_irrefl), if_pos rfl]
  rw [b_L_law_76, if_pos (by decide), ob_pt hj q0, D1, cl1_s, ob_pt hj q0, BMs, cl1_s, if_neg n1, ob_pt hj q0, FIs, cl1_s, if_neg n2, ob_pt hj q0, MN, cl1_s, nm, if_neg (inB_lo mb), ob_pt hj q0, MN, cl1_s, nm, if_pos (inB_hi mb), ob_pt hj q0, E1, cl1_s, nm, eL, if_pos rfl, b_L_law_746]
theorem x_loop (hL : L9 ≤ 260) (hS1 : 1 ≤ nS) : ∀ d k fl (I : Nat → Nat → Int32) (τ : Mem) (nL : Nat) (pu wa : Int32), k + d = 48 → d + 1 ≤ fl → Iv φ T R nS k I τ nL pu wa → ∃ σ', l_L_law_76 xs L9 b9 fl (some (φ 0)) (Int32.ofNat nS) pu wa (Int32.ofNat k) (pt φ T I R τ) = some (1, σ') := by
  intro d
  induction d with
  | zero =>
    intro k fl I τ nL pu wa h1 h2 v
    obtain ⟨fl', rfl⟩ : ∃ x, fl = x + 1 := ⟨fl - 1, by omega⟩
    obtain rfl : k = 48 := by omega
    rw [l_L_law_76, itr_succ]
    exact x_end hS1 v
  | succ d ih =>
    intro k fl I τ nL pu wa h1 h2 v
    obtain ⟨fl', rfl⟩ : ∃ x, fl = x + 1 := ⟨fl - 1, by omega⟩
    obtain ⟨I', τ', nL', pu', wa', F, v'⟩ := x_round (K := l_L_law_76 xs L9 b9 fl') (xs := xs) (b9 := b9) hL (by omega) hS1 v
    obtain ⟨σ', G⟩ := ih (k + 1) fl' I' τ' nL' pu' wa' (by omega) (by omega) v'
    exact ⟨σ', F.trans G⟩
/-- the sections laid, then the rounds -/
theorem x_law22 (hL : L9 ≤ 260) {c : Nat} (hc : 1 ≤ c ∧ c ≤ 4) : ∀ d k fl (I : Nat → Nat → Int32), k + d = c → d + 1 ≤ fl → Cx φ T I R (mZ τ) k 0 0 → Mon I 0 0 → ∃ σ', l_L_law_22 xs L9 b9 fl (some (φ 0)) (Int32.ofNat c) (Int32.ofNat k) (pt φ T I R τ) = some (1, σ') := by
  intro d
  induction d with
  | zero =>
    intro k fl I h1 h2 h hM
    obtain ⟨fl', rfl⟩ : ∃ x, fl = x + 1 := ⟨fl - 1, by omega⟩
    obtain rfl : k = c := by omega
    rw [l_L_law_22, itr_succ, b_L_law_22, if_pos (Int32.le_refl _)]
    have z0 : (0 : Int32).toInt = 0 := rfl
    exact x_loop hL hc.1 48 0 50 I τ 0 0 0 (by omega) (by omega) ⟨0, 0, h, hM, by omega, by omega, by omega, by omega⟩
  | succ d ih =>
    intro k fl I h1 h2 h hM
    obtain ⟨fl', rfl⟩ : ∃ x, fl = x + 1 := ⟨fl - 1, by omega⟩
    have hj := h.hj
    have q0 := q0_of h
    have c1 : ¬ Int32.ofNat c ≤ Int32.ofNat k := by rw [kN_le (by omega) (by omega)]; omega
    have e2 : Int32.ofNat k + 2 = Int32.ofNat (k + 2) := (Int32.ofNat_add k 2).symm
    have w1 : ¬ Int32.ofNat (k + 1) < 0 := kN_nn (by omega)
    have w2 : ¬ Int32.ofNat (k + 2) < 0 := kN_nn (by omega)
    obtain ⟨b1, hb1, B1⟩ := bl_of (c := 9) (v := clw xs L9 (Int32.ofNat (k + 1))) (σ := pt φ T I R τ) (by omega) (by omega)
    have B1' : f_L_below (clw xs L9 (Int32.ofNat (k + 1))) 9 (pt φ T I R τ) = some (Int32.ofNat b1, pt φ T I R τ) := B1
    obtain ⟨b2, hb2, B2⟩ := bl_of (c := 3) (v := clw xs L9 (Int32.ofNat (k + 2))) (σ := pt φ T I R τ) (by omega) (by omega)
    have B2' : f_L_below (clw xs L9 (Int32.ofNat (k + 2))) 3 (pt φ T I R τ) = some (Int32.ofNat b2, pt φ T I R τ) := B2
    obtain ⟨J', F, C, e0, e10⟩ := x_secF (τ := τ) (a := Int32.ofNat (b1 + 1)) (b := Int32.ofNat b2) h (by omega) (rgN (lo := 1) (hi := 9) (by omega) (by omega)) (rgN (lo := 0) (hi := 2) (by omega) (by omega))
    obtain ⟨σ', G⟩ := ih (k + 1) fl' J' (by omega) (by omega) C (hM.same (Nat.le_refl _) (e0 8 (by omega)) e10)
    refine ⟨σ', ?_⟩
    rw [l_L_law_22, itr_succ, b_L_law_22, if_neg c1, nm, kN_s, x_cell hL w1, cl1_s, B1', cl1_s, nm, oneN, nm, e2, x_cell hL w2, cl1_s, B2', cl1_s, ob_pt hj q0, F, cl1_s, if_pos rfl, nm]
    exact G
end LX
