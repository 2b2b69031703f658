/-! TWO LOTS MIXED BY THE LAW -/
section W2
variable {φ : Nat → Nat} {T : Nat → Nat × Nat} {I J : Nat → Nat → Int32} {R : Nat → Nat → Option Nat} {τ : Mem} {nS nL n z : Nat}
variable {i j a k : Nat} {v r q d u w yi yu : Int32} {τ0 : Mem}
def mnX (a b : Int32) : Int32 := if b < a then b else a
def mxX (a b : Int32) : Int32 := if a < b then b else a
theorem x_w532 (h : Cx φ T I R (mZ τ0) nS nL n) (iL : i < nL) (jL : j < nL) (si : I (6 * i + 19) 0 = 2) (sj : I (6 * j + 19) 0 = 2) (ho : Off φ T a) (ta : mT τ0 a = (100, 6)) (hk : k < 3)
    {K : (Option Nat) → Int32 → Int32 → Int32 → Int32 → Int32 → (Option Nat) → Int32 → Mem → Option ((Int32) × Mem)} :
    b_L_isWorked_532 K (some (φ 0)) (Int32.ofNat i) d (Int32.ofNat j) u w (some a) (Int32.ofNat k) (pt φ T I R τ0) = K (some (φ 0)) (Int32.ofNat i) d (Int32.ofNat j) u w (some a) (Int32.ofNat (k + 1)) (pt φ T I R (sI (sI τ0 a k (mnX (NV I i k) (NV I j k))) a (k + 3) (mxX (NV I i k) (NV I j k)))) := by
  have hj := h.hj
  have hN := h.m.2.2.2.2.1
  have q0 := q0_of h
  have c1 : ¬ (3 : Int32) ≤ Int32.ofNat k := by rw [show (3 : Int32) = Int32.ofNat 3 from rfl, kN_le (by omega) (by omega)]; omega
  have N : ∀ τ1, mZ τ1 = mZ τ0 → ∀ j, j < nL → I (6 * j + 19) 0 = 2 → f_X4_note (φ 0) (Int32.ofNat j) (Int32.ofNat k) (pt φ T I R τ1) = some (NV I j k, pt φ T I R τ1) := fun τ1 e j jL sj => x_note (by rw [e]; exact h) (InN.of jL (by omega)) (tnK (by omega)) sj hk
  have e3 : 3 + Int32.ofNat k = Int32.ofNat (k + 3) := by rw [Int32.add_comm]; exact (Int32.ofNat_add k 3).symm
  have t1 : (Int32.ofNat k).toNatClampNeg = k := tnK (by omega)
  have t2 : (Int32.ofNat (k + 3)).toNatClampNeg = k + 3 := tnK (by omega)
  have z1 : mZ (sI τ0 a k (mnX (NV I i k) (NV I j k))) = mZ τ0 := rfl
  rw [b_L_isWorked_532, if_neg c1, ob_pt hj q0, N τ0 rfl i iL si, cl1_s, ob_pt hj q0, N τ0 rfl j jL sj, cl1_s, nm, wI_off ho (by rw [ta]) (kN_nn (by omega)) (by rw [ta, t1]; show k < 6; omega), t1, nm, ob_pt hj q0]
  have e4 : (if NV I j k < NV I i k then NV I j k else NV I i k) = mnX (NV I i k) (NV I j k) := rfl
  rw [e4, N _ z1 i iL si, cl1_s, ob_pt hj q0, N _ z1 j jL sj, cl1_s, nm, e3, wI_off ho (by rw [mT_sI, ta]) (kN_nn (by omega)) (by rw [mT_sI, ta, t2]; show k + 3 < 6; omega), t2, nm, kN_s]
  rfl
theorem x_w608 {J : Nat → Nat → Int32} {g : Nat} (h : Cx φ T J R (mZ τ0) nS nL n) (gL : g < nL) (sg : J (6 * g + 19) 0 = 2) (ho : Off φ T a) (ta : mT τ0 a = (100, 6)) (hk : k < 3)
    (h1 : (mI τ0 a k).toInt ≤ (NV J g k).toInt) (h2 : (NV J g k).toInt ≤ (mI τ0 a (k + 3)).toInt)
    {K : (Option Nat) → Int32 → Int32 → Int32 → Int32 → (Option Nat) → Int32 → Int32 → Mem → Option ((Int32) × Mem)} {p : Int32} :
    b_L_isWorked_608 K (some (φ 0)) p d u w (some a) (Int32.ofNat g) (Int32.ofNat k) (pt φ T J R τ0) = K (some (φ 0)) p d u w (some a) (Int32.ofNat g) (Int32.ofNat (k + 1)) (pt φ T J R τ0) := by
  have hj := h.hj
  have hN := h.m.2.2.2.2.1
  have q0 := q0_of h
  have c1 : ¬ (3 : Int32) ≤ Int32.ofNat k := by rw [show (3 : Int32) = Int32.ofNat 3 from rfl, kN_le (by omega) (by omega)]; omega
  have N : f_X4_note (φ 0) (Int32.ofNat g) (Int32.ofNat k) (pt φ T J R τ0) = some (NV J g k, pt φ T J R τ0) := x_note h (InN.of gL (by omega)) (tnK (by omega)) sg hk
  have e3 : 3 + Int32.ofNat k = Int32.ofNat (k + 3) := by rw [Int32.add_comm]; exact (Int32.ofNat_add k 3).symm
  have t1 : (Int32.ofNat k).toNatClampNeg = k := tnK (by omega)
  have t2 : (Int32.ofNat (k + 3)).toNatClampNeg = k + 3 := tnK (by omega)
  rw [b_L_isWorked_608, if_neg c1, ob_pt hj q0, N, cl1_s, aI_off ho (by rw [ta]) (kN_nn (by omega)) (by rw [ta, t1]; show k < 6; omega), t1, if_neg (fun y => by have := ltT y; omega), ob_pt hj q0, N, cl1_s, nm, e3, aI_off ho (by rw [ta]) (kN_nn (by omega)) (by rw [ta, t2]; show k + 3 < 6; omega), t2, if_pos (Int32.le_iff_toInt_le.mpr h2), nm, kN_s]
theorem mnX_t (a b : Int32) : ((mnX a b).toInt ≤ a.toInt ∧ (mnX a b).toInt ≤ b.toInt) := by
  unfold mnX
  split
  · rename_i h; have := ltT h; omega
  · rename_i h; have := leT (Int32.not_lt.mp h); omega
theorem mxX_t (a b : Int32) : (a.toInt ≤ (mxX a b).toInt ∧ b.toInt ≤ (mxX a b).toInt) := by
  unfold mxX
  split
  · rename_i h; have := ltT h; omega
  · rename_i h; have := leT (Int32.not_lt.mp h); omega
theorem x_wk442 (h : Cx φ T I R (mZ τ) nS nL n) (hn : n < 590) (iL : i < nL) (si : I (6 * i + 19) 0 = 2) (ai : I (6 * i + 22) 0 ≤ 0) : Wk φ T I R nS n (b_L_isWorked_442 (some (φ 0)) (Int32.ofNat i) r q (I (6 * i + 19) 1) (pt φ T I R τ)) := by
  have hj := h.hj
  have hN := h.m.2.2.2.2.1
  have q0 := q0_of h
  have z0 : (0 : Int32).toInt = 0 := rfl
  have z1 : (1 : Int32).toInt = 1 := rfl
  have g2 : I 0 4 = Int32.ofNat nL := h.2.2.2.2.1.2
  have M2 : f_X4_many (φ 0) 2 (pt φ T I R τ) = some (Int32.ofNat nL, pt φ T I R τ) := by rw [← g2]; exact x_many (k := 2) h (by omega)
  obtain ⟨j, jL, B⟩ := bl_of (c := nL) (v := q) (σ := pt φ T I R τ) (by omega) (by omega)
  have W492 : Wk φ T I R nS n (b_L_isWorked_492 (pt φ T I R τ)) := Wk.same h (by rw [b_L_isWorked_492, bo1])
  have D : ∀ {i}, i < nL → I (6 * i + 19) 0 = 2 → 0 < (I (6 * i + 19) 1).toInt := fun {i} hi hs => (h.lr hi).2.2.2.1.2 (by rw [hs]; decide)
  rw [b_L_isWorked_442, ob_pt hj q0, M2, cl1_s, B, cl1_s]
  by_cases c1 : Int32.ofNat j = Int32.ofNat i
  · rw [if_pos c1]; exact W492
  · rw [if_neg c1]
    have hne : i ≠ j := fun y => c1 (by rw [y])
    have L0 : f_X4_ofLot (φ 0) (Int32.ofNat j) 0 (pt φ T I R τ) = some (I (6 * j + 19) 0, pt φ T I R τ) := lo (k := 0) h jL (by omega)
    have L1 : f_X4_ofLot (φ 0) (Int32.ofNat j) 1 (pt φ T I R τ) = some (I (6 * j + 19) 1, pt φ T I R τ) := lo (k := 1) h jL (by omega)
    have L13 : f_X4_ofLot (φ 0) (Int32.ofNat j) 13 (pt φ T I R τ) = some (I (6 * j + 22) 0, pt φ T I R τ) := lo (k := 13) h jL (by omega)
    rw [ob_pt hj q0, L0, cl1_s]
    by_cases sj : I (6 * j + 19) 0 = 2
    · rw [if_pos sj, ob_pt hj q0, L13, cl1_s]
      by_cases aj : 0 < I (6 * j + 22) 0
      · rw [if_pos aj]; exact W492
      · rw [if_neg aj, ob_pt hj q0, M2, cl1_s]
        by_cases c16 : Int32.ofNat nL = 16
        · rw [if_pos c16]; exact W492
        · have hL : nL < 16 := by
            have : nL ≠ 16 := fun y => c16 (by rw [y]; rfl)
            omega
          have di := D iL si
          have dj := D jL sj
          have hu := blw_lt (v := r >>> (2 &&& 31)) di
          have hw := blw_lt (v := r >>> (5 &&& 31)) dj
          have bi := (h.dry iL).2
          have bj := (h.dry jL).2
          have B1 := x_below (v := r >>> (2 &&& 31)) (σ := pt φ T I R τ) di
          have B2 := x_below (v := r >>> (5 &&& 31)) (σ := pt φ T I R τ) dj
          obtain ⟨b1, hb1⟩ : ∃ b, b = blw (r >>> (2 &&& 31)) (I (6 * i + 19) 1) := ⟨_, rfl⟩
          obtain ⟨b2, hb2⟩ : ∃ b, b = blw (r >>> (5 &&& 31)) (I (6 * j + 19) 1) := ⟨_, rfl⟩
          rw [← hb1] at B1 hu
          rw [← hb2] at B2 hw
          have eu : (Int32.ofNat (b1 + 1)).toInt = (b1 + 1 : Nat) := kN_t (by omega)
          have ew : (Int32.ofNat (b2 + 1)).toInt = (b2 + 1 : Nat) := kN_t (by omega)
          have hu2 : 1 ≤ Int32.ofNat (b1 + 1) ∧ Int32.ofNat (b1 + 1) ≤ I (6 * i + 19) 1 := ⟨Int32.le_iff_toInt_le.mpr (by omega), Int32.le_iff_toInt_le.mpr (by omega)⟩
          have hw2 : 1 ≤ Int32.ofNat (b2 + 1) ∧ Int32.ofNat (b2 + 1) ≤ I (6 * j + 19) 1 := ⟨Int32.le_iff_toInt_le.mpr (by omega), Int32.le_iff_toInt_le.mpr (by omega)⟩
          have ho : Off φ T (mZ τ) := Off.of h.hl (Nat.le_refl _)
          rw [if_neg c16, nm, B1, cl1_s, nm, oneN, nm, ob_pt hj q0, L1, cl1_s, B2, cl1_s, nm, oneN, nA_off ho (by decide) (by decide)]
          obtain ⟨u, hU⟩ : ∃ u, u = Int32.ofNat (b1 + 1) := ⟨_, rfl⟩
          obtain ⟨w, hW⟩ : ∃ w, w = Int32.ofNat (b2 + 1) := ⟨_, rfl⟩
          rw [← hU] at hu2 eu ⊢
          rw [← hW] at hw2 ew ⊢
          obtain ⟨τ1, e1⟩ : ∃ τ1, τ1 = sN τ (100 + 0, (6 : Int32).toNatClampNeg) := ⟨_, rfl⟩
          rw [← e1]
          have t1 : mT τ1 (mZ τ) = (100, 6) := by rw [e1, mT_sN_at]; rfl
          have m1 : mZ τ1 = mZ τ + 1 := by rw [e1, mZ_sN]
          obtain ⟨τ2, e2⟩ : ∃ τ2, τ2 = sI (sI τ1 (mZ τ) 0 (mnX (NV I i 0) (NV I j 0))) (mZ τ) (0 + 3) (mxX (NV I i 0) (NV I j 0)) := ⟨_, rfl⟩
          obtain ⟨τ3, e3⟩ : ∃ τ3, τ3 = sI (sI τ2 (mZ τ) 1 (mnX (NV I i 1) (NV I j 1))) (mZ τ) (1 + 3) (mxX (NV I i 1) (NV I j 1)) := ⟨_, rfl⟩
          obtain ⟨τ4, e4⟩ : ∃ τ4, τ4 = sI (sI τ3 (mZ τ) 2 (mnX (NV I i 2) (NV I j 2))) (mZ τ) (2 + 3) (mxX (NV I i 2) (NV I j 2)) := ⟨_, rfl⟩
          have t2 : mT τ2 (mZ τ) = (100, 6) := by rw [e2, mT_sI, mT_sI, t1]
          have t3 : mT τ3 (mZ τ) = (100, 6) := by rw [e3, mT_sI, mT_sI, t2]
          have t4 : mT τ4 (mZ τ) = (100, 6) := by rw [e4, mT_sI, mT_sI, t3]
          have m2 : mZ τ2 = mZ τ + 1 := by rw [e2, mZ_sI, mZ_sI, m1]
          have m3 : mZ τ3 = mZ τ + 1 := by rw [e3, mZ_sI, mZ_sI, m2]
          have m4 : mZ τ4 = mZ τ + 1 := by rw [e4, mZ_sI, mZ_sI, m3]
          have S1 := @x_w532 φ T I R nS nL n i j (mZ τ) 0 (I (6 * i + 19) 1) u w τ1 (by rw [m1]; exact h.up (by omega)) iL jL si sj ho t1 (by omega)
          have S2 := @x_w532 φ T I R nS nL n i j (mZ τ) 1 (I (6 * i + 19) 1) u w τ2 (by rw [m2]; exact h.up (by omega)) iL jL si sj ho t2 (by omega)
          have S3 := @x_w532 φ T I R nS nL n i j (mZ τ) 2 (I (6 * i + 19) 1) u w τ3 (by rw [m3]; exact h.up (by omega)) iL jL si sj ho t3 (by omega)
          rw [← e2] at S1
          rw [← e3] at S2
          rw [← e4] at S3
          have C4 : Cx φ T I R (mZ τ4) nS nL n := by rw [m4]; exact h.up (by omega)
          obtain ⟨J', P1, P2, P3, P4, P5, P6, P7, P8⟩ := x_mixF (τ := τ4) C4 iL jL hne hL si sj ai (Int32.not_lt.mp aj) hu2 hw2
          have V : ∀ k, k < 3 → mI τ4 (mZ τ) k = mnX (NV I i k) (NV I j k) ∧ mI τ4 (mZ τ) (k + 3) = mxX (NV I i k) (NV I j k) := by
            intro k hk
            rcases le2 hk with rfl | rfl | rfl <;> simp (config := {decide := true}) only [e4, e3, e2, mI_sI, up2, if_true, if_false, and_self, and_true, true_and, and_false] <;> exact ⟨rfl, rfl⟩
          have G : ∀ k, k < 3 → (mI τ4 (mZ τ) k).toInt ≤ (NV J' nL k).toInt ∧ (NV J' nL k).toInt ≤ (mI τ4 (mZ τ) (k + 3)).toInt := by
            intro k hk
            have nx := NV_b h iL hk
            have ny := NV_b h jL hk
            have F := nt_mm nx ny (u := u) (w := w) (by omega) (by omega)
            rw [(V k hk).1, (V k hk).2, P6 k hk, ntV]
            have a1 := mnX_t (NV I i k) (NV I j k)
            have a2 := mxX_t (NV I i k) (NV I j k)
            omega
          have Q1 := @x_w608 φ T R nS (nL + 1) (n + 1) (mZ τ) 0 (I (6 * i + 19) 1) u w τ4 J' nL P2 (by omega) P3 ho t4 (by omega) (G 0 (by omega)).1 (G 0 (by omega)).2
          have Q2 := @x_w608 φ T R nS (nL + 1) (n + 1) (mZ τ) 1 (I (6 * i + 19) 1) u w τ4 J' nL P2 (by omega) P3 ho t4 (by omega) (G 1 (by omega)).1 (G 1 (by omega)).2
          have Q3 := @x_w608 φ T R nS (nL + 1) (n + 1) (mZ τ) 2 (I (6 * i + 19) 1) u w τ4 J' nL P2 (by omega) P3 ho t4 (by omega) (G 2 (by omega)).1 (G 2 (by omega)).2
          have E1 : f_X4_ofLot (φ 0) (Int32.ofNat nL) 1 (pt φ T J' R τ4) = some (J' (6 * nL + 19) 1, pt φ T J' R τ4) := lo (k := 1) P2 (by omega) (by omega)
          have E2 : f_X4_ofLot (φ 0) (Int32.ofNat i) 1 (pt φ T J' R τ4) = some (J' (6 * i + 19) 1, pt φ T J' R τ4) := lo (k := 1) P2 (by omega) (by omega)
          refine ⟨J', τ4, nL + 1, ?_, P2, P7 8 (by omega), P8⟩
          have S0 : ∀ {β : Type} {K : Nat → β}, K 40 = K (36 + 1 + 1 + 1 + 1) := fun {β K} => rfl
          rw [show (40 : Nat) = 36 + 1 + 1 + 1 + 1 from rfl, l_L_isWorked_532, itr_succ]
          refine (S1).trans ?_
          rw [itr_succ]
          refine (S2).trans ?_
          rw [itr_succ]
          refine (S3).trans ?_
          rw [itr_succ, b_L_isWorked_532, if_pos (show (3 : Int32) ≤ Int32.ofNat (2 + 1) by decide), ob_pt hj q0, P1, cl1_s, l_L_isWorked_608, itr_succ]
          refine (Q1).trans ?_
          rw [itr_succ]
          refine (Q2).trans ?_
          rw [itr_succ]
          refine (Q3).trans ?_
          rw [itr_succ, b_L_isWorked_608, if_pos (show (3 : Int32) ≤ Int32.ofNat (2 + 1) by decide), ob_pt hj q0, E1, cl1_s, nm, P4, if_pos rfl, ob_pt hj q0, E2, cl1_s, nm, P5, if_pos rfl, b_L_isWorked_690, bo1]
    · rw [if_neg sj]; exact W492
end W2
