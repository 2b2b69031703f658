/-! MEANNOTES -/
section MNo
variable {φ : Nat → Nat} {T : Nat → Nat × Nat} {I : Nat → Nat → Int32} {R : Nat → Nat → Option Nat} {τ : Mem} {e0 nS nL cS cL n z : Nat} {mx : Nat → Int32} {cB : Nat → Nat} {bl : Nat → List (Nat × Int32)}
variable {mi a b w q k i j t c : Nat} {J J' : Nat → Nat → Int32} {p r d : Int32} {x y : Nat → Int32} {τ0 τ1 : Mem}
theorem fp_t : FP.Core.b64.tails = 4503599627370496 := by decide
theorem fp_e : FP.Core.b64.exps = 2048 := by decide
theorem fp_qm : FP.Core.b64.qmin = -1074 := by decide
theorem fp_qM : FP.Core.b64.qmax = 971 := by decide
theorem fp_fin (s : Bool) (c : Nat) (q : Int) (hc : c < 9007199254740992) (hq : q ≤ 971) : FP.Core.encode FP.Core.b64 (.fin s c q) % 2 ^ 63 ≤ 9218868437227405312 := by
  have hs : s.toNat = 0 ∨ s.toNat = 1 := by cases s <;> simp
  simp only [FP.Core.encode, FP.Core.assemble, fp_t, fp_e, fp_qm]
  split <;> rcases hs with hs | hs <;> rw [hs] <;> omega
theorem fp_inf (s : Bool) : FP.Core.encode FP.Core.b64 (.inf s) % 2 ^ 63 ≤ 9218868437227405312 := by
  cases s <;> decide
theorem fp_bound (s : Bool) (c : Nat) (q : Int) (hc : c < 9007199254740992) : FP.Core.encode FP.Core.b64 (FP.Core.bound FP.Core.b64 s c q) % 2 ^ 63 ≤ 9218868437227405312 := by
  unfold FP.Core.bound
  rw [fp_qM]
  by_cases h : q ≤ 971
  · rw [if_pos h]; exact fp_fin s c q hc h
  · rw [if_neg h]; exact fp_inf s
theorem fp_rr (s : Bool) (a b : Nat) (e : Int) : FP.Core.encode FP.Core.b64 (FP.Core.roundRatio FP.Core.b64 s a b e) % 2 ^ 63 ≤ 9218868437227405312 := by
  unfold FP.Core.roundRatio
  by_cases h : a = 0
  · rw [if_pos h, fp_qm]; exact fp_fin s 0 _ (by decide) (by decide)
  · rw [if_neg h]
    unfold FP.Core.roundAt
    generalize FP.Core.nearest _ _ = c
    generalize FP.Core.quantum _ _ _ _ = q
    unfold FP.Core.settle
    by_cases h2 : c < 2 ^ FP.Core.b64.p
    · rw [if_pos h2]; exact fp_bound s c q (by have : 2 ^ FP.Core.b64.p = 9007199254740992 := by decide
                                               omega)
    · rw [if_neg h2, fp_t]; exact fp_bound s _ _ (by decide)
theorem fp_mod (n : Nat) : (UInt64.ofNat n).toNat % 2 ^ 63 = n % 2 ^ 63 := by
  rw [UInt64.toNat_ofNat']
  show n % 2 ^ 64 % 2 ^ 63 = _
  omega
/-- no rounded number is no number -/
theorem fp_nn {n : Nat} (h : n % 2 ^ 63 ≤ 9218868437227405312) : FP.Core.decode FP.Core.b64 n ≠ .nan := by
  unfold FP.Core.decode FP.Core.fieldE FP.Core.fieldT
  rw [fp_t, fp_e]
  by_cases h1 : n / 4503599627370496 % 2048 = 2048 - 1
  · rw [if_pos h1]
    by_cases h2 : n % 4503599627370496 = 0
    · rw [if_pos h2]; simp
    · exfalso; omega
  · rw [if_neg h1]; split <;> simp
def fp_ok (d : Nat) : Bool := d == 0 || ((FP.Core.i2d (Int32.ofNat d)).toNat / 4503599627370496 % 2048 != 0 && (FP.Core.i2d (Int32.ofNat d)).toNat / 4503599627370496 % 2048 != 2047)
def fp_all : Nat → Nat → Bool
  | 0, lo => fp_ok lo
  | k + 1, lo => fp_all k lo && fp_all k (lo + 2 ^ k)
theorem fp_all_s : ∀ k lo, fp_all k lo = true → ∀ d, lo ≤ d → d < lo + 2 ^ k → fp_ok d = true := by
  intro k
  induction k with
  | zero => intro lo h d h1 h2; rw [show d = lo by simp at h2; omega]; exact h
  | succ k ih =>
    intro lo h d h1 h2
    rw [fp_all, Bool.and_eq_true] at h
    by_cases c : d < lo + 2 ^ k
    · exact ih lo h.1 d h1 c
    · exact ih _ h.2 d (by omega) (by rw [Nat.pow_succ] at h2; omega)
theorem fp_chk : fp_all 13 0 = true := by decide +kernel
theorem fp_den {d : Int32} (h0 : 0 < d.toInt) (h1 : d.toInt ≤ 5760) : ∃ s c q, FP.Core.decode FP.Core.b64 (FP.Core.i2d d).toNat = .fin s c q ∧ c ≠ 0 := by
  obtain ⟨k, hk⟩ : ∃ k : Nat, k = d.toInt.toNat := ⟨_, rfl⟩
  have e : d = Int32.ofNat k := Int32.toInt_inj.mp (by rw [kN_t (by omega), hk]; omega)
  have A := fp_all_s 13 0 fp_chk k (Nat.zero_le _) (by omega)
  unfold fp_ok at A
  rw [← e] at A
  have k0 : (k == 0) = false := by rw [beq_eq_false_iff_ne]; omega
  rw [k0, Bool.false_or, Bool.and_eq_true, bne_iff_ne, bne_iff_ne] at A
  unfold FP.Core.decode FP.Core.fieldE
  rw [fp_t, fp_e, if_neg A.2, if_neg A.1]
  exact ⟨_, _, _, rfl, by omega⟩
theorem ddv_ok {β : Type} {s d : Int32} (h0 : 0 < d.toInt) (h1 : d.toInt ≤ 5760) {K : UInt64 → Option β} : ddv (FP.i2d s) (FP.i2d d) K = K (FP.ddiv (FP.i2d s) (FP.i2d d)) := by
  obtain ⟨t, c, r, hd, hc⟩ := fp_den h0 h1
  have hs : FP.Core.decode FP.Core.b64 (FP.Core.i2d s).toNat ≠ .nan := by
    refine fp_nn ?_
    show (UInt64.ofNat (FP.Core.encode FP.Core.b64 (FP.Core.roundRatio FP.Core.b64 _ _ 1 0))).toNat % 2 ^ 63 ≤ _
    rw [fp_mod]; exact fp_rr _ _ _ _
  have hq : FP.Core.encode FP.Core.b64 (FP.Core.quotient FP.Core.b64 (FP.Core.decode FP.Core.b64 (FP.Core.i2d s).toNat) (FP.Core.decode FP.Core.b64 (FP.Core.i2d d).toNat)) % 2 ^ 63 ≤ 9218868437227405312 := by
    rw [hd]
    cases hx : FP.Core.decode FP.Core.b64 (FP.Core.i2d s).toNat with
    | nan => exact absurd hx hs
    | inf v => exact fp_inf _
    | fin v m q => simp only [FP.Core.quotient]; rw [if_neg hc]; exact fp_rr _ _ _ _
  unfold ddv
  rw [if_pos]
  rw [UInt64.le_iff_toNat_le, UInt64.toNat_and, show (0x7fffffffffffffff : UInt64).toNat = 2 ^ 63 - 1 from rfl, Nat.and_two_pow_sub_one_eq_mod]
  show (UInt64.ofNat (FP.Core.encode FP.Core.b64 (FP.Core.quotient FP.Core.b64 (FP.Core.decode FP.Core.b64 (FP.Core.i2d s).toNat) (FP.Core.decode FP.Core.b64 (FP.Core.i2d d).toNat)))).toNat % 2 ^ 63 ≤ 0x7ff0000000000000
  rw [fp_mod]; exact hq
/-- what both sum up -/
def mnD (I : Nat → Nat → Int32) (k : Nat) : Int32 := if I (6 * k + 19) 0 = 2 then I (6 * k + 19) 1 else 0
def mnS (I : Nat → Nat → Int32) (k : Nat) : Int32 := if I (6 * k + 19) 0 = 2 then I (6 * k + 19) 1 * (NV I k 0 + NV I k 1 + NV I k 2) else 0
def MNV (I : Nat → Nat → Int32) (nL : Nat) : UInt64 := if sm (mnD I) nL = 0 then 0 else FP.ddiv (FP.i2d (sm (mnS I) nL)) (FP.i2d (sm (mnD I) nL))
theorem mnD_b (h : Cx φ T I R z e0 nS nL cS cL mx cB bl n) : ∀ k, k ≤ nL → 0 ≤ (sm (mnD I) k).toInt ∧ (sm (mnD I) k).toInt ≤ sumZ (fun k => (I (6 * k + 19) 1).toInt) k := by
  have hN := h.m.2.2.2.2.1
  have z0 : (0 : Int32).toInt = 0 := rfl
  have tot : sumZ (fun k => (I (6 * k + 19) 1).toInt) nL ≤ 360 * nL := by
    obtain ⟨hj, hl, hx, hm, hr⟩ := h; obtain ⟨hx0, hx1, hx2, hx3, hx4, hx5, hx6, hx7, hx8, hx9, hx10, hx11, hx12, hx13, hx14, hx15, hx16, hx17, hx18, hx19, hx20, hx21, hx22, hx23, hx24, hx25, hx26, hx27⟩ := hx; obtain ⟨hm0, hm1, hm2, hm3, hm4, hm5, hm6, hm7, hm8, hm9, hm10, hm11, hm12, hm13, hm14, hm15, hm16, hm17, hm18, hm19, hm20, hm21, hm22, hm23, hm24, hm25, hm26, hm27, hm28, hm29, hm30, hm31, hm32, hm33, hm34, hm35, hm36, hm37, hm38, hm39, hm40, hm41, hm42, hm43, hm44⟩ := hm; obtain ⟨⟨⟨g1, g2⟩, ⟨g3, g4, g5, g6, g7⟩, g8, g9, g10⟩, r1, r2, r3, r4, r5, r6⟩ := hr
    exact r6
  have nn : ∀ k, k < nL → 0 ≤ (I (6 * k + 19) 1).toInt := fun k hk => (h.dn hk).1
  have mono : ∀ d k, k + d = nL → sumZ (fun k => (I (6 * k + 19) 1).toInt) k ≤ sumZ (fun k => (I (6 * k + 19) 1).toInt) nL := by
    intro d
    induction d with
    | zero => intro k hk; rw [show k = nL by omega]; exact Int.le_refl _
    | succ d ih =>
      intro k hk
      have h1 := ih (k + 1) (by omega)
      have h2 := nn k (by omega)
      have h3 : sumZ (fun k => (I (6 * k + 19) 1).toInt) (k + 1) = sumZ (fun k => (I (6 * k + 19) 1).toInt) k + (I (6 * k + 19) 1).toInt := rfl
      omega
  intro k
  induction k with
  | zero => intro _; exact ⟨by show 0 ≤ (0 : Int32).toInt; decide, by show (0 : Int32).toInt ≤ 0; decide⟩
  | succ k ih =>
    intro hk
    have h1 := ih (by omega)
    have h2 := nn k (by omega)
    have h4 := (h.dn (show k < nL by omega)).2
    have h5 := mono (nL - k) k (by omega)
    have h3 : sumZ (fun k => (I (6 * k + 19) 1).toInt) (k + 1) = sumZ (fun k => (I (6 * k + 19) 1).toInt) k + (I (6 * k + 19) 1).toInt := rfl
    have h6 : (mnD I k).toInt = 0 ∨ (mnD I k).toInt = (I (6 * k + 19) 1).toInt := by
      unfold mnD; split
      · exact Or.inr rfl
      · exact Or.inl rfl
    show 0 ≤ (sm (mnD I) k + mnD I k).toInt ∧ (sm (mnD I) k + mnD I k).toInt ≤ _
    rw [tAdd (by omega) (by omega)]
    omega
theorem mn_pos (h : Cx φ T I R z e0 nS nL cS cL mx cB bl n) : (sm (mnD I) nL ≤ 0) ↔ sm (mnD I) nL = 0 := by
  have h1 := (mnD_b h nL (Nat.le_refl _)).1
  have z0 : (0 : Int32).toInt = 0 := rfl
  refine ⟨fun y => Int32.toInt_inj.mp (by have := leT y; omega), fun y => by rw [y]; exact Int32.le_refl _⟩
theorem mn_rng (h : Cx φ T I R z e0 nS nL cS cL mx cB bl n) (hc : sm (mnD I) nL ≠ 0) : 0 < (sm (mnD I) nL).toInt ∧ (sm (mnD I) nL).toInt ≤ 5760 := by
  have h1 := mnD_b h nL (Nat.le_refl _)
  have hN := h.m.2.2.2.2.1
  have z0 : (0 : Int32).toInt = 0 := rfl
  have tot : sumZ (fun k => (I (6 * k + 19) 1).toInt) nL ≤ 360 * nL := by
    obtain ⟨hj, hl, hx, hm, hr⟩ := h; obtain ⟨hx0, hx1, hx2, hx3, hx4, hx5, hx6, hx7, hx8, hx9, hx10, hx11, hx12, hx13, hx14, hx15, hx16, hx17, hx18, hx19, hx20, hx21, hx22, hx23, hx24, hx25, hx26, hx27⟩ := hx; obtain ⟨hm0, hm1, hm2, hm3, hm4, hm5, hm6, hm7, hm8, hm9, hm10, hm11, hm12, hm13, hm14, hm15, hm16, hm17, hm18, hm19, hm20, hm21, hm22, hm23, hm24, hm25, hm26, hm27, hm28, hm29, hm30, hm31, hm32, hm33, hm34, hm35, hm36, hm37, hm38, hm39, hm40, hm41, hm42, hm43, hm44⟩ := hm; obtain ⟨⟨⟨g1, g2⟩, ⟨g3, g4, g5, g6, g7⟩, g8, g9, g10⟩, r1, r2, r3, r4, r5, r6⟩ := hr
    exact r6
  have : (sm (mnD I) nL).toInt ≠ 0 := fun y => hc (Int32.toInt_inj.mp (by rw [y]; rfl))
  omega
theorem x_meanNotes (h : Cx φ T I R (mZ τ) e0 nS nL cS cL mx cB bl n) : f_X4_meanNotes (φ 0) (pt φ T I R τ) = some (MNV I nL, pt φ T I R τ) := by
  have hj := h.hj
  have hN := h.m.2.2.2.2.1
  obtain ⟨t0, r3, t2, m4, rl, rw', -⟩ := h.lots
  have q0 : (T 0).1 = 6 + 1 := by rw [t0]
  have L := itr_loop (fun n (s' : Int32 × Int32 × Int32) => l_X4_meanNotes_6 n (φ 0) s'.1 s'.2.1 s'.2.2 (pt φ T I R τ)) (fun k s' => s' = (sm (mnD I) k, sm (mnS I) k, Int32.ofNat k)) nL (by
    rintro n k s' hk rfl
    refine ⟨(sm (mnD I) (k + 1), sm (mnS I) (k + 1), Int32.ofNat (k + 1)), rfl, ?_⟩
    have c1 : ¬ Int32.ofNat nL ≤ Int32.ofNat k := by rw [kN_le (by omega) (by omega)]; omega
    obtain ⟨-, -, ta⟩ := rw' k (by omega)
    have qa : (T (6 * k + 19)).1 = 3 + 1 := by rw [ta]
    have GL : ∀ {K : Option Nat → Option (UInt64 × Mem)}, aR 2 (pt φ T I R τ) (some (φ 2)) (Int32.ofNat k) K = K (some (φ (6 * k + 19))) := by
      intro K
      rw [aR_pt hj (by rw [t2]) (kN_nn (by omega)) (by rw [t2, tnK (by omega)]; show k < 16; omega), tnK (by omega), rl k (by omega)]
    have S : f_X1_sumOfNotes (φ (6 * k + 19)) (pt φ T I R τ) = some (NV I k 0 + NV I k 1 + NV I k 2, pt φ T I R τ) := by
      refine x_sum (w := 6 * k + 21) hj ta (fun _ => ?_)
      obtain ⟨hj, hl, hx, hm, hr⟩ := h; obtain ⟨hx0, hx1, hx2, hx3, hx4, hx5, hx6, hx7, hx8, hx9, hx10, hx11, hx12, hx13, hx14, hx15, hx16, hx17, hx18, hx19, hx20, hx21, hx22, hx23, hx24, hx25, hx26, hx27⟩ := hx; obtain ⟨hm0, hm1, hm2, hm3, hm4, hm5, hm6, hm7, hm8, hm9, hm10, hm11, hm12, hm13, hm14, hm15, hm16, hm17, hm18, hm19, hm20, hm21, hm22, hm23, hm24, hm25, hm26, hm27, hm28, hm29, hm30, hm31, hm32, hm33, hm34, hm35, hm36, hm37, hm38, hm39, hm40, hm41, hm42, hm43, hm44⟩ := hm; obtain ⟨⟨⟨g1, g2⟩, ⟨g3, g4, g5, g6, g7⟩, g8, g9, g10⟩, r1, r2, r3, r4, r5, r6⟩ := hr
      exact ⟨hx17 k (by omega), hx20 k (by omega)⟩
    show l_X4_meanNotes_6 (n + 1) (φ 0) (sm (mnD I) k) (sm (mnS I) k) (Int32.ofNat k) _ = l_X4_meanNotes_6 n (φ 0) (sm (mnD I) k + mnD I k) (sm (mnS I) k + mnS I k) (Int32.ofNat (k + 1)) _
    rw [l_X4_meanNotes_6, itr_succ, b_X4_meanNotes_6, gI_pt hj q0, m4, if_neg c1, gR_pt hj q0, r3, GL, gI_pt hj qa, mnD, mnS]
    by_cases c2 : I (6 * k + 19) 0 = 2
    · rw [if_pos c2, if_pos c2, if_pos c2, gR_pt hj q0, r3, GL, gI_pt hj qa, nm, gR_pt hj q0, r3, GL, gI_pt hj qa, gR_pt hj q0, r3, GL, ob_pt hj qa, S, cl1_s, nm, nm, b_X4_meanNotes_61, nm, kN_s]; rfl
    · rw [if_neg c2, if_neg c2, if_neg c2, b_X4_meanNotes_61, nm, kN_s, Int32.add_zero, Int32.add_zero]; rfl)
  obtain ⟨s', rfl, h5⟩ := L nL 0 40 (0, 0, 0) (by omega) (by omega) rfl
  obtain ⟨m, hm⟩ : ∃ m, 40 - nL = m + 1 := ⟨39 - nL, by omega⟩
  simp only [hm] at h5
  have c1 : Int32.ofNat nL ≤ Int32.ofNat nL := Int32.le_refl _
  rw [f_X4_meanNotes, b_X4_meanNotes_0, h5, l_X4_meanNotes_6, itr_succ, b_X4_meanNotes_6, gI_pt hj q0, m4, if_pos c1, MNV]
  by_cases c2 : sm (mnD I) nL = 0
  · rw [if_pos ((mn_pos h).mpr c2), if_pos c2, b_X4_meanNotes_80]
  · rw [if_neg (fun y => c2 ((mn_pos h).mp y)), if_neg c2, nm, nm, ddv_ok (mn_rng h c2).1 (mn_rng h c2).2, b_X4_meanNotes_80]
theorem m_meanL (h : Cx φ T I R (mZ τ) e0 nS nL cS cL mx cB bl n) (hJ : ∀ v, 125 ≤ v → J v = I v) (h1 : Itr τ0 a (φ 126) (I 126 0) 0) (ha : mZ τ ≤ a) : ∃ τ', l_X8_meanNotes_17 e0 mi 40 0 0 (some a) (pt φ T J R τ0) = some (MNV I nL, pt φ T J R τ') ∧ Kp a τ0 τ' := by
  have hj := h.hj
  have ho := h.offZ ha
  have hN := h.m.2.2.2.2.1
  have L := itr_loop (fun n (s' : (Int32 × Int32) × Mem) => l_X8_meanNotes_17 e0 mi n s'.1.1 s'.1.2 (some a) s'.2) (fun k s' => s'.1 = (sm (mnS I) k, sm (mnD I) k) ∧ ∃ τ1, s'.2 = pt φ T J R τ1 ∧ Itr τ1 a (φ 126) (I 126 0) k ∧ Kp a τ0 τ1) nL (by
    rintro n k ⟨acc, σ⟩ hk ⟨hacc, τ1, hσ, hi, hK⟩
    simp only at hacc hσ
    subst hacc hσ
    obtain ⟨e1, e2⟩ := m_itL (mi := mi) h (hJ 126 (by omega)) ha hi hk
    refine ⟨((sm (mnS I) (k + 1), sm (mnD I) (k + 1)), pt φ T J R (itS τ1 a k)), ⟨rfl, _, rfl, itS_I hi, hK.trans (itS_K (Nat.le_refl _))⟩, ?_⟩
    have i1 := hi.1
    have qa : (mT τ1 a).1 = 0 + 1 := by rw [i1]
    have t8 := h.t8 hk
    have q8 : (T (10 * k + 150)).1 = 7 + 1 := by rw [t8]
    have E0 := (h.lr hk).1.1
    have J0 : J (10 * k + 150) 0 = I (6 * k + 19) 0 := by rw [hJ _ (by omega), ← E0]
    show l_X8_meanNotes_17 e0 mi (n + 1) (sm (mnS I) k) (sm (mnD I) k) (some a) _ = l_X8_meanNotes_17 e0 mi n (sm (mnS I) k + mnS I k) (sm (mnD I) k + mnD I k) (some a) _
    rw [l_X8_meanNotes_17, itr_succ, b_X8_meanNotes_17, ob_off ho qa, e1, cl1_s, if_neg (by decide), ob_off ho qa, e2, cl1_s, ck_pt hj (by rw [t8]) (by decide), gI_pt hj q8, J0, mnD, mnS]
    by_cases c2 : I (6 * k + 19) 0 = 2
    · have ns : I (6 * k + 19) 0 ≠ 3 := by rw [c2]; decide
      have SS := m_sum3 (J := J) (R := R) (τ := itS τ1 a k) hj t8 (NV I k) (fun q hq => m_noteJ h hk (hJ _ (by omega)) (hJ _ (by omega)) (hJ _ (by omega)) ns hq)
      have DD := m_dryJ (J := J) (τ := itS τ1 a k) h hk (hJ _ (by omega))
      rw [if_pos c2, if_pos c2, if_pos c2, ob_pt hj q8, SS, cl1_s, ob_pt hj q8, DD, cl1_s, nm, nm, ob_pt hj q8, DD, cl1_s, nm, Int32.mul_comm]; rfl
    · rw [if_neg c2, if_neg c2, if_neg c2, Int32.add_zero, Int32.add_zero]; rfl)
  obtain ⟨⟨acc, σ⟩, ⟨hacc, τ1, hσ, hi, hK⟩, h5⟩ := L nL 0 40 ((0, 0), pt φ T J R τ0) (by omega) (by omega) ⟨rfl, τ0, rfl, h1, Kp.refl⟩
  simp only at hacc hσ
  subst hacc hσ
  refine ⟨τ1, ?_, hK⟩
  have e1 := m_itL0 h (hJ 126 (by omega)) ha hi
  have qa : (mT τ1 a).1 = 0 + 1 := by rw [hi.1]
  obtain ⟨m, hm⟩ : ∃ m, 40 - nL = m + 1 := ⟨39 - nL, by omega⟩
  simp only [hm] at h5
  rw [h5, l_X8_meanNotes_17, itr_succ, b_X8_meanNotes_17, ob_off ho qa, e1, cl1_s, if_pos rfl, MNV]
  by_cases c2 : sm (mnD I) nL = 0
  · rw [if_pos c2, if_pos c2, b_X8_meanNotes_87]
  · rw [if_neg c2, if_neg c2, nm, nm, ddv_ok (mn_rng h c2).1 (mn_rng h c2).2, b_X8_meanNotes_87]
theorem m_meanNotes (h : Cx φ T I R (mZ τ) e0 nS nL cS cL mx cB bl n) : ∃ τ', f_X8_meanNotes e0 mi (φ 124) (pt φ T I R τ) = some (MNV I nL, pt φ T (up2 I 124 0 0) R τ') ∧ Kp (mZ τ) τ τ' := by
  have hj := h.hj
  have ho := h.offZ (a := mZ τ) (Nat.le_refl _)
  have h0 := h.m.1
  have h6 := h.m.2.2.1
  have h7 := h.m.2.2.2.1
  have J6 : up2 I 124 0 0 126 = I 126 := up2_row (by omega)
  obtain ⟨τ', e1, e2⟩ := m_meanL (mi := mi) (J := up2 I 124 0 0) h (fun v hv => up2_row (by omega)) (itN_I τ (φ 126) (I 126 0)) (Nat.le_refl _)
  refine ⟨τ', ?_, (itN_K (Nat.le_refl _)).trans e2⟩
  have M := m_iter (I := up2 I 124 0 0) (R := R) hj ho h6
  rw [J6] at M
  rw [f_X8_meanNotes, b_X8_meanNotes_0, pI_pt hj (by rw [h0]), gR_pt hj (by rw [h0]), h7, ob_pt hj (by rw [h6]), M, cl1_s]
  exact e1
theorem Jn.mean {x m o : Nat} {σ : Mem} (h : Jn e0 x m o n σ) : ∃ v σ', f_X4_meanNotes x σ = some (v, σ) ∧ f_X8_meanNotes e0 mi m σ = some (v, σ') ∧ Jn e0 x m o (n + 1) σ' := by
  obtain ⟨φ, T, I, R, τ, nS, nL, cS, cL, mx, cB, bl, rfl, ⟨rfl, rfl, rfl⟩, h⟩ := h
  have h : Cx φ T I R (mZ τ) e0 nS nL cS cL mx cB bl n := h
  obtain ⟨τ', e1, e2⟩ := m_meanNotes (mi := mi) h
  exact ⟨MNV I nL, _, x_meanNotes h, e1, Cx.jn (Cx.up h.thr e2.1)⟩
end MNo
