/-! ALL IS SOUND -/
section SN
variable {φ : Nat → Nat} {T : Nat → Nat × Nat} {I J : Nat → Nat → Int32} {R : Nat → Nat → Option Nat} {τ : Mem} {nS nL n z : Nat}
variable {i k a : Nat} {acc t s p : Int32} {P : Int} {τ1 : Mem}
theorem vU {j : Nat} (hj : j < 4) : vLI I k (j + 14) = I (6 * k + 20) j := by
  rcases lt4 hj with rfl | rfl | rfl | rfl <;> rfl
theorem x_s43s (h : Cx φ T I R (mZ τ1) nS nL n) (kL : k < nL) {j : Nat} (hj4 : j < 4)
    {k10 : (Option Nat) → Int32 → Int32 → (Option Nat) → Int32 → Int32 → Mem → Option ((Int32) × Mem)} {k43 : (Option Nat) → Int32 → Int32 → (Option Nat) → Int32 → Int32 → Int32 → Int32 → Int32 → Mem → Option ((Int32) × Mem)} :
    b_L_isSound_43 k10 k43 (some (φ 0)) (Int32.ofNat nS) p (some a) acc (Int32.ofNat k) s t (Int32.ofNat j) (pt φ T I R τ1) = k43 (some (φ 0)) (Int32.ofNat nS) p (some a) acc (Int32.ofNat k) s (t + I (6 * k + 20) j) (Int32.ofNat (j + 1)) (pt φ T I R τ1) := by
  have hj := h.hj
  have hS := h.m.2.2.2.2.2.1
  have q0 := q0_of h
  have c1 : ¬ (4 : Int32) ≤ Int32.ofNat j := by rw [show (4 : Int32) = Int32.ofNat 4 from rfl, kN_le (by omega) (by omega)]; omega
  have e3 : 14 + Int32.ofNat j = Int32.ofNat (j + 14) := by rw [Int32.add_comm]; exact (Int32.ofNat_add j 14).symm
  have L := lo (τ := τ1) (k := j + 14) h kL (by omega)
  rw [vU hj4] at L
  rw [b_L_isSound_43, if_neg c1, nm, e3, ob_pt hj q0, L, cl1_s, nm]
  by_cases c2 : j < nS
  · rw [if_pos ((kN_lt (by omega) (by omega)).mpr c2), b_L_isSound_87, nm, kN_s]
  · obtain ⟨-, -, ⟨-, -, u3⟩, -⟩ := h.lr kL
    have u0 := u3 j (by omega) hj4
    rw [if_neg (fun y => c2 ((kN_lt (by omega) (by omega)).mp y)), nm, ob_pt hj q0, L, cl1_s, if_pos (by rw [u0]; decide), b_L_isSound_87, nm, kN_s]
theorem x_s43 (h : Cx φ T I R (mZ τ1) nS nL n) (kL : k < nL)
    {k10 : (Option Nat) → Int32 → Int32 → (Option Nat) → Int32 → Int32 → Mem → Option ((Int32) × Mem)} :
    l_L_isSound_43 k10 40 (some (φ 0)) (Int32.ofNat nS) p (some a) acc (Int32.ofNat k) (I (6 * k + 19) 0) 0 0 (pt φ T I R τ1) = k10 (some (φ 0)) (Int32.ofNat nS) p (some a) (acc + I (6 * k + 19) 1) (Int32.ofNat (k + 1)) (pt φ T I R τ1) := by
  have hj := h.hj
  have q0 := q0_of h
  have z0 : (0 : Int32).toInt = 0 := rfl
  obtain ⟨s4, -, ⟨u1, u2, -⟩, ⟨d1, d2⟩, ⟨f1, f2⟩, -, ⟨-, -, ⟨-, r60⟩, -⟩, -, -, ⟨-, -, a2⟩, -⟩ := h.lr kL
  have dd := (h.dry kL).2
  have L1 : f_X4_ofLot (φ 0) (Int32.ofNat k) 1 (pt φ T I R τ1) = some (I (6 * k + 19) 1, pt φ T I R τ1) := lo (k := 1) h kL (by omega)
  have L2 : f_X4_ofLot (φ 0) (Int32.ofNat k) 2 (pt φ T I R τ1) = some (I (6 * k + 19) 2, pt φ T I R τ1) := lo (k := 2) h kL (by omega)
  have L13 : f_X4_ofLot (φ 0) (Int32.ofNat k) 13 (pt φ T I R τ1) = some (I (6 * k + 22) 0, pt φ T I R τ1) := lo (k := 13) h kL (by omega)
  have L6 : f_X4_ofLot (φ 0) (Int32.ofNat k) 6 (pt φ T I R τ1) = some (I (6 * k + 19) 6, pt φ T I R τ1) := lo (k := 6) h kL (by omega)
  have w0 := u1 0 (by omega); have w1 := u1 1 (by omega); have w2 := u1 2 (by omega); have w3 := u1 3 (by omega)
  have e : 0 + I (6 * k + 20) 0 + I (6 * k + 20) 1 + I (6 * k + 20) 2 + I (6 * k + 20) 3 = I (6 * k + 19) 1 := by
    have e0 : (0 + I (6 * k + 20) 0) = I (6 * k + 20) 0 := Int32.zero_add _
    have e1 : (I (6 * k + 20) 0 + I (6 * k + 20) 1).toInt = (I (6 * k + 20) 0).toInt + (I (6 * k + 20) 1).toInt := tAdd (by omega) (by omega)
    have e2 : (I (6 * k + 20) 0 + I (6 * k + 20) 1 + I (6 * k + 20) 2).toInt = (I (6 * k + 20) 0).toInt + (I (6 * k + 20) 1).toInt + (I (6 * k + 20) 2).toInt := by rw [tAdd (by omega) (by omega), e1]
    rw [e0]
    exact Int32.toInt_inj.mp (by rw [tAdd (by omega) (by omega), e2]; omega)
  have S : ∀ {j t : _} (hj4 : j < 4) {k43 : (Option Nat) → Int32 → Int32 → (Option Nat) → Int32 → Int32 → Int32 → Int32 → Int32 → Mem → Option ((Int32) × Mem)}, _ := fun {j t} hj4 {k43} => @x_s43s φ T I R nS nL n k a acc t (I (6 * k + 19) 0) p τ1 h kL j hj4 k10 k43
  have E171 : b_L_isSound_171 k10 (some (φ 0)) (Int32.ofNat nS) p (some a) (acc + I (6 * k + 19) 1) (Int32.ofNat k) (pt φ T I R τ1) = k10 (some (φ 0)) (Int32.ofNat nS) p (some a) (acc + I (6 * k + 19) 1) (Int32.ofNat (k + 1)) (pt φ T I R τ1) := by
    have z60 : (60 : Int32).toInt = 60 := rfl
    rw [b_L_isSound_171, ob_pt hj q0, L6, cl1_s, if_pos (Int32.le_iff_toInt_le.mpr (by omega)), nm, kN_s]
  have E154 : b_L_isSound_154 k10 (some (φ 0)) (Int32.ofNat nS) p (some a) (acc + I (6 * k + 19) 1) (Int32.ofNat k) (I (6 * k + 19) 0) (pt φ T I R τ1) = k10 (some (φ 0)) (Int32.ofNat nS) p (some a) (acc + I (6 * k + 19) 1) (Int32.ofNat (k + 1)) (pt φ T I R τ1) := by
    rw [b_L_isSound_154]
    by_cases c : I (6 * k + 19) 0 = 2
    · rw [if_pos c]; exact E171
    · have a0 : I (6 * k + 22) 0 = 0 := Decidable.byContradiction (fun y => c (a2 y))
      rw [if_neg c, ob_pt hj q0, L13, cl1_s, a0, if_neg (by decide)]; exact E171
  have E133 : ∀ y, b_L_isSound_133 k10 (some (φ 0)) (Int32.ofNat nS) p (some a) (acc + I (6 * k + 19) 1) (Int32.ofNat k) (I (6 * k + 19) 0) (I (6 * k + 19) 1) y y (pt φ T I R τ1) = k10 (some (φ 0)) (Int32.ofNat nS) p (some a) (acc + I (6 * k + 19) 1) (Int32.ofNat (k + 1)) (pt φ T I R τ1) := by
    intro y
    rw [b_L_isSound_133, if_pos rfl]
    by_cases c : 3 ≤ I (6 * k + 19) 0
    · rw [if_pos c]; exact E154
    · have n3 : I (6 * k + 19) 0 ≠ 3 := fun q => c (by rw [q]; decide)
      have := f2 n3
      rw [if_neg c, ob_pt hj q0, L2, cl1_s, if_neg (fun q => by have := ltT q; omega)]; exact E154
  rw [show (40 : Nat) = 35 + 1 + 1 + 1 + 1 + 1 from rfl, l_L_isSound_43, itr_succ]
  refine (S (j := 0) (by omega)).trans ?_
  rw [itr_succ]
  refine (S (j := 1) (by omega)).trans ?_
  rw [itr_succ]
  refine (S (j := 2) (by omega)).trans ?_
  rw [itr_succ]
  refine (S (j := 3) (by omega)).trans ?_
  rw [itr_succ, b_L_isSound_43, if_pos (show (4 : Int32) ≤ Int32.ofNat (3 + 1) by decide), nm, ob_pt hj q0, L1, cl1_s, e, if_pos rfl]
  by_cases c3 : I (6 * k + 19) 0 = 3
  · have d0 := d1 c3
    rw [if_pos d0, b_L_isSound_122, if_pos c3]; exact E133 1
  · have d0 : ¬ I (6 * k + 19) 1 = 0 := fun y => by have := d2 c3; rw [y] at this; omega
    rw [if_neg d0, b_L_isSound_122, if_neg c3]; exact E133 0
theorem x_s198 (h : Cx φ T I R (mZ τ1) nS nL n) (hn : n < 600) (hM : Mon I P n) (hp : p.toInt = P) (ho : Off φ T a) (ta : mT τ1 a = (100, 4))
    (hc : ∀ s, s < 4 → mI τ1 a s = sm (ctV I (Int32.ofNat s)) nL) : l_L_isSound_198 40 (some (φ 0)) p (some a) (sm (dyV I) nL) 0 0 (pt φ T I R τ1) = some (1, pt φ T I R τ1) := by
  have hj := h.hj
  have hN := h.m.2.2.2.2.1
  have q0 := q0_of h
  have z0 : (0 : Int32).toInt = 0 := rfl
  have K1 : f_X4_many (φ 0) (11 + 0) (pt φ T I R τ1) = some (I 10 0, pt φ T I R τ1) := x_many (k := 11) h (by omega)
  have K2 : f_X4_many (φ 0) (11 + 1) (pt φ T I R τ1) = some (I 10 1, pt φ T I R τ1) := x_many (k := 12) h (by omega)
  have K3 : f_X4_many (φ 0) (11 + 2) (pt φ T I R τ1) = some (I 10 2, pt φ T I R τ1) := x_many (k := 13) h (by omega)
  have K4 : f_X4_many (φ 0) (11 + 3) (pt φ T I R τ1) = some (I 10 3, pt φ T I R τ1) := x_many (k := 14) h (by omega)
  have M3 : f_X4_many (φ 0) 3 (pt φ T I R τ1) = some (sm (ctV I 0) nL, pt φ T I R τ1) := x_many (k := 3) h (by omega)
  have M4 : f_X4_many (φ 0) 4 (pt φ T I R τ1) = some (sm (ctV I 1) nL, pt φ T I R τ1) := x_many (k := 4) h (by omega)
  have M5 : f_X4_many (φ 0) 5 (pt φ T I R τ1) = some (sm (ctV I 2) nL, pt φ T I R τ1) := x_many (k := 5) h (by omega)
  have M6 : f_X4_many (φ 0) 6 (pt φ T I R τ1) = some (I 0 8, pt φ T I R τ1) := x_many (k := 6) h (by omega)
  have M8 : f_X4_many (φ 0) 8 (pt φ T I R τ1) = some (sm (dyV I) nL, pt φ T I R τ1) := x_many (k := 8) h (by omega)
  have M9 : f_X4_many (φ 0) 9 (pt φ T I R τ1) = some (I 0 11, pt φ T I R τ1) := x_many (k := 9) h (by omega)
  have M10 : f_X4_many (φ 0) 10 (pt φ T I R τ1) = some (I 0 10, pt φ T I R τ1) := x_many (k := 10) h (by omega)
  have a0 : mI τ1 a 0 = sm (ctV I 0) nL := hc 0 (by omega)
  have a1 : mI τ1 a 1 = sm (ctV I 1) nL := hc 1 (by omega)
  have a2 : mI τ1 a 2 = sm (ctV I 2) nL := hc 2 (by omega)
  have A : ∀ {β : Type} {K : Int32 → Option β} {x : Int32} (h1 : ¬ x < 0) (h2 : x.toNatClampNeg < 4), aI (pt φ T I R τ1) (some a) x K = K (mI τ1 a x.toNatClampNeg) := fun {β K x} h1 h2 => aI_off ho (by rw [ta]) h1 (by rw [ta]; exact h2)
  have sd : ∀ k, k ≤ nL → (sm (dyV I) k).toInt = dryS I k ∧ 0 ≤ dryS I k ∧ dryS I k ≤ 5760 * k := by
    intro k
    induction k with
    | zero => intro _; exact ⟨rfl, Int.le_refl _, Int.le_refl _⟩
    | succ k ih =>
      intro hk
      obtain ⟨i1, i2, i3⟩ := ih (by omega)
      have d := h.dry (show k < nL by omega)
      have e1 : dryS I (k + 1) = dryS I k + (I (6 * k + 19) 1).toInt := rfl
      refine ⟨?_, by omega, by omega⟩
      show (sm (dyV I) k + I (6 * k + 19) 1).toInt = _
      rw [tAdd (by omega) (by omega), i1, e1]
  obtain ⟨s1, s2, s3⟩ := sd nL (Nat.le_refl _)
  obtain ⟨r1, r2, r3⟩ := h.2.2.2.2.2.2.2.2.2.2.2
  have eS : I 0 11 = sm (dyV I) nL + I 0 10 := Int32.toInt_inj.mp (by rw [tAdd (by omega) (by omega), s1]; exact r1)
  obtain ⟨m1, m2, m3, m4⟩ := hM
  have w0 := m1 0 (by omega); have w1 := m1 1 (by omega); have w2 := m1 2 (by omega); have w3 := m1 3 (by omega)
  have e : I 0 8 + (0 + I 10 0 + I 10 1 + I 10 2 + I 10 3) = p := by
    have e0 : (0 + I 10 0) = I 10 0 := Int32.zero_add _
    have e1 : (I 10 0 + I 10 1).toInt = (I 10 0).toInt + (I 10 1).toInt := tAdd (by omega) (by omega)
    have e2 : (I 10 0 + I 10 1 + I 10 2).toInt = (I 10 0).toInt + (I 10 1).toInt + (I 10 2).toInt := by rw [tAdd (by omega) (by omega), e1]
    have e3 : (I 10 0 + I 10 1 + I 10 2 + I 10 3).toInt = (I 10 0).toInt + (I 10 1).toInt + (I 10 2).toInt + (I 10 3).toInt := by rw [tAdd (by omega) (by omega), e2]
    rw [e0]
    exact Int32.toInt_inj.mp (by rw [tAdd (by omega) (by omega), e3, hp]; omega)
  rw [show (40 : Nat) = 35 + 1 + 1 + 1 + 1 + 1 from rfl, l_L_isSound_198,
    itr_succ, b_L_isSound_198, if_neg (by decide), nm, ob_pt hj q0, K1, cl1_s, nm, nm, ii0,
    itr_succ, b_L_isSound_198, if_neg (by decide), nm, ob_pt hj q0, K2, cl1_s, nm, nm, ii1,
    itr_succ, b_L_isSound_198, if_neg (by decide), nm, ob_pt hj q0, K3, cl1_s, nm, nm, ii2,
    itr_succ, b_L_isSound_198, if_neg (by decide), nm, ob_pt hj q0, K4, cl1_s, nm, nm, ii3,
    itr_succ, b_L_isSound_198, if_pos (by decide), A (x := 0) (by decide) (by decide), tn0, ob_pt hj q0, M3, cl1_s, if_pos a0, A (x := 1) (by decide) (by decide), tn1, ob_pt hj q0, M4, cl1_s, if_pos a1, A (x := 2) (by decide) (by decide), tn2, ob_pt hj q0, M5, cl1_s, if_pos a2,
    ob_pt hj q0, M8, cl1_s, if_pos rfl, ob_pt hj q0, M9, cl1_s, ob_pt hj q0, M10, cl1_s, nm, if_pos eS, ob_pt hj q0, M6, cl1_s, nm, if_pos e, b_L_isSound_304, bo1]
theorem x_sound (h : Cx φ T I R (mZ τ) nS nL n) (hn : n < 600) (hM : Mon I P n) (hp : p.toInt = P) : ∃ τ', f_L_isSound (some (φ 0)) (Int32.ofNat nS) p (pt φ T I R τ) = some (1, pt φ T I R τ') ∧ mZ τ ≤ mZ τ' := by
  have hj := h.hj
  have hN := h.m.2.2.2.2.1
  have q0 := q0_of h
  have ho : Off φ T (mZ τ) := Off.of h.hl (Nat.le_refl _)
  have g2 : I 0 4 = Int32.ofNat nL := h.2.2.2.2.1.2
  have M2 : ∀ τ1, mZ τ1 = mZ τ + 1 → f_X4_many (φ 0) 2 (pt φ T I R τ1) = some (Int32.ofNat nL, pt φ T I R τ1) := fun τ1 e => by rw [← g2]; exact x_many (k := 2) (show Cx φ T I R (mZ τ1) nS nL n by rw [e]; exact h.up (by omega)) (by omega)
  have L := itr_loop (fun fl (s' : Mem × Int32 × Int32) => l_L_isSound_10 fl (some (φ 0)) (Int32.ofNat nS) p (some (mZ τ)) s'.2.1 s'.2.2 (pt φ T I R s'.1)) (fun k s' => s'.2 = (sm (dyV I) k, Int32.ofNat k) ∧ mT s'.1 (mZ τ) = (100, 4) ∧ mZ s'.1 = mZ τ + 1 ∧ ∀ s, s < 4 → mI s'.1 (mZ τ) s = sm (ctV I (Int32.ofNat s)) k) nL (by
    rintro fl k ⟨τ1, acc, x⟩ hk ⟨hs, t1, m1, hc⟩
    simp only at hs t1 m1 hc
    cases hs
    have C1 : Cx φ T I R (mZ τ1) nS nL n := by rw [m1]; exact h.up (by omega)
    obtain ⟨s4, -⟩ := h.lr hk
    obtain ⟨s, hs4, es⟩ : ∃ s : Nat, s < 4 ∧ I (6 * k + 19) 0 = Int32.ofNat s := by
      rcases s4 with e | e | e | e
      · exact ⟨0, by omega, e⟩
      · exact ⟨1, by omega, e⟩
      · exact ⟨2, by omega, e⟩
      · exact ⟨3, by omega, e⟩
    have L0 : f_X4_ofLot (φ 0) (Int32.ofNat k) 0 (pt φ T I R τ1) = some (I (6 * k + 19) 0, pt φ T I R τ1) := lo (k := 0) C1 hk (by omega)
    have ts : (Int32.ofNat s).toNatClampNeg = s := tnK (by omega)
    have c1 : ¬ Int32.ofNat nL ≤ Int32.ofNat k := by rw [kN_le (by omega) (by omega)]; omega
    refine ⟨(sI τ1 (mZ τ) s (sm (ctV I (Int32.ofNat s)) k + 1), sm (dyV I) (k + 1), Int32.ofNat (k + 1)), ⟨rfl, by rw [mT_sI]; exact t1, m1, fun s' hs' => ?_⟩, ?_⟩
    · show up2 (mI τ1) (mZ τ) s _ (mZ τ) s' = sm (ctV I (Int32.ofNat s')) k + ctV I (Int32.ofNat s') k
      rw [ctV, es]
      by_cases c : s' = s
      · subst c
        rw [up2_at, if_pos rfl]
      · rw [up2_k c, if_neg (fun y => c (((kN_eq (by omega) (by omega)).mp y).symm)), hc s' hs', Int32.add_zero]
    · obtain ⟨τ3, e3⟩ : ∃ τ3, τ3 = sI τ1 (mZ τ) s (sm (ctV I (Int32.ofNat s)) k + 1) := ⟨_, rfl⟩
      have C3 : Cx φ T I R (mZ τ3) nS nL n := by rw [e3, mZ_sI]; exact C1
      show l_L_isSound_10 (fl + 1) (some (φ 0)) (Int32.ofNat nS) p (some (mZ τ)) (sm (dyV I) k) (Int32.ofNat k) (pt φ T I R τ1) = l_L_isSound_10 fl (some (φ 0)) (Int32.ofNat nS) p (some (mZ τ)) (sm (dyV I) k + I (6 * k + 19) 1) (Int32.ofNat (k + 1)) (pt φ T I R (sI τ1 (mZ τ) s (sm (ctV I (Int32.ofNat s)) k + 1)))
      have F := x_s43 (a := mZ τ) (acc := sm (dyV I) k) (p := p) (k10 := l_L_isSound_10 fl) C3 hk
      rw [← e3, ← F]
      rw [l_L_isSound_10, itr_succ, b_L_isSound_10, ob_pt hj q0, M2 τ1 m1, cl1_s, if_neg c1, ob_pt hj q0, L0, cl1_s, es, aI_off ho (by rw [t1]) (kN_nn (by omega)) (by rw [t1, ts]; exact hs4), ts, nm, hc s hs4, wI_off ho (by rw [t1]) (kN_nn (by omega)) (by rw [t1, ts]; exact hs4), ts, ← e3]
      rfl)
  obtain ⟨⟨τ2, acc, x⟩, ⟨hs, t2, m2, hc⟩, h5⟩ := L nL 0 40 (sN τ (100, 4), 0, 0) (by omega) (by omega) ⟨rfl, mT_sN_at, mZ_sN, fun s hs => mI_sN_at⟩
  simp only at hs t2 m2 hc
  cases hs
  obtain ⟨m, hm⟩ : ∃ m, 40 - nL = m + 1 := ⟨39 - nL, by omega⟩
  simp only [hm] at h5
  have C2 : Cx φ T I R (mZ τ2) nS nL n := by rw [m2]; exact h.up (by omega)
  refine ⟨τ2, ?_, by omega⟩
  have e4 : (100 + 0, (4 : Int32).toNatClampNeg) = ((100, 4) : Nat × Nat) := rfl
  rw [f_L_isSound, b_L_isSound_0, nA_off ho (by decide) (by decide), e4]
  refine h5.trans ?_
  rw [l_L_isSound_10, itr_succ, b_L_isSound_10, ob_pt hj q0, M2 τ2 m2, cl1_s, if_pos (Int32.le_refl _)]
  exact x_s198 C2 hn hM hp ho t2 hc
end SN
