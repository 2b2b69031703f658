/-! BESTMIX -/
section BX
variable {φ : Nat → Nat} {T : Nat → Nat × Nat} {I : Nat → Nat → Int32} {R : Nat → Nat → Option Nat} {τ : Mem} {e0 nS nL cS cL n z : Nat} {mx : Nat → Int32} {cB : Nat → Nat} {bl : Nat → List (Nat × Int32)}
variable {mi a b q k i j : Nat} {J : Nat → Nat → Int32} {p r w e : Int32} {τ0 τ1 : Mem} {x y ne : Nat → Int32}
def tS (x y : Nat → Int32) (t k : Nat) : Int32 := Int32.ofNat t * x k + (10 - Int32.ofNat t) * y k
def tSum (x y : Nat → Int32) (t : Nat) : Int32 := tS x y t 0 + tS x y t 1 + tS x y t 2
abbrev okT (x y ne : Nat → Int32) (t : Nat) : Prop := ¬ tS x y t 0 / 10 < ne 0 ∧ ¬ tS x y t 1 / 10 < ne 1 ∧ ¬ tS x y t 2 / 10 < ne 2
def mnI (a b : Int32) : Int32 := if a < b then a else b
def lsW (x y ne : Nat → Int32) (c0 : Int32) : Nat → Nat → Int32 → Int32
  | 0, _, L => L
  | m + 1, t, L => lsW x y ne c0 m (t + 1) (if okT x y ne t then mnI (tSum x y t * 100000 + c0 + Int32.ofNat t) L else L)
def mxW (x y ne : Nat → Int32) (c0 : Int32) : Nat → Nat → Int32 × Int32 → Int32 × Int32
  | 0, _, p => p
  | m + 1, t, p => mxW x y ne c0 m (t + 1) (if okT x y ne t then (if p.1 = -1 ∨ tSum x y t < p.2 then (c0 + Int32.ofNat t, tSum x y t) else p) else p)
def KW (p : Int32 × Int32) : Int32 := if p.1 = -1 then 100000000 else p.2 * 100000 + p.1
def GW (lim : Nat) (p : Int32 × Int32) : Prop := p.1 = -1 ∨ (0 ≤ p.1.toInt ∧ p.1.toInt < lim ∧ 0 ≤ p.2.toInt ∧ p.2.toInt ≤ 270)
theorem GW.le {l l' : Nat} {p : Int32 × Int32} (h : GW l p) (hl : l ≤ l') : GW l' p := by
  rcases h with h | ⟨h1, h2, h3, h4⟩
  · exact Or.inl h
  · exact Or.inr ⟨h1, by omega, h3, h4⟩
theorem tS_b (hx : ∀ k, k < 3 → 0 ≤ (x k).toInt ∧ (x k).toInt ≤ 9) (hy : ∀ k, k < 3 → 0 ≤ (y k).toInt ∧ (y k).toInt ≤ 9) {t : Nat} (ht : t ≤ 9) (hk : k < 3) : 0 ≤ (tS x y t k).toInt ∧ (tS x y t k).toInt ≤ 90 := by
  have z10 : (10 : Int32).toInt = 10 := rfl
  have eT := kN_t (a := t) (by omega)
  have e0 : ((10 : Int32) - Int32.ofNat t).toInt = 10 - t := by rw [tSub (by omega) (by omega), z10, eT]
  obtain ⟨a1, a2⟩ := hx k hk
  obtain ⟨b1, b2⟩ := hy k hk
  have m1 : (t : Int) * (x k).toInt ≤ t * 9 := Int.mul_le_mul_of_nonneg_left a2 (by omega)
  have m2 : 0 ≤ (t : Int) * (x k).toInt := Int.mul_nonneg (by omega) a1
  have m3 : (10 - (t : Int)) * (y k).toInt ≤ (10 - t) * 9 := Int.mul_le_mul_of_nonneg_left b2 (by omega)
  have m4 : 0 ≤ (10 - (t : Int)) * (y k).toInt := Int.mul_nonneg (by omega) b1
  have e1 : (Int32.ofNat t * x k).toInt = t * (x k).toInt := by rw [tMul (by rw [eT]; omega) (by rw [eT]; omega), eT]
  have e2 : ((10 - Int32.ofNat t) * y k).toInt = (10 - t) * (y k).toInt := by rw [tMul (by rw [e0]; omega) (by rw [e0]; omega), e0]
  unfold tS
  rw [tAdd (by omega) (by omega), e1, e2]; omega
theorem tSum_b (hx : ∀ k, k < 3 → 0 ≤ (x k).toInt ∧ (x k).toInt ≤ 9) (hy : ∀ k, k < 3 → 0 ≤ (y k).toInt ∧ (y k).toInt ≤ 9) {t : Nat} (ht : t ≤ 9) : 0 ≤ (tSum x y t).toInt ∧ (tSum x y t).toInt ≤ 270 := by
  have h0 := tS_b hx hy ht (k := 0) (by decide)
  have h1 := tS_b hx hy ht (k := 1) (by decide)
  have h2 := tS_b hx hy ht (k := 2) (by decide)
  have e1 : (tS x y t 0 + tS x y t 1).toInt = (tS x y t 0).toInt + (tS x y t 1).toInt := tAdd (by omega) (by omega)
  unfold tSum
  rw [tAdd (by omega) (by omega), e1]; omega
theorem KW_t {l : Nat} {p : Int32 × Int32} (h : GW l p) (hl : l ≤ 20000) : (p.1 = -1 ∧ (KW p).toInt = 100000000) ∨ (p.1 ≠ -1 ∧ (KW p).toInt = p.2.toInt * 100000 + p.1.toInt) := by
  have zc : (100000 : Int32).toInt = 100000 := rfl
  rcases h with h | ⟨h1, h2, h3, h4⟩
  · exact Or.inl ⟨h, by unfold KW; rw [if_pos h]; rfl⟩
  · have hn : p.1 ≠ -1 := fun y => by rw [y] at h1; revert h1; decide
    refine Or.inr ⟨hn, ?_⟩
    unfold KW; rw [if_neg hn]
    have e1 : (p.2 * 100000).toInt = p.2.toInt * 100000 := by rw [tMul (by rw [zc]; omega) (by rw [zc]; omega), zc]
    rw [tAdd (by omega) (by omega), e1]
theorem mnI_t (a b : Int32) : (mnI a b).toInt = if a.toInt < b.toInt then a.toInt else b.toInt := by
  unfold mnI
  by_cases h : a < b
  · rw [if_pos h, if_pos (ltT h)]
  · rw [if_neg h, if_neg (fun y => h (Int32.lt_iff_toInt_lt.mpr y))]
theorem stW {c0 s : Int32} {t cN : Nat} {p : Int32 × Int32} (h : GW (cN + t) p) (hc : c0 = Int32.ofNat cN) (hl : cN + t < 19000) (hs : 0 ≤ s.toInt ∧ s.toInt ≤ 270) : KW (if p.1 = -1 ∨ s < p.2 then (c0 + Int32.ofNat t, s) else p) = mnI (s * 100000 + c0 + Int32.ofNat t) (KW p) ∧ GW (cN + (t + 1)) (if p.1 = -1 ∨ s < p.2 then (c0 + Int32.ofNat t, s) else p) := by
  have zc : (100000 : Int32).toInt = 100000 := rfl
  have eC : (c0 + Int32.ofNat t).toInt = cN + t := by
    rw [hc, ← Int32.ofNat_add, kN_t (by omega)]; omega
  have nC : GW (cN + (t + 1)) (c0 + Int32.ofNat t, s) := Or.inr ⟨by show 0 ≤ (c0 + Int32.ofNat t).toInt; omega, by show (c0 + Int32.ofNat t).toInt < _; omega, hs.1, hs.2⟩
  have nE := KW_t nC (by omega)
  have n1 : c0 + Int32.ofNat t ≠ -1 := fun y => by rw [y] at eC; have : ((-1 : Int32)).toInt = -1 := rfl; omega
  have kE : KW (c0 + Int32.ofNat t, s) = s * 100000 + c0 + Int32.ofNat t := by
    unfold KW; rw [if_neg n1, ← Int32.add_assoc]
  have kT : (KW (c0 + Int32.ofNat t, s)).toInt = s.toInt * 100000 + (cN + t) := by
    rcases nE with ⟨q, _⟩ | ⟨_, q⟩
    · exact absurd q n1
    · rw [q]; show _ * _ + (c0 + Int32.ofNat t).toInt = _; rw [eC]
  rw [← kE]
  have hK := KW_t h (by omega)
  by_cases c : p.1 = -1 ∨ s < p.2
  · rw [if_pos c]
    refine ⟨Int32.toInt_inj.mp ?_, nC⟩
    rw [mnI_t, if_pos ?_]
    rcases hK with ⟨q1, q2⟩ | ⟨q1, q2⟩
    · omega
    · rcases h with h | ⟨h1, h2, h3, h4⟩
      · exact absurd h q1
      · rcases c with c | c
        · exact absurd c q1
        · have := ltT c; omega
  · rw [if_neg c]
    refine ⟨Int32.toInt_inj.mp ?_, h.le (by omega)⟩
    rw [mnI_t, if_neg ?_]
    rcases hK with ⟨q1, q2⟩ | ⟨q1, q2⟩
    · exact absurd (Or.inl q1) c
    · rcases h with h | ⟨h1, h2, h3, h4⟩
      · exact absurd h q1
      · have : ¬ s.toInt < p.2.toInt := fun y => c (Or.inr (Int32.lt_iff_toInt_lt.mpr y))
        omega
theorem walkW {c0 : Int32} {cN : Nat} (hc : c0 = Int32.ofNat cN) (hx : ∀ k, k < 3 → 0 ≤ (x k).toInt ∧ (x k).toInt ≤ 9) (hy : ∀ k, k < 3 → 0 ≤ (y k).toInt ∧ (y k).toInt ≤ 9) (hl : cN < 18000) (W : Int32) : ∀ m t (L : Int32) (p : Int32 × Int32), t + m = 10 → GW (cN + t) p → KW p = mnI L W → KW (mxW x y ne c0 m t p) = mnI (lsW x y ne c0 m t L) W ∧ GW (cN + 10) (mxW x y ne c0 m t p) := by
  intro m
  induction m with
  | zero => intro t L p ht hG hK; exact ⟨hK, hG.le (by omega)⟩
  | succ m ih =>
    intro t L p ht hG hK
    rw [mxW, lsW]
    by_cases c : okT x y ne t
    · rw [if_pos c, if_pos c]
      have ST := stW hG hc (by omega) (tSum_b hx hy (t := t) (by omega))
      refine ih (t + 1) _ _ (by omega) ST.2 ?_
      rw [ST.1, hK]
      refine Int32.toInt_inj.mp ?_
      simp only [mnI_t]
      repeat' split
      all_goals omega
    · rw [if_neg c, if_neg c]
      exact ih (t + 1) _ _ (by omega) (hG.le (by omega)) hK
abbrev freeI (I : Nat → Nat → Int32) (i : Nat) : Prop := I (6 * i + 19) 0 = 2 ∧ I (6 * i + 22) 0 ≤ 0
def c0W (i j : Nat) : Int32 := 1000 * Int32.ofNat i + 10 * Int32.ofNat j
theorem c0W_e (i j : Nat) : c0W i j = Int32.ofNat (1000 * i + 10 * j) := by
  unfold c0W
  rw [Int32.ofNat_add, Int32.ofNat_mul, Int32.ofNat_mul]; rfl
def jW (I : Nat → Nat → Int32) (ne : Nat → Int32) (i : Nat) : Nat → Nat → Int32 × Int32 → Int32 × Int32
  | 0, _, p => p
  | d + 1, j, p => jW I ne i d (j + 1) (if freeI I i ∧ freeI I j then mxW (NV I i) (NV I j) ne (c0W i j) 9 1 p else p)
def iW (I : Nat → Nat → Int32) (ne : Nat → Int32) (nL : Nat) : Nat → Nat → Int32 × Int32 → Int32 × Int32
  | 0, _, p => p
  | d + 1, i, p => iW I ne nL d (i + 1) (jW I ne i (nL - (i + 1)) (i + 1) p)
theorem pairW (h : Cx φ T I R (mZ τ) e0 nS nL cS cL mx cB bl n) (hi : i < nL) (hj : j < nL) {p : Int32 × Int32} (hG : GW (1000 * i + 10 * j) p) : KW (mxW (NV I i) (NV I j) ne (c0W i j) 9 1 p) = mnI (lsW (NV I i) (NV I j) ne (c0W i j) 9 1 100000000) (KW p) ∧ GW (1000 * i + 10 * (j + 1)) (mxW (NV I i) (NV I j) ne (c0W i j) 9 1 p) := by
  have hN := h.m.2.2.2.2.1
  have hK : KW p = mnI 100000000 (KW p) := by
    refine Int32.toInt_inj.mp ?_
    have z : (100000000 : Int32).toInt = 100000000 := rfl
    rw [mnI_t, z]
    rcases KW_t hG (by omega) with ⟨q1, q2⟩ | ⟨q1, q2⟩
    · rw [q2]; rfl
    · rw [if_neg]
      rcases hG with hG | ⟨h1, h2, h3, h4⟩
      · exact absurd hG q1
      · omega
  exact walkW (c0W_e i j) (fun k hk => NV_b h hi hk) (fun k hk => NV_b h hj hk) (by omega) (KW p) 9 1 100000000 p (by omega) (hG.le (by omega)) hK
theorem x_lsL (σ : Mem) (c0 : Int32) : ∀ m t L fl, t + m = 10 → m + 1 ≤ fl → l_X4_leastMix_50 fl c0 (ne 0) (ne 1) (ne 2) (x 0) (x 1) (x 2) (y 0) (y 1) (y 2) L (Int32.ofNat t) σ = some (lsW x y ne c0 m t L, σ) := by
  intro m
  induction m with
  | zero =>
    intro t L fl h1 h2
    obtain ⟨fl', rfl⟩ : ∃ x, fl = x + 1 := ⟨fl - 1, by omega⟩
    have c1 : (9 : Int32) < Int32.ofNat t := (kN_lt (a := 9) (by omega) (by omega)).mpr (by omega)
    rw [l_X4_leastMix_50, itr_succ, b_X4_leastMix_50, if_pos c1]; rfl
  | succ m ih =>
    intro t L fl h1 h2
    obtain ⟨fl', rfl⟩ : ∃ x, fl = x + 1 := ⟨fl - 1, by omega⟩
    have c1 : ¬ (9 : Int32) < Int32.ofNat t := by
      rw [show (9 : Int32) = Int32.ofNat 9 from rfl, kN_lt (by omega) (by omega)]; omega
    have IH := fun L => ih (t + 1) L fl' (by omega) (by omega)
    rw [l_X4_leastMix_50, itr_succ, b_X4_leastMix_50, if_neg c1, lsW]
    simp only [nm, b_X4_leastMix_162, dv10, kN_s]
    show (if tS x y t 0 / 10 < ne 0 then _ else if tS x y t 1 / 10 < ne 1 then _ else if tS x y t 2 / 10 < ne 2 then _ else _) = _
    by_cases d0 : tS x y t 0 / 10 < ne 0
    · rw [if_pos d0, if_neg (fun y => y.1 d0)]; exact IH L
    · rw [if_neg d0]
      by_cases d1 : tS x y t 1 / 10 < ne 1
      · rw [if_pos d1, if_neg (fun y => y.2.1 d1)]; exact IH L
      · rw [if_neg d1]
        by_cases d2 : tS x y t 2 / 10 < ne 2
        · rw [if_pos d2, if_neg (fun y => y.2.2 d2)]; exact IH L
        · rw [if_neg d2, if_pos (show okT x y ne t from ⟨d0, d1, d2⟩)]; exact IH _
theorem x_least (h : Cx φ T I R (mZ τ) e0 nS nL cS cL mx cB bl n) (hi : i < 17) (hj7 : j < 17) (c0 : Int32) : f_X4_leastMix c0 (some (φ (6 * i + 19))) (some (φ (6 * j + 19))) (ne 0) (ne 1) (ne 2) (pt φ T I R τ) = some (lsW (NV I i) (NV I j) ne c0 9 1 100000000, pt φ T I R τ) := by
  have hj := h.hj
  have t1 : (T (6 * i + 19)).1 = 3 + 1 := by rw [h.t4 hi]
  have t2 : (T (6 * j + 19)).1 = 3 + 1 := by rw [h.t4 hj7]
  have A0 : f_X1_noteOf (φ (6 * i + 19)) 0 (pt φ T I R τ) = some (NV I i 0, pt φ T I R τ) := x_noteC (k := 0) h hi (by decide)
  have A1 : f_X1_noteOf (φ (6 * i + 19)) 1 (pt φ T I R τ) = some (NV I i 1, pt φ T I R τ) := x_noteC (k := 1) h hi (by decide)
  have A2 : f_X1_noteOf (φ (6 * i + 19)) 2 (pt φ T I R τ) = some (NV I i 2, pt φ T I R τ) := x_noteC (k := 2) h hi (by decide)
  have B0 : f_X1_noteOf (φ (6 * j + 19)) 0 (pt φ T I R τ) = some (NV I j 0, pt φ T I R τ) := x_noteC (k := 0) h hj7 (by decide)
  have B1 : f_X1_noteOf (φ (6 * j + 19)) 1 (pt φ T I R τ) = some (NV I j 1, pt φ T I R τ) := x_noteC (k := 1) h hj7 (by decide)
  have B2 : f_X1_noteOf (φ (6 * j + 19)) 2 (pt φ T I R τ) = some (NV I j 2, pt φ T I R τ) := x_noteC (k := 2) h hj7 (by decide)
  rw [f_X4_leastMix, b_X4_leastMix_0, ob_pt hj t1, A0, cl1_s, ob_pt hj t1, A1, cl1_s, ob_pt hj t1, A2, cl1_s, ob_pt hj t2, B0, cl1_s, ob_pt hj t2, B1, cl1_s, ob_pt hj t2, B2, cl1_s]
  exact x_lsL _ _ 9 1 100000000 40 (by omega) (by omega)
theorem jW_K (h : Cx φ T I R (mZ τ) e0 nS nL cS cL mx cB bl n) (hi : i < nL) : ∀ d j p, j + d = nL → GW (1000 * i + 10 * j) p → GW (1000 * i + 10 * (j + d)) (jW I ne i d j p) := by
  intro d
  induction d with
  | zero => intro j p _ hG; exact hG
  | succ d ih =>
    intro j p hd hG
    rw [jW, show j + (d + 1) = j + 1 + d by omega]
    refine ih (j + 1) _ (by omega) ?_
    split
    · exact (pairW h hi (by omega) hG).2
    · exact hG.le (by omega)
theorem x_jL (h : Cx φ T I R (mZ τ) e0 nS nL cS cL mx cB bl n) (hi : i < nL) {k29 : Nat → Int32 → Int32 → Int32 → Int32 → Int32 → Mem → Option ((Int32 ⊕ Nat) × Mem)} : ∀ d j p fl, j + d = nL → d + 1 ≤ fl → GW (1000 * i + 10 * j) p → l_X4_bestMix_44 k29 fl (φ 0) (ne 0) (ne 1) (ne 2) (KW p) (Int32.ofNat i) (Int32.ofNat j) (pt φ T I R τ) = k29 (φ 0) (ne 0) (ne 1) (ne 2) (KW (jW I ne i d j p)) (Int32.ofNat (i + 1)) (pt φ T I R τ) := by
  have hj := h.hj
  have hN := h.m.2.2.2.2.1
  obtain ⟨x0, x4, x3, xa⟩ : T 0 = (7, 0) ∧ I 0 4 = Int32.ofNat nL ∧ R 0 3 = some (φ 2) ∧ T 2 = (102, 16) := by
    obtain ⟨hj, hl, hx, hm, hr⟩ := h; obtain ⟨hx0, hx1, hx2, hx3, hx4, hx5, hx6, hx7, hx8, hx9, hx10, hx11, hx12, hx13, hx14, hx15, hx16, hx17, hx18, hx19, hx20, hx21, hx22, hx23, hx24, hx25, hx26, hx27⟩ := hx; obtain ⟨hm0, hm1, hm2, hm3, hm4, hm5, hm6, hm7, hm8, hm9, hm10, hm11, hm12, hm13, hm14, hm15, hm16, hm17, hm18, hm19, hm20, hm21, hm22, hm23, hm24, hm25, hm26, hm27, hm28, hm29, hm30, hm31, hm32, hm33, hm34, hm35, hm36, hm37, hm38, hm39, hm40, hm41, hm42, hm43, hm44⟩ := hm; obtain ⟨⟨⟨g1, g2⟩, ⟨g3, g4, g5, g6, g7⟩, g8, g9, g10⟩, r1, r2, r3, r4, r5, r6⟩ := hr
    exact ⟨hx0, g2, hx2, hx7⟩
  have GL : ∀ {K : Option Nat → Option ((Int32 ⊕ Nat) × Mem)} (j : Nat), j < nL → aR 2 (pt φ T I R τ) (some (φ 2)) (Int32.ofNat j) K = K (some (φ (6 * j + 19))) := by
    intro K j hjn
    have R2 : R 2 j = some (φ (6 * j + 19)) := by
      obtain ⟨hj, hl, hx, hm, hr⟩ := h; obtain ⟨hx0, hx1, hx2, hx3, hx4, hx5, hx6, hx7, hx8, hx9, hx10, hx11, hx12, hx13, hx14, hx15, hx16, hx17, hx18, hx19, hx20, hx21, hx22, hx23, hx24, hx25, hx26, hx27⟩ := hx; obtain ⟨hm0, hm1, hm2, hm3, hm4, hm5, hm6, hm7, hm8, hm9, hm10, hm11, hm12, hm13, hm14, hm15, hm16, hm17, hm18, hm19, hm20, hm21, hm22, hm23, hm24, hm25, hm26, hm27, hm28, hm29, hm30, hm31, hm32, hm33, hm34, hm35, hm36, hm37, hm38, hm39, hm40, hm41, hm42, hm43, hm44⟩ := hm; obtain ⟨⟨⟨g1, g2⟩, ⟨g3, g4, g5, g6, g7⟩, g8, g9, g10⟩, r1, r2, r3, r4, r5, r6⟩ := hr
      exact hx14 j (by omega)
    rw [aR_pt hj (by rw [xa]) (kN_nn (by omega)) (by rw [xa, tnK (by omega)]; omega), tnK (by omega), R2]
  intro d
  induction d with
  | zero =>
    intro j p fl hd hf _
    obtain ⟨fl', rfl⟩ : ∃ x, fl = x + 1 := ⟨fl - 1, by omega⟩
    have c1 : Int32.ofNat nL ≤ Int32.ofNat j := (kN_le (by omega) (by omega)).mpr (by omega)
    rw [l_X4_bestMix_44, itr_succ, b_X4_bestMix_44, gI_pt hj (by rw [x0]), x4, if_pos c1, nm, kN_s]; rfl
  | succ d ih =>
    intro j p fl hd hf hG
    obtain ⟨fl', rfl⟩ : ∃ x, fl = x + 1 := ⟨fl - 1, by omega⟩
    have c1 : ¬ Int32.ofNat nL ≤ Int32.ofNat j := by rw [kN_le (by omega) (by omega)]; omega
    have IH := fun p hp => ih (j + 1) p fl' (by omega) (by omega) hp
    have t1 : (T (6 * i + 19)).1 = 3 + 1 := by rw [h.t4 (by omega)]
    have t2 : (T (6 * j + 19)).1 = 3 + 1 := by rw [h.t4 (by omega)]
    rw [l_X4_bestMix_44, itr_succ, b_X4_bestMix_44, gI_pt hj (by rw [x0]), x4, if_neg c1, gR_pt hj (by rw [x0]), x3, GL i hi, ob_pt hj t1, jW]
    rcases x_free (τ := τ) (h := h) (i := i) (by omega) with ⟨f1, f2, f3⟩ | ⟨f1, f3⟩
    · rw [f3, cl1_s, if_neg (by decide), gR_pt hj (by rw [x0]), x3, GL j (by omega), ob_pt hj t2]
      rcases x_free (τ := τ) (h := h) (i := j) (by omega) with ⟨g1, g2, g3⟩ | ⟨g1, g3⟩
      · have PW := pairW (ne := ne) h hi (show j < nL by omega) hG
        rw [g3, cl1_s, if_neg (by decide), nm, nm, nm, gR_pt hj (by rw [x0]), x3, GL i hi, gR_pt hj (by rw [x0]), x3, GL j (by omega), x_least h (by omega) (by omega), cl1_s, nm, b_X4_bestMix_122, nm, kN_s, if_pos (show freeI I i ∧ freeI I j from ⟨⟨f1, f2⟩, ⟨g1, g2⟩⟩)]
        rw [← IH _ PW.2, PW.1]; rfl
      · rw [g3, cl1_s, if_pos rfl, b_X4_bestMix_122, nm, kN_s, if_neg (fun y => g1 y.2)]
        exact IH p (hG.le (by omega))
    · rw [f3, cl1_s, if_pos rfl, b_X4_bestMix_122, nm, kN_s, if_neg (fun y => f1 y.1)]
      exact IH p (hG.le (by omega))
theorem rm_c {a b : Int32} {β : Type} {K : Int32 → Option β} (h : b ≠ 0) : rm a b K = K (a - a / b * b) := if_neg h
theorem KW_rm {p : Int32 × Int32} (h : GW 20000 p) (hn : p.1 ≠ -1) : KW p ≠ 100000000 ∧ KW p - KW p / 100000 * 100000 = p.1 := by
  have zc : (100000 : Int32).toInt = 100000 := rfl
  have z8 : (100000000 : Int32).toInt = 100000000 := rfl
  rcases KW_t h (by omega) with ⟨q1, q2⟩ | ⟨q1, q2⟩
  · exact absurd q1 hn
  rcases h with h | ⟨h1, h2, h3, h4⟩
  · exact absurd h q1
  refine ⟨fun y => by rw [y, z8] at q2; omega, Int32.toInt_inj.mp ?_⟩
  have e1 : (KW p / 100000).toInt = p.2.toInt := by
    rw [Int32.toInt_div, zc, Int.tdiv_eq_ediv_of_nonneg (by omega)]
    rw [Int.bmod_eq_of_le (by omega) (by omega)]; omega
  have e2 : (KW p / 100000 * 100000).toInt = p.2.toInt * 100000 := by rw [tMul (by rw [zc]; omega) (by rw [zc]; omega), e1, zc]
  rw [tSub (by omega) (by omega), e2, q2]; omega
theorem x_iL (h : Cx φ T I R (mZ τ) e0 nS nL cS cL mx cB bl n) : ∀ d i p fl, i + d = nL → d + 1 ≤ fl → GW (1000 * i + 10 * (i + 1)) p → l_X4_bestMix_29 fl (φ 0) (ne 0) (ne 1) (ne 2) (KW p) (Int32.ofNat i) (pt φ T I R τ) = some (.inl (iW I ne nL d i p).1, pt φ T I R τ) := by
  have hj := h.hj
  have hN := h.m.2.2.2.2.1
  obtain ⟨x0, x4⟩ : T 0 = (7, 0) ∧ I 0 4 = Int32.ofNat nL := by
    obtain ⟨hj, hl, hx, hm, hr⟩ := h; obtain ⟨hx0, hx1, hx2, hx3, hx4, hx5, hx6, hx7, hx8, hx9, hx10, hx11, hx12, hx13, hx14, hx15, hx16, hx17, hx18, hx19, hx20, hx21, hx22, hx23, hx24, hx25, hx26, hx27⟩ := hx; obtain ⟨hm0, hm1, hm2, hm3, hm4, hm5, hm6, hm7, hm8, hm9, hm10, hm11, hm12, hm13, hm14, hm15, hm16, hm17, hm18, hm19, hm20, hm21, hm22, hm23, hm24, hm25, hm26, hm27, hm28, hm29, hm30, hm31, hm32, hm33, hm34, hm35, hm36, hm37, hm38, hm39, hm40, hm41, hm42, hm43, hm44⟩ := hm; obtain ⟨⟨⟨g1, g2⟩, ⟨g3, g4, g5, g6, g7⟩, g8, g9, g10⟩, r1, r2, r3, r4, r5, r6⟩ := hr
    exact ⟨hx0, g2⟩
  intro d
  induction d with
  | zero =>
    intro i p fl hd hf hG
    obtain ⟨fl', rfl⟩ : ∃ x, fl = x + 1 := ⟨fl - 1, by omega⟩
    have c1 : Int32.ofNat nL ≤ Int32.ofNat i := (kN_le (by omega) (by omega)).mpr (by omega)
    rw [l_X4_bestMix_29, itr_succ, b_X4_bestMix_29, gI_pt hj (by rw [x0]), x4, if_pos c1]
    show _ = some (Sum.inl p.1, pt φ T I R τ)
    by_cases c2 : p.1 = -1
    · have : KW p = 100000000 := by unfold KW; rw [if_pos c2]
      rw [if_pos this, c2]; rfl
    · have K := KW_rm (hG.le (by omega)) c2
      rw [if_neg K.1, rm_c (by decide), K.2]; rfl
  | succ d ih =>
    intro i p fl hd hf hG
    obtain ⟨fl', rfl⟩ : ∃ x, fl = x + 1 := ⟨fl - 1, by omega⟩
    have c1 : ¬ Int32.ofNat nL ≤ Int32.ofNat i := by rw [kN_le (by omega) (by omega)]; omega
    have hi : i < nL := by omega
    rw [l_X4_bestMix_29, itr_succ, b_X4_bestMix_29, gI_pt hj (by rw [x0]), x4, if_neg c1, nm, kN_s, x_jL h hi (nL - (i + 1)) (i + 1) p 40 (by omega) (by omega) hG]
    exact ih (i + 1) _ fl' (by omega) (by omega) ((jW_K h hi (nL - (i + 1)) (i + 1) p (by omega) hG).le (by omega))
end BX

/-! BESTMIX, the reference -/
section BY
variable {φ : Nat → Nat} {T : Nat → Nat × Nat} {I : Nat → Nat → Int32} {R : Nat → Nat → Option Nat} {τ : Mem} {e0 nS nL cS cL n z : Nat} {mx : Nat → Int32} {cB : Nat → Nat} {bl : Nat → List (Nat × Int32)}
variable {mi a b q k i j t : Nat} {J : Nat → Nat → Int32} {p r w e s : Int32} {x y ne : Nat → Int32} {τ1 : Mem}
variable {k7 : Nat → Option Nat → Int32 → Int32 → Int32 → Mem → Option (Int32 × Mem)} {k25 : Nat → Option Nat → Int32 → Int32 → Int32 → Int32 → Mem → Option (Int32 × Mem)} {k49 : Nat → Option Nat → Int32 → Int32 → Int32 → Int32 → Int32 → Mem → Option (Int32 × Mem)}
def enT (x y ne : Nat → Int32) (t k : Nat) : Int32 := if tS x y t k / 10 < ne k then 0 else 1
theorem en3 : (((1 : Int32) &&& enT x y ne t 0) &&& enT x y ne t 1) &&& enT x y ne t 2 = 0 ↔ ¬ okT x y ne t := by
  unfold enT
  by_cases d0 : tS x y t 0 / 10 < ne 0 <;> by_cases d1 : tS x y t 1 / 10 < ne 1 <;> by_cases d2 : tS x y t 2 / 10 < ne 2 <;> simp only [okT, d0, d1, d2, if_true, if_false, not_true_eq_false, not_false_eq_true, and_false, false_and, and_self, iff_true, iff_false] <;> decide
theorem m_bm1 (h : Cx φ T I R (mZ τ) e0 nS nL cS cL mx cB bl n) (hz : mZ τ ≤ a) (hJ : ∀ v, 125 ≤ v → J v = I v) (hi : i < nL) (hjL : j < nL) (si : I (6 * i + 19) 0 ≠ 3) (sj : I (6 * j + 19) 0 ≠ 3) (ha : mT τ1 a = (100, 3)) (hn : ∀ k, k < 3 → mI τ1 a k = ne k) (k : Nat) (hk : k < 3) (fl : Nat) (s ok : Int32) : l_X8_bestMixNow_74 k7 k25 k49 (fl + 1) (φ 124) (some a) p r (Int32.ofNat i) (Int32.ofNat j) (Int32.ofNat t) s ok (Int32.ofNat k) (pt φ T J R τ1) = l_X8_bestMixNow_74 k7 k25 k49 fl (φ 124) (some a) p r (Int32.ofNat i) (Int32.ofNat j) (Int32.ofNat t) (s + tS (NV I i) (NV I j) t k) (ok &&& enT (NV I i) (NV I j) ne t k) (Int32.ofNat (k + 1)) (pt φ T J R τ1) := by
  have hj := h.hj
  have ho := h.offZ hz
  have hN := h.m.2.2.2.2.1
  have h0 := h.m.1
  have h6 := h.m.2.2.1
  have h7 := h.m.2.2.2.1
  have ti := h.t8 hi
  have tj := h.t8 hjL
  have G1 := m_getJ (J := J) (τ := τ1) h (hJ 126 (by omega)) (InN.of hi (by omega)) (tnK (by omega))
  have G2 := m_getJ (J := J) (τ := τ1) h (hJ 126 (by omega)) (InN.of hjL (by omega)) (tnK (by omega))
  have N1 := m_noteJ (J := J) (τ := τ1) h hi (hJ _ (by omega)) (hJ _ (by omega)) (hJ _ (by omega)) si hk
  have N2 := m_noteJ (J := J) (τ := τ1) h hjL (hJ _ (by omega)) (hJ _ (by omega)) (hJ _ (by omega)) sj hk
  have c1 : ¬ (3 : Int32) ≤ Int32.ofNat k := by rw [show (3 : Int32) = Int32.ofNat 3 from rfl, kN_le (by omega) (by omega)]; omega
  rw [l_X8_bestMixNow_74, itr_succ, b_X8_bestMixNow_74, if_neg c1, gR_pt hj (by rw [h0]), h7, ob_pt hj (by rw [h6]), G1, cl1_s, ck_pt hj (by rw [ti]) (by decide), ob_pt hj (by rw [ti]), N1, cl1_s, nm, nm, gR_pt hj (by rw [h0]), h7, ob_pt hj (by rw [h6]), G2, cl1_s, ck_pt hj (by rw [tj]) (by decide), ob_pt hj (by rw [tj]), N2, cl1_s, nm, nm, nm, dv10, aI_off ho (by rw [ha]) (kN_nn (by omega)) (by rw [tnK (by omega), ha]; exact hk), tnK (by omega), hn k hk]
  unfold enT
  show (if tS (NV I i) (NV I j) t k / 10 < ne k then _ else _) = _
  by_cases c : tS (NV I i) (NV I j) t k / 10 < ne k
  · rw [if_pos c, if_pos c, b_X8_bestMixNow_152, nm, nm, kN_s]; rfl
  · rw [if_neg c, if_neg c, b_X8_bestMixNow_152, nm, nm, kN_s]; rfl
theorem m_bmN (h : Cx φ T I R (mZ τ) e0 nS nL cS cL mx cB bl n) (hz : mZ τ ≤ a) (hJ : ∀ v, 125 ≤ v → J v = I v) (hi : i < nL) (hjL : j < nL) (si : I (6 * i + 19) 0 ≠ 3) (sj : I (6 * j + 19) 0 ≠ 3) (ha : mT τ1 a = (100, 3)) (hn : ∀ k, k < 3 → mI τ1 a k = ne k) (p : Int32 × Int32) : l_X8_bestMixNow_74 k7 k25 k49 40 (φ 124) (some a) p.1 p.2 (Int32.ofNat i) (Int32.ofNat j) (Int32.ofNat t) 0 1 0 (pt φ T J R τ1) = k49 (φ 124) (some a) (if okT (NV I i) (NV I j) ne t then (if p.1 = -1 ∨ tSum (NV I i) (NV I j) t < p.2 then (c0W i j + Int32.ofNat t, tSum (NV I i) (NV I j) t) else p) else p).1 (if okT (NV I i) (NV I j) ne t then (if p.1 = -1 ∨ tSum (NV I i) (NV I j) t < p.2 then (c0W i j + Int32.ofNat t, tSum (NV I i) (NV I j) t) else p) else p).2 (Int32.ofNat i) (Int32.ofNat j) (Int32.ofNat (t + 1)) (pt φ T J R τ1) := by
  have S := fun k hk fl s ok => m_bm1 (k7 := k7) (k25 := k25) (k49 := k49) (p := p.1) (r := p.2) (t := t) (R := R) h hz hJ hi hjL si sj ha hn k hk fl s ok
  have e0 := S 0 (by decide) 39 0 1
  have e1 := S 1 (by decide) 38 (0 + tS (NV I i) (NV I j) t 0) (1 &&& enT (NV I i) (NV I j) ne t 0)
  have e2 := S 2 (by decide) 37 (0 + tS (NV I i) (NV I j) t 0 + tS (NV I i) (NV I j) t 1) (1 &&& enT (NV I i) (NV I j) ne t 0 &&& enT (NV I i) (NV I j) ne t 1)
  refine (e0.trans (e1.trans e2)).trans ?_
  rw [show (37 : Nat) = 36 + 1 from rfl, l_X8_bestMixNow_74, itr_succ, b_X8_bestMixNow_74, if_pos (show (3 : Int32) ≤ Int32.ofNat (2 + 1) by decide), Int32.zero_add]
  by_cases c : okT (NV I i) (NV I j) ne t
  · rw [if_neg (fun y => en3.mp y c), if_pos c]
    show (if p.1 = -1 then _ else if tSum (NV I i) (NV I j) t < p.2 then _ else _) = _
    by_cases c1 : p.1 = -1
    · rw [if_pos c1, if_pos (Or.inl c1), b_X8_bestMixNow_180, nm, nm, nm, nm, b_X8_bestMixNow_199, nm, kN_s]; rfl
    · rw [if_neg c1]
      by_cases c2 : tSum (NV I i) (NV I j) t < p.2
      · rw [if_pos c2, if_pos (Or.inr c2), b_X8_bestMixNow_180, nm, nm, nm, nm, b_X8_bestMixNow_199, nm, kN_s]; rfl
      · rw [if_neg c2, if_neg (fun y => y.elim c1 c2), b_X8_bestMixNow_199, nm, kN_s]
  · rw [if_pos (en3.mpr c), if_neg c, b_X8_bestMixNow_199, nm, kN_s]
theorem m_bmT (h : Cx φ T I R (mZ τ) e0 nS nL cS cL mx cB bl n) (hz : mZ τ ≤ a) (hJ : ∀ v, 125 ≤ v → J v = I v) (hi : i < nL) (hjL : j < nL) (si : I (6 * i + 19) 0 ≠ 3) (fj : freeI I j) (ha : mT τ1 a = (100, 3)) (hn : ∀ k, k < 3 → mI τ1 a k = ne k) : ∀ m t p fl, t + m = 10 → m + 1 ≤ fl → l_X8_bestMixNow_49 k7 k25 fl (φ 124) (some a) p.1 p.2 (Int32.ofNat i) (Int32.ofNat j) (Int32.ofNat t) (pt φ T J R τ1) = k25 (φ 124) (some a) (mxW (NV I i) (NV I j) ne (c0W i j) m t p).1 (mxW (NV I i) (NV I j) ne (c0W i j) m t p).2 (Int32.ofNat i) (Int32.ofNat (j + 1)) (pt φ T J R τ1) := by
  have hj := h.hj
  have hN := h.m.2.2.2.2.1
  have h0 := h.m.1
  have sj : I (6 * j + 19) 0 ≠ 3 := by rw [fj.1]; decide
  have CM : f_X8_canMix (φ 124) (Int32.ofNat j) (pt φ T J R τ1) = some (1, pt φ T J R τ1) := by
    rcases m_canMix (J := J) (R := R) (τ := τ1) h hJ (InN.of hjL (by omega)) (tnK (by omega)) with ⟨-, -, y⟩ | ⟨y, -⟩
    · exact y
    · exact absurd fj y
  intro m
  induction m with
  | zero =>
    intro t p fl h1 h2
    obtain ⟨fl', rfl⟩ : ∃ x, fl = x + 1 := ⟨fl - 1, by omega⟩
    have c1 : (10 : Int32) ≤ Int32.ofNat t := (kN_le (a := 10) (by omega) (by omega)).mpr (by omega)
    rw [l_X8_bestMixNow_49, itr_succ, b_X8_bestMixNow_49, if_pos c1, b_X8_bestMixNow_205, nm, kN_s]; rfl
  | succ m ih =>
    intro t p fl h1 h2
    obtain ⟨fl', rfl⟩ : ∃ x, fl = x + 1 := ⟨fl - 1, by omega⟩
    have c1 : ¬ (10 : Int32) ≤ Int32.ofNat t := by rw [show (10 : Int32) = Int32.ofNat 10 from rfl, kN_le (by omega) (by omega)]; omega
    rw [l_X8_bestMixNow_49, itr_succ, b_X8_bestMixNow_49, if_neg c1, ob_pt hj (by rw [h0]), CM, cl1_s, if_neg (by decide), m_bmN h hz hJ hi hjL si sj ha hn p]
    exact ih (t + 1) _ fl' (by omega) (by omega)
theorem jW_no (hf : ¬ freeI I i) : ∀ d j p, jW I ne i d j p = p := by
  intro d
  induction d with
  | zero => intro j p; rfl
  | succ d ih => intro j p; rw [jW, if_neg (fun y => hf y.1)]; exact ih _ _
theorem m_bmJ (h : Cx φ T I R (mZ τ) e0 nS nL cS cL mx cB bl n) (hz : mZ τ ≤ a) (hJ : ∀ v, 125 ≤ v → J v = I v) (hi : i < nL) (ha : mT τ1 a = (100, 3)) (hn : ∀ k, k < 3 → mI τ1 a k = ne k) : ∀ d j p fl, j + d = nL → d + 1 ≤ fl → l_X8_bestMixNow_25 k7 fl (φ 124) (some a) p.1 p.2 (Int32.ofNat i) (Int32.ofNat j) (pt φ T J R τ1) = k7 (φ 124) (some a) (jW I ne i d j p).1 (jW I ne i d j p).2 (Int32.ofNat (i + 1)) (pt φ T J R τ1) := by
  have hj := h.hj
  have hN := h.m.2.2.2.2.1
  have h0 := h.m.1
  have h2 := h.m.2.1
  have h6 := h.m.2.2.1
  have h7 := h.m.2.2.2.1
  have J6 := hJ 126 (by omega)
  have SZ : f_Jx4a65c_size_8abf5 (φ 126) (pt φ T J R τ1) = some (Int32.ofNat nL, pt φ T J R τ1) := by
    simp (config := {decide := true}) only [b_Jx4a65c_size_8abf5_0, f_Jx4a65c_size_8abf5, gI_pt hj, gR_pt hj, ob_pt hj, ck_pt hj, pI_pt hj, pB_pt hj, pR_pt hj, aI_pt hj, aR_pt hj, wI_pt hj, wJ_pt hj, aL_pt hj, cl1_s, cl1_n, cl1_i, cx1_s, cx1_x, cx1_n, cx1_i, nul_n, nul_s, nm, dv2, dv3, dv4, dv5, dv8, dv10, dv20, dv40, thr, bo, mI_pt hj, mT_pt hj, sB_pt, mZ_pt, mJ_pt, mJ_sJ, mZ_sJ, tn0, tn1, tn2, tn3, tn4, tn5, tn6, h6, J6, h2, ii0, ii1, ii2, ii3, ii4, if_true, if_false, ne_eq, not_false_eq_true, not_true_eq_false, true_and, and_true, false_and, and_false, and_self, true_or, or_true, false_or, or_false, or_self, Nat.reduceAdd, Nat.reduceLT, Nat.reduceLeDiff, Nat.succ_ne_zero, reduceIte, reduceCtorEq]
  intro d
  induction d with
  | zero =>
    intro j p fl hd hf
    obtain ⟨fl', rfl⟩ : ∃ x, fl = x + 1 := ⟨fl - 1, by omega⟩
    have c1 : Int32.ofNat nL ≤ Int32.ofNat j := (kN_le (by omega) (by omega)).mpr (by omega)
    rw [l_X8_bestMixNow_25, itr_succ, b_X8_bestMixNow_25, gR_pt hj (by rw [h0]), h7, ob_pt hj (by rw [h6]), SZ, cl1_s, if_pos c1, b_X8_bestMixNow_211, nm, kN_s]; rfl
  | succ d ih =>
    intro j p fl hd hf
    obtain ⟨fl', rfl⟩ : ∃ x, fl = x + 1 := ⟨fl - 1, by omega⟩
    have c1 : ¬ Int32.ofNat nL ≤ Int32.ofNat j := by rw [kN_le (by omega) (by omega)]; omega
    rw [l_X8_bestMixNow_25, itr_succ, b_X8_bestMixNow_25, gR_pt hj (by rw [h0]), h7, ob_pt hj (by rw [h6]), SZ, cl1_s, if_neg c1, ob_pt hj (by rw [h0])]
    rcases m_canMix (J := J) (R := R) (τ := τ1) h hJ (InN.of hi (by omega)) (tnK (by omega)) with ⟨f1, f2, f3⟩ | ⟨f1, f3⟩
    · rw [f3, cl1_s, if_neg (by decide), jW]
      have si : I (6 * i + 19) 0 ≠ 3 := by rw [f1]; decide
      by_cases g : freeI I j
      · rw [if_pos (show freeI I i ∧ freeI I j from ⟨⟨f1, f2⟩, g⟩)]
        refine (m_bmT h hz hJ hi (by omega) si g ha hn 9 1 p 40 (by omega) (by omega)).trans ?_
        exact ih (j + 1) _ fl' (by omega) (by omega)
      · rw [if_neg (fun y => g y.2)]
        have CM : f_X8_canMix (φ 124) (Int32.ofNat j) (pt φ T J R τ1) = some (0, pt φ T J R τ1) := by
          rcases m_canMix (J := J) (R := R) (τ := τ1) h hJ (InN.of (show j < nL by omega) (by omega)) (tnK (by omega)) with ⟨y1, y2, -⟩ | ⟨-, y⟩
          · exact absurd ⟨y1, y2⟩ g
          · exact y
        rw [show (40 : Nat) = 39 + 1 from rfl, l_X8_bestMixNow_49, itr_succ, b_X8_bestMixNow_49, if_neg (show ¬ (10 : Int32) ≤ 1 by decide), ob_pt hj (by rw [h0]), CM, cl1_s, if_pos rfl, b_X8_bestMixNow_205, nm, kN_s]
        exact ih (j + 1) p fl' (by omega) (by omega)
    · rw [f3, cl1_s, if_pos rfl, b_X8_bestMixNow_211, nm, kN_s, jW_no f1]
theorem m_bmI (h : Cx φ T I R (mZ τ) e0 nS nL cS cL mx cB bl n) (hz : mZ τ ≤ a) (hJ : ∀ v, 125 ≤ v → J v = I v) (ha : mT τ1 a = (100, 3)) (hn : ∀ k, k < 3 → mI τ1 a k = ne k) : ∀ d i p fl, i + d = nL → d + 1 ≤ fl → l_X8_bestMixNow_7 fl (φ 124) (some a) p.1 p.2 (Int32.ofNat i) (pt φ T J R τ1) = some ((iW I ne nL d i p).1, pt φ T J R τ1) := by
  have hj := h.hj
  have hN := h.m.2.2.2.2.1
  have h0 := h.m.1
  have h2 := h.m.2.1
  have h6 := h.m.2.2.1
  have h7 := h.m.2.2.2.1
  have J6 := hJ 126 (by omega)
  have SZ : f_Jx4a65c_size_8abf5 (φ 126) (pt φ T J R τ1) = some (Int32.ofNat nL, pt φ T J R τ1) := by
    simp (config := {decide := true}) only [b_Jx4a65c_size_8abf5_0, f_Jx4a65c_size_8abf5, gI_pt hj, gR_pt hj, ob_pt hj, ck_pt hj, pI_pt hj, pB_pt hj, pR_pt hj, aI_pt hj, aR_pt hj, wI_pt hj, wJ_pt hj, aL_pt hj, cl1_s, cl1_n, cl1_i, cx1_s, cx1_x, cx1_n, cx1_i, nul_n, nul_s, nm, dv2, dv3, dv4, dv5, dv8, dv10, dv20, dv40, thr, bo, mI_pt hj, mT_pt hj, sB_pt, mZ_pt, mJ_pt, mJ_sJ, mZ_sJ, tn0, tn1, tn2, tn3, tn4, tn5, tn6, h6, J6, h2, ii0, ii1, ii2, ii3, ii4, if_true, if_false, ne_eq, not_false_eq_true, not_true_eq_false, true_and, and_true, false_and, and_false, and_self, true_or, or_true, false_or, or_false, or_self, Nat.reduceAdd, Nat.reduceLT, Nat.reduceLeDiff, Nat.succ_ne_zero, reduceIte, reduceCtorEq]
  intro d
  induction d with
  | zero =>
    intro i p fl hd hf
    obtain ⟨fl', rfl⟩ : ∃ x, fl = x + 1 := ⟨fl - 1, by omega⟩
    have c1 : Int32.ofNat nL ≤ Int32.ofNat i := (kN_le (by omega) (by omega)).mpr (by omega)
    rw [l_X8_bestMixNow_7, itr_succ, b_X8_bestMixNow_7, gR_pt hj (by rw [h0]), h7, ob_pt hj (by rw [h6]), SZ, cl1_s, if_pos c1]; rfl
  | succ d ih =>
    intro i p fl hd hf
    obtain ⟨fl', rfl⟩ : ∃ x, fl = x + 1 := ⟨fl - 1, by omega⟩
    have c1 : ¬ Int32.ofNat nL ≤ Int32.ofNat i := by rw [kN_le (by omega) (by omega)]; omega
    rw [l_X8_bestMixNow_7, itr_succ, b_X8_bestMixNow_7, gR_pt hj (by rw [h0]), h7, ob_pt hj (by rw [h6]), SZ, cl1_s, if_neg c1, nm, kN_s]
    refine (m_bmJ h hz hJ (show i < nL by omega) ha hn (nL - (i + 1)) (i + 1) p 40 (by omega) (by omega)).trans ?_
    exact ih (i + 1) _ fl' (by omega) (by omega)
def BM (I : Nat → Nat → Int32) (ne : Nat → Int32) (nL : Nat) : Int32 := (iW I ne nL nL 0 (-1, 0)).1
theorem m_bestMixNow (h : Cx φ T I R (mZ τ) e0 nS nL cS cL mx cB bl n) (hz : mZ τ ≤ a) (hJ : ∀ v, 125 ≤ v → J v = I v) (ha : mT τ1 a = (100, 3)) (hn : ∀ k, k < 3 → mI τ1 a k = ne k) : f_X8_bestMixNow (φ 124) (some a) (pt φ T J R τ1) = some (BM I ne nL, pt φ T J R τ1) := by
  have hN := h.m.2.2.2.2.1
  rw [f_X8_bestMixNow, b_X8_bestMixNow_0]
  exact m_bmI h hz hJ ha hn nL 0 (-1, 0) 40 (by omega) (by omega)
/-- the array of three and the asking -/
def n3 (p q r : Int32) (k : Nat) : Int32 := if k = 0 then p else if k = 1 then q else r
theorem m_arr3 {K : Mem → Option Nat → Option (Int32 × Mem)} {q : Int32} (hj : Inj φ T) (ho : Off φ T (mZ τ1)) : ∃ τ', (nA 0 3 (pt φ T J R τ1) 3 fun σ6 r7 => wI σ6 r7 0 p fun σ8 => wI σ8 r7 1 q fun σ9 => wI σ9 r7 2 r fun σ10 => K σ10 r7) = K (pt φ T J R τ') (some (mZ τ1)) ∧ mT τ' (mZ τ1) = (100, 3) ∧ (∀ k, k < 3 → mI τ' (mZ τ1) k = n3 p q r k) ∧ Kp (mZ τ1) τ1 τ' ∧ mZ τ' = mZ τ1 + 1 := by
  obtain ⟨t0, W, T0, Z0, -, K0, z0⟩ := nA_ex (J := J) (R := R) (p := 3) (c := 3) (t := 0) (bd := 3) ho (by decide) rfl (by decide)
  obtain ⟨t1, W0, T1, A0, B0, K1, z1⟩ := wI_ex (J := J) (R := R) (p := 0) (v := p) (k := 0) hj ho T0 (by decide) rfl (by decide)
  obtain ⟨t2, W1, T2, A1, B1, K2, z2⟩ := wI_ex (J := J) (R := R) (p := 1) (v := q) (k := 1) hj ho T1 (by decide) rfl (by decide)
  obtain ⟨t3, W2, T3, A2, B2, K3, z3⟩ := wI_ex (J := J) (R := R) (p := 2) (v := r) (k := 2) hj ho T2 (by decide) rfl (by decide)
  refine ⟨t3, by rw [W, W0, W1, W2], T3, fun k hk => ?_, K0.trans (K1.trans (K2.trans K3)), by rw [z3, z2, z1, z0]⟩
  rcases (show k = 0 ∨ k = 1 ∨ k = 2 by omega) with rfl | rfl | rfl
  · rw [B2 0 (by decide), B1 0 (by decide), A0]; rfl
  · rw [B2 1 (by decide), A1]; rfl
  · rw [A2]; rfl
theorem x_bestMix {q : Int32} (h : Cx φ T I R (mZ τ) e0 nS nL cS cL mx cB bl n) (hp : 0 ≤ p ∧ p ≤ 9) (hq : 0 ≤ q ∧ q ≤ 9) (hr : 0 ≤ r ∧ r ≤ 9) : f_X4_bestMix (φ 0) p q r (pt φ T I R τ) = some (.inl (BM I (n3 p q r) nL), pt φ T I R τ) := by
  have hN := h.m.2.2.2.2.1
  have L := x_iL (ne := n3 p q r) h nL 0 (-1, 0) 40 (by omega) (by omega) (Or.inl rfl)
  have k0 : KW ((-1 : Int32), (0 : Int32)) = 100000000 := if_pos rfl
  rw [k0] at L
  rw [f_X4_bestMix, b_X4_bestMix_0, x_req _ hp.1 hp.2, cx1_s, x_req _ hq.1 hq.2, cx1_s, x_req _ hr.1 hr.2, cx1_s]
  exact L
theorem m_noNote (σ : Mem) (h : 0 ≤ p ∧ p ≤ 9) : f_X8_isNoNote p σ = some (0, σ) := by
  simp (config := {decide := true}) only [b_X8_isNoNote_15, b_X8_isNoNote_0, f_X8_isNoNote, m_isIn _ h.1 h.2, bo, cl1_s, ii0, ii1, ii2, ii3, ii4, if_true, if_false, ne_eq, not_false_eq_true, not_true_eq_false, true_and, and_true, false_and, and_false, and_self, true_or, or_true, false_or, or_false, or_self, Nat.reduceAdd, Nat.reduceLT, Nat.reduceLeDiff, Nat.succ_ne_zero, reduceIte, reduceCtorEq]
theorem m_noNoteN (σ : Mem) (h : ¬ (0 ≤ p ∧ p ≤ 9)) : f_X8_isNoNote p σ = some (1, σ) := by
  simp (config := {decide := true}) only [b_X8_isNoNote_15, b_X8_isNoNote_0, f_X8_isNoNote, m_isInN _ h, bo, cl1_s, ii0, ii1, ii2, ii3, ii4, if_true, if_false, ne_eq, not_false_eq_true, not_true_eq_false, true_and, and_true, false_and, and_false, and_self, true_or, or_true, false_or, or_false, or_self, Nat.reduceAdd, Nat.reduceLT, Nat.reduceLeDiff, Nat.succ_ne_zero, reduceIte, reduceCtorEq]
theorem op_bestMix {x m o : Nat} {σ : Mem} (p q r : Int32) (h : Jn e0 x m o n σ) : Agr e0 x m o n (f_L_bestMix (some x) p q r (some o) σ) (fun σ => f_X8_bestMix m p q r σ) := by
  obtain ⟨φ, T, I, R, τ, nS, nL, cS, cL, mx, cB, bl, rfl, ⟨rfl, rfl, rfl⟩, h⟩ := h
  have h : Cx φ T I R (mZ τ) e0 nS nL cS cL mx cB bl n := h
  have hj := h.hj
  have h0 := h.m.1
  have hx0 := h.m.2.2.2.2.2.2.2
  have h132 := h.m.2.2.2.2.2.2.1
  by_cases hp : 0 ≤ p ∧ p ≤ 9
  · by_cases hq : 0 ≤ q ∧ q ≤ 9
    · by_cases hr : 0 ≤ r ∧ r ≤ 9
      · have X := x_bestMix h hp hq hr
        obtain ⟨v, hv⟩ : ∃ v, v = BM I (n3 p q r) nL := ⟨_, rfl⟩
        obtain ⟨τ', e1, e2, e3, e4, e5⟩ := m_arr3 (p := p) (q := q) (r := r) (J := up2 I 124 0 0) (R := R) (τ1 := sJ τ (φ 132) 0 v.toInt64) (K := fun σ10 r7 => ob 10 σ10 (some (φ 124)) fun h13 => cl1 (f_X8_bestMixNow h13 r7 σ10) fun v11 σ12 => b_X8_bestMix_57 v11 σ12) hj (h.offZ (Nat.le_refl _))
        have M := m_bestMixNow (J := up2 I 124 0 0) (R := R) (τ1 := τ') (a := mZ (sJ τ (φ 132) 0 v.toInt64)) h (Nat.le_refl _) (fun v hv => up2_row (by omega)) e2 e3
        rw [← hv] at X M
        refine Agr.val (v := v) (τ' := τ') h e4.1 ((congrFun (e4.2 _ h.out).2.2.1 0).trans sJ_at) ?_ ?_
        · simp (config := {decide := true}) only [f_L_bestMix, b_L_bestMix_0, X, gI_pt hj, gR_pt hj, ob_pt hj, ck_pt hj, pI_pt hj, pB_pt hj, pR_pt hj, aI_pt hj, aR_pt hj, wI_pt hj, wJ_pt hj, aL_pt hj, cl1_s, cl1_n, cl1_i, cx1_s, cx1_x, cx1_n, cx1_i, nul_n, nul_s, nm, dv2, dv3, dv4, dv5, dv8, dv10, dv20, dv40, thr, bo, mI_pt hj, mT_pt hj, sB_pt, mZ_pt, mJ_pt, mJ_sJ, mZ_sJ, tn0, tn1, tn2, tn3, tn4, tn5, tn6, hx0, h132, ii0, ii1, ii2, ii3, ii4, if_true, if_false, ne_eq, not_false_eq_true, not_true_eq_false, true_and, and_true, false_and, and_false, and_self, true_or, or_true, false_or, or_false, or_self, Nat.reduceAdd, Nat.reduceLT, Nat.reduceLeDiff, Nat.succ_ne_zero, reduceIte, reduceCtorEq]
        · show f_X8_bestMix _ _ _ _ _ = _
          rw [f_X8_bestMix, b_X8_bestMix_0, m_noNote _ hp, cl1_s, if_pos rfl, m_noNote _ hq, cl1_s, if_pos rfl, m_noNote _ hr, cl1_s, if_pos rfl, b_X8_bestMix_27, ob_pt hj (by rw [h0]), m_start0 hj h0, cl1_s, if_pos rfl, e1, ob_pt hj (by rw [h0]), M, cl1_s, b_X8_bestMix_57]
      · refine Agr.bad (k := 1) (b := 0) h (by decide) ?_ ?_
        · simp (config := {decide := true}) only [f_L_bestMix, b_L_bestMix_0, f_X4_bestMix, b_X4_bestMix_0, x_req _ hp.1 hp.2, x_req _ hq.1 hq.2, x_reqN _ hr, gI_pt hj, gR_pt hj, ob_pt hj, ck_pt hj, pI_pt hj, pB_pt hj, pR_pt hj, aI_pt hj, aR_pt hj, wI_pt hj, wJ_pt hj, aL_pt hj, cl1_s, cl1_n, cl1_i, cx1_s, cx1_x, cx1_n, cx1_i, nul_n, nul_s, nm, dv2, dv3, dv4, dv5, dv8, dv10, dv20, dv40, thr, bo, mI_pt hj, mT_pt hj, sB_pt, mZ_pt, mJ_pt, mJ_sJ, mZ_sJ, tn0, tn1, tn2, tn3, tn4, tn5, tn6, hx0, ii0, ii1, ii2, ii3, ii4, if_true, if_false, ne_eq, not_false_eq_true, not_true_eq_false, true_and, and_true, false_and, and_false, and_self, true_or, or_true, false_or, or_false, or_self, Nat.reduceAdd, Nat.reduceLT, Nat.reduceLeDiff, Nat.succ_ne_zero, reduceIte, reduceCtorEq]
        · simp (config := {decide := true}) only [f_X8_bestMix, b_X8_bestMix_0, b_X8_bestMix_22, b_X8_bestMix_27, b_X8_bestMix_57, m_noNote _ hp, m_noNote _ hq, m_noNoteN _ hr, m_start1 hj h0 (show ¬ (1 : Int32) ≤ 0 by decide), gI_pt hj, gR_pt hj, ob_pt hj, ck_pt hj, pI_pt hj, pB_pt hj, pR_pt hj, aI_pt hj, aR_pt hj, wI_pt hj, wJ_pt hj, aL_pt hj, cl1_s, cl1_n, cl1_i, cx1_s, cx1_x, cx1_n, cx1_i, nul_n, nul_s, nm, dv2, dv3, dv4, dv5, dv8, dv10, dv20, dv40, thr, bo, mI_pt hj, mT_pt hj, sB_pt, mZ_pt, mJ_pt, mJ_sJ, mZ_sJ, tn0, tn1, tn2, tn3, tn4, tn5, tn6, h0, ii0, ii1, ii2, ii3, ii4, if_true, if_false, ne_eq, not_false_eq_true, not_true_eq_false, true_and, and_true, false_and, and_false, and_self, true_or, or_true, false_or, or_false, or_self, Nat.reduceAdd, Nat.reduceLT, Nat.reduceLeDiff, Nat.succ_ne_zero, reduceIte, reduceCtorEq]
    · refine Agr.bad (k := 1) (b := 0) h (by decide) ?_ ?_
      · simp (config := {decide := true}) only [f_L_bestMix, b_L_bestMix_0, f_X4_bestMix, b_X4_bestMix_0, x_req _ hp.1 hp.2, x_reqN _ hq, gI_pt hj, gR_pt hj, ob_pt hj, ck_pt hj, pI_pt hj, pB_pt hj, pR_pt hj, aI_pt hj, aR_pt hj, wI_pt hj, wJ_pt hj, aL_pt hj, cl1_s, cl1_n, cl1_i, cx1_s, cx1_x, cx1_n, cx1_i, nul_n, nul_s, nm, dv2, dv3, dv4, dv5, dv8, dv10, dv20, dv40, thr, bo, mI_pt hj, mT_pt hj, sB_pt, mZ_pt, mJ_pt, mJ_sJ, mZ_sJ, tn0, tn1, tn2, tn3, tn4, tn5, tn6, hx0, ii0, ii1, ii2, ii3, ii4, if_true, if_false, ne_eq, not_false_eq_true, not_true_eq_false, true_and, and_true, false_and, and_false, and_self, true_or, or_true, false_or, or_false, or_self, Nat.reduceAdd, Nat.reduceLT, Nat.reduceLeDiff, Nat.succ_ne_zero, reduceIte, reduceCtorEq]
      · simp (config := {decide := true}) only [f_X8_bestMix, b_X8_bestMix_0, b_X8_bestMix_22, b_X8_bestMix_27, b_X8_bestMix_57, m_noNote _ hp, m_noNoteN _ hq, m_start1 hj h0 (show ¬ (1 : Int32) ≤ 0 by decide), gI_pt hj, gR_pt hj, ob_pt hj, ck_pt hj, pI_pt hj, pB_pt hj, pR_pt hj, aI_pt hj, aR_pt hj, wI_pt hj, wJ_pt hj, aL_pt hj, cl1_s, cl1_n, cl1_i, cx1_s, cx1_x, cx1_n, cx1_i, nul_n, nul_s, nm, dv2, dv3, dv4, dv5, dv8, dv10, dv20, dv40, thr, bo, mI_pt hj, mT_pt hj, sB_pt, mZ_pt, mJ_pt, mJ_sJ, mZ_sJ, tn0, tn1, tn2, tn3, tn4, tn5, tn6, h0, ii0, ii1, ii2, ii3, ii4, if_true, if_false, ne_eq, not_false_eq_true, not_true_eq_false, true_and, and_true, false_and, and_false, and_self, true_or, or_true, false_or, or_false, or_self, Nat.reduceAdd, Nat.reduceLT, Nat.reduceLeDiff, Nat.succ_ne_zero, reduceIte, reduceCtorEq]
  · refine Agr.bad (k := 1) (b := 0) h (by decide) ?_ ?_
    · simp (config := {decide := true}) only [f_L_bestMix, b_L_bestMix_0, f_X4_bestMix, b_X4_bestMix_0, x_reqN _ hp, gI_pt hj, gR_pt hj, ob_pt hj, ck_pt hj, pI_pt hj, pB_pt hj, pR_pt hj, aI_pt hj, aR_pt hj, wI_pt hj, wJ_pt hj, aL_pt hj, cl1_s, cl1_n, cl1_i, cx1_s, cx1_x, cx1_n, cx1_i, nul_n, nul_s, nm, dv2, dv3, dv4, dv5, dv8, dv10, dv20, dv40, thr, bo, mI_pt hj, mT_pt hj, sB_pt, mZ_pt, mJ_pt, mJ_sJ, mZ_sJ, tn0, tn1, tn2, tn3, tn4, tn5, tn6, hx0, ii0, ii1, ii2, ii3, ii4, if_true, if_false, ne_eq, not_false_eq_true, not_true_eq_false, true_and, and_true, false_and, and_false, and_self, true_or, or_true, false_or, or_false, or_self, Nat.reduceAdd, Nat.reduceLT, Nat.reduceLeDiff, Nat.succ_ne_zero, reduceIte, reduceCtorEq]
    · simp (config := {decide := true}) only [f_X8_bestMix, b_X8_bestMix_0, b_X8_bestMix_22, b_X8_bestMix_27, b_X8_bestMix_57, m_noNoteN _ hp, m_start1 hj h0 (show ¬ (1 : Int32) ≤ 0 by decide), gI_pt hj, gR_pt hj, ob_pt hj, ck_pt hj, pI_pt hj, pB_pt hj, pR_pt hj, aI_pt hj, aR_pt hj, wI_pt hj, wJ_pt hj, aL_pt hj, cl1_s, cl1_n, cl1_i, cx1_s, cx1_x, cx1_n, cx1_i, nul_n, nul_s, nm, dv2, dv3, dv4, dv5, dv8, dv10, dv20, dv40, thr, bo, mI_pt hj, mT_pt hj, sB_pt, mZ_pt, mJ_pt, mJ_sJ, mZ_sJ, tn0, tn1, tn2, tn3, tn4, tn5, tn6, h0, ii0, ii1, ii2, ii3, ii4, if_true, if_false, ne_eq, not_false_eq_true, not_true_eq_false, true_and, and_true, false_and, and_false, and_self, true_or, or_true, false_or, or_false, or_self, Nat.reduceAdd, Nat.reduceLT, Nat.reduceLeDiff, Nat.succ_ne_zero, reduceIte, reduceCtorEq]
end BY
