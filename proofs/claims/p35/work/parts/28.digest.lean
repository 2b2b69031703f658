/-! BESTMIX -/
section BX
variable {φ : Nat → Nat} {T : Nat → Nat × Nat} {I J : Nat → Nat → Int32} {R : Nat → Nat → Option Nat} {τ : Mem} {nS nL n z : Nat}
variable {a b q k i j : Nat} {p r w e : Int32} {τ0 τ1 : Mem} {x y ne : Nat → Int32}
def tS (x y : Nat → Int32) (t k : Nat) : Int32 := Int32.ofNat t * x k + (10 - Int32.ofNat t) * y k
def tSum (x y : Nat → Int32) (t : Nat) : Int32 := tS x y t 0 + tS x y t 1 + tS x y t 2
abbrev okT (x y ne : Nat → Int32) (t : Nat) : Prop := ¬ tS x y t 0 / 10 < ne 0 ∧ ¬ tS x y t 1 / 10 < ne 1 ∧ ¬ tS x y t 2 / 10 < ne 2
def mnI (a b : Int32) : Int32 := if a < b then a else b
def lsW (x y ne : Nat → Int32) (c0 : Int32) : Nat → Nat → Int32 → Int32
  | 0, _, L => L
  | m + 1, t, L => lsW x y ne c0 m (t + 1) (if okT x y ne t then mnI (tSum x y t * 100000 + c0 + Int32.ofNat t) L else L)
def mxW (x y ne : Nat → Int32) (c0 : Int32) : Nat → Nat → Int32 × Int32 → Int32 × Int32
  | 0, _, p => p
  | m + 1, t, p => mxW x y ne c0 m (t + 1) (if okT x y ne t then (if p.1 = -1 ∨ tSum x y t < p.2 then (c0 + Int32.ofNat t, tSum x y t) else p) else p)
def KW (p : Int32 × Int32) : Int32 := if p.1 = -1 then 100000000 else p.2 * 100000 + p.1
def GW (lim : Nat) (p : Int32 × Int32) : Prop := p.1 = -1 ∨ (0 ≤ p.1.toInt ∧ p.1.toInt < lim ∧ 0 ≤ p.2.toInt ∧ p.2.toInt ≤ 270)
theorem GW.le {l l' : Nat} {p : Int32 × Int32} (h : GW l p) (hl : l ≤ l') : GW l' p := by
  rcases h with h | ⟨h1, h2, h3, h4⟩
  · exact Or.inl h
  · exact Or.inr ⟨h1, by omega, h3, h4⟩
theorem tS_b (hx : ∀ k, k < 3 → 0 ≤ (x k).toInt ∧ (x k).toInt ≤ 9) (hy : ∀ k, k < 3 → 0 ≤ (y k).toInt ∧ (y k).toInt ≤ 9) {t : Nat} (ht : t ≤ 9) (hk : k < 3) : 0 ≤ (tS x y t k).toInt ∧ (tS x y t k).toInt ≤ 90 := by
  have z10 : (10 : Int32).toInt = 10 := rfl
  have eT := kN_t (a := t) (by omega)
  have e0 : ((10 : Int32) - Int32.ofNat t).toInt = 10 - t := by rw [tSub (by omega) (by omega), z10, eT]
  obtain ⟨a1, a2⟩ := hx k hk
  obtain ⟨b1, b2⟩ := hy k hk
  have m1 : (t : Int) * (x k).toInt ≤ t * 9 := Int.mul_le_mul_of_nonneg_left a2 (by omega)
  have m2 : 0 ≤ (t : Int) * (x k).toInt := Int.mul_nonneg (by omega) a1
  have m3 : (10 - (t : Int)) * (y k).toInt ≤ (10 - t) * 9 := Int.mul_le_mul_of_nonneg_left b2 (by omega)
  have m4 : 0 ≤ (10 - (t : Int)) * (y k).toInt := Int.mul_nonneg (by omega) b1
  have e1 : (Int32.ofNat t * x k).toInt = t * (x k).toInt := by rw [tMul (by rw [eT]; omega) (by rw [eT]; omega), eT]
  have e2 : ((10 - Int32.ofNat t) * y k).toInt = (10 - t) * (y k).toInt := by rw [tMul (by rw [e0]; omega) (by rw [e0]; omega), e0]
  unfold tS
  rw [tAdd (by omega) (by omega), e1, e2]; omega
theorem tSum_b (hx : ∀ k, k < 3 → 0 ≤ (x k).toInt ∧ (x k).toInt ≤ 9) (hy : ∀ k, k < 3 → 0 ≤ (y k).toInt ∧ (y k).toInt ≤ 9) {t : Nat} (ht : t ≤ 9) : 0 ≤ (tSum x y t).toInt ∧ (tSum x y t).toInt ≤ 270 := by
  have h0 := tS_b hx hy ht (k := 0) (by decide)
  have h1 := tS_b hx hy ht (k := 1) (by decide)
  have h2 := tS_b hx hy ht (k := 2) (by decide)
  have e1 : (tS x y t 0 + tS x y t 1).toInt = (tS x y t 0).toInt + (tS x y t 1).toInt := tAdd (by omega) (by omega)
  unfold tSum
  rw [tAdd (by omega) (by omega), e1]; omega
theorem KW_t {l : Nat} {p : Int32 × Int32} (h : GW l p) (hl : l ≤ 20000) : (p.1 = -1 ∧ (KW p).toInt = 100000000) ∨ (p.1 ≠ -1 ∧ (KW p).toInt = p.2.toInt * 100000 + p.1.toInt) := by
  have zc : (100000 : Int32).toInt = 100000 := rfl
  rcases h with h | ⟨h1, h2, h3, h4⟩
  · exact Or.inl ⟨h, by unfold KW; rw [if_pos h]; rfl⟩
  · have hn : p.1 ≠ -1 := fun y => by rw [y] at h1; revert h1; decide
    refine Or.inr ⟨hn, ?_⟩
    unfold KW; rw [if_neg hn]
    have e1 : (p.2 * 100000).toInt = p.2.toInt * 100000 := by rw [tMul (by rw [zc]; omega) (by rw [zc]; omega), zc]
    rw [tAdd (by omega) (by omega), e1]
theorem mnI_t (a b : Int32) : (mnI a b).toInt = if a.toInt < b.toInt then a.toInt else b.toInt := by
  unfold mnI
  by_cases h : a < b
  · rw [if_pos h, if_pos (ltT h)]
  · rw [if_neg h, if_neg (fun y => h (Int32.lt_iff_toInt_lt.mpr y))]
theorem stW {c0 s : Int32} {t cN : Nat} {p : Int32 × Int32} (h : GW (cN + t) p) (hc : c0 = Int32.ofNat cN) (hl : cN + t < 19000) (hs : 0 ≤ s.toInt ∧ s.toInt ≤ 270) : KW (if p.1 = -1 ∨ s < p.2 then (c0 + Int32.ofNat t, s) else p) = mnI (s * 100000 + c0 + Int32.ofNat t) (KW p) ∧ GW (cN + (t + 1)) (if p.1 = -1 ∨ s < p.2 then (c0 + Int32.ofNat t, s) else p) := by
  have zc : (100000 : Int32).toInt = 100000 := rfl
  have eC : (c0 + Int32.ofNat t).toInt = cN + t := by
    rw [hc, ← Int32.ofNat_add, kN_t (by omega)]; omega
  have nC : GW (cN + (t + 1)) (c0 + Int32.ofNat t, s) := Or.inr ⟨by show 0 ≤ (c0 + Int32.ofNat t).toInt; omega, by show (c0 + Int32.ofNat t).toInt < _; omega, hs.1, hs.2⟩
  have nE := KW_t nC (by omega)
  have n1 : c0 + Int32.ofNat t ≠ -1 := fun y => by rw [y] at eC; have : ((-1 : Int32)).toInt = -1 := rfl; omega
  have kE : KW (c0 + Int32.ofNat t, s) = s * 100000 + c0 + Int32.ofNat t := by
    unfold KW; rw [if_neg n1, ← Int32.add_assoc]
  have kT : (KW (c0 + Int32.ofNat t, s)).toInt = s.toInt * 100000 + (cN + t) := by
    rcases nE with ⟨q, _⟩ | ⟨_, q⟩
    · exact absurd q n1
    · rw [q]; show _ * _ + (c0 + Int32.ofNat t).toInt = _; rw [eC]
  rw [← kE]
  have hK := KW_t h (by omega)
  by_cases c : p.1 = -1 ∨ s < p.2
  · rw [if_pos c]
    refine ⟨Int32.toInt_inj.mp ?_, nC⟩
    rw [mnI_t, if_pos ?_]
    rcases hK with ⟨q1, q2⟩ | ⟨q1, q2⟩
    · omega
    · rcases h with h | ⟨h1, h2, h3, h4⟩
      · exact absurd h q1
      · rcases c with c | c
        · exact absurd c q1
        · have := ltT c; omega
  · rw [if_neg c]
    refine ⟨Int32.toInt_inj.mp ?_, h.le (by omega)⟩
    rw [mnI_t, if_neg ?_]
    rcases hK with ⟨q1, q2⟩ | ⟨q1, q2⟩
    · exact absurd (Or.inl q1) c
    · rcases h with h | ⟨h1, h2, h3, h4⟩
      · exact absurd h q1
      · have : ¬ s.toInt < p.2.toInt := fun y => c (Or.inr (Int32.lt_iff_toInt_lt.mpr y))
        omega
theorem walkW {c0 : Int32} {cN : Nat} (hc : c0 = Int32.ofNat cN) (hx : ∀ k, k < 3 → 0 ≤ (x k).toInt ∧ (x k).toInt ≤ 9) (hy : ∀ k, k < 3 → 0 ≤ (y k).toInt ∧ (y k).toInt ≤ 9) (hl : cN < 18000) (W : Int32) : ∀ m t (L : Int32) (p : Int32 × Int32), t + m = 10 → GW (cN + t) p → KW p = mnI L W → KW (mxW x y ne c0 m t p) = mnI (lsW x y ne c0 m t L) W ∧ GW (cN + 10) (mxW x y ne c0 m t p) := by
  intro m
  induction m with
  | zero => intro t L p ht hG hK; exact ⟨hK, hG.le (by omega)⟩
  | succ m ih =>
    intro t L p ht hG hK
    rw [mxW, lsW]
    by_cases c : okT x y ne t
    · rw [if_pos c, if_pos c]
      have ST := stW hG hc (by omega) (tSum_b hx hy (t := t) (by omega))
      refine ih (t + 1) _ _ (by omega) ST.2 ?_
      rw [ST.1, hK]
      refine Int32.toInt_inj.mp ?_
      simp only [mnI_t]
      repeat' split
      all_goals omega
    · rw [if_neg c, if_neg c]
      exact ih (t + 1) _ _ (by omega) (hG.le (by omega)) hK
abbrev freeI (I : Nat → Nat → Int32) (i : Nat) : Prop := I (6 * i + 19) 0 = 2 ∧ I (6 * i + 22) 0 ≤ 0
def c0W (i j : Nat) : Int32 := 1000 * Int32.ofNat i + 10 * Int32.ofNat j
theorem c0W_e (i j : Nat) : c0W i j = Int32.ofNat (1000 * i + 10 * j) := by
  unfold c0W
  rw [Int32.ofNat_add, Int32.ofNat_mul, Int32.ofNat_mul]; rfl
def jW (I : Nat → Nat → Int32) (ne : Nat → Int32) (i : Nat) : Nat → Nat → Int32 × Int32 → Int32 × Int32
  | 0, _, p => p
  | d + 1, j, p => jW I ne i d (j + 1) (if freeI I i ∧ freeI I j then mxW (NV I i) (NV I j) ne (c0W i j) 9 1 p else p)
def iW (I : Nat → Nat → Int32) (ne : Nat → Int32) (nL : Nat) : Nat → Nat → Int32 × Int32 → Int32 × Int32
  | 0, _, p => p
  | d + 1, i, p => iW I ne nL d (i + 1) (jW I ne i (nL - (i + 1)) (i + 1) p)
theorem pairW (h : Cx φ T I R (mZ τ) nS nL n) (hi : i < nL) (hj : j < nL) {p : Int32 × Int32} (hG : GW (1000 * i + 10 * j) p) : KW (mxW (NV I i) (NV I j) ne (c0W i j) 9 1 p) = mnI (lsW (NV I i) (NV I j) ne (c0W i j) 9 1 100000000) (KW p) ∧ GW (1000 * i + 10 * (j + 1)) (mxW (NV I i) (NV I j) ne (c0W i j) 9 1 p) := by
  have hN := h.m.2.2.2.2.1
  have hK : KW p = mnI 100000000 (KW p) := by
    refine Int32.toInt_inj.mp ?_
    have z : (100000000 : Int32).toInt = 100000000 := rfl
    rw [mnI_t, z]
    rcases KW_t hG (by omega) with ⟨q1, q2⟩ | ⟨q1, q2⟩
    · rw [q2]; rfl
    · rw [if_neg]
      rcases hG with hG | ⟨h1, h2, h3, h4⟩
      · exact absurd hG q1
      · omega
  exact walkW (c0W_e i j) (fun k hk => NV_b h hi hk) (fun k hk => NV_b h hj hk) (by omega) (KW p) 9 1 100000000 p (by omega) (hG.le (by omega)) hK
theorem x_lsL (σ : Mem) (c0 : Int32) : ∀ m t L fl, t + m = 10 → m + 1 ≤ fl → l_X4_leastMix_50 fl c0 (ne 0) (ne 1) (ne 2) (x 0) (x 1) (x 2) (y 0) (y 1) (y 2) L (Int32.ofNat t) σ = some (lsW x y ne c0 m t L, σ) := by
  intro m
  induction m with
  | zero =>
    intro t L fl h1 h2
    obtain ⟨fl', rfl⟩ : ∃ x, fl = x + 1 := ⟨fl - 1, by omega⟩
    have c1 : (9 : Int32) < Int32.ofNat t := (kN_lt (a := 9) (by omega) (by omega)).mpr (by omega)
    rw [l_X4_leastMix_50, itr_succ, b_X4_leastMix_50, if_pos c1]; rfl
  | succ m ih =>
    intro t L fl h1 h2
    obtain ⟨fl', rfl⟩ : ∃ x, fl = x + 1 := ⟨fl - 1, by omega⟩
    have c1 : ¬ (9 : Int32) < Int32.ofNat t := by
      rw [show (9 : Int32) = Int32.ofNat 9 from rfl, kN_lt (by omega) (by omega)]; omega
    have IH := fun L => ih (t + 1) L fl' (by omega) (by omega)
    rw [l_X4_leastMix_50, itr_succ, b_X4_leastMix_50, if_neg c1, lsW]
    simp only [nm, b_X4_leastMix_162, dv10, kN_s]
    show (if tS x y t 0 / 10 < ne 0 then _ else if tS x y t 1 / 10 < ne 1 then _ else if tS x y t 2 / 10 < ne 2 then _ else _) = _
    by_cases d0 : tS x y t 0 / 10 < ne 0
    · rw [if_pos d0, if_neg (fun y => y.1 d0)]; exact IH L
    · rw [if_neg d0]
      by_cases d1 : tS x y t 1 / 10 < ne 1
      · rw [if_pos d1, if_neg (fun y => y.2.1 d1)]; exact IH L
      · rw [if_neg d1]
        by_cases d2 : tS x y t 2 / 10 < ne 2
        · rw [if_pos d2, if_neg (fun y => y.2.2 d2)]; exact IH L
        · rw [if_neg d2, if_pos (show okT x y ne t from ⟨d0, d1, d2⟩)]; exact IH _
theorem x_least (h : Cx φ T I R (mZ τ) nS nL n) (hi : i < 17) (hj7 : j < 17) (c0 : Int32) : f_X4_leastMix c0 (some (φ (6 * i + 19))) (some (φ (6 * j + 19))) (ne 0) (ne 1) (ne 2) (pt φ T I R τ) = some (lsW (NV I i) (NV I j) ne c0 9 1 100000000, pt φ T I R τ) := by
  have hj := h.hj
  have t1 : (T (6 * i + 19)).1 = 1 + 1 := by rw [h.t4 hi]
  have t2 : (T (6 * j + 19)).1 = 1 + 1 := by rw [h.t4 hj7]
  have A0 : f_X1_noteOf (φ (6 * i + 19)) 0 (pt φ T I R τ) = some (NV I i 0, pt φ T I R τ) := x_noteC (k := 0) h hi (by decide)
  have A1 : f_X1_noteOf (φ (6 * i + 19)) 1 (pt φ T I R τ) = some (NV I i 1, pt φ T I R τ) := x_noteC (k := 1) h hi (by decide)
  have A2 : f_X1_noteOf (φ (6 * i + 19)) 2 (pt φ T I R τ) = some (NV I i 2, pt φ T I R τ) := x_noteC (k := 2) h hi (by decide)
  have B0 : f_X1_noteOf (φ (6 * j + 19)) 0 (pt φ T I R τ) = some (NV I j 0, pt φ T I R τ) := x_noteC (k := 0) h hj7 (by decide)
  have B1 : f_X1_noteOf (φ (6 * j + 19)) 1 (pt φ T I R τ) = some (NV I j 1, pt φ T I R τ) := x_noteC (k := 1) h hj7 (by decide)
  have B2 : f_X1_noteOf (φ (6 * j + 19)) 2 (pt φ T I R τ) = some (NV I j 2, pt φ T I R τ) := x_noteC (k := 2) h hj7 (by decide)
  rw [f_X4_leastMix, b_X4_leastMix_0, ob_pt hj t1, A0, cl1_s, ob_pt hj t1, A1, cl1_s, ob_pt hj t1, A2, cl1_s, ob_pt hj t2, B0, cl1_s, ob_pt hj t2, B1, cl1_s, ob_pt hj t2, B2, cl1_s]
  exact x_lsL _ _ 9 1 100000000 40 (by omega) (by omega)
theorem jW_K (h : Cx φ T I R (mZ τ) nS nL n) (hi : i < nL) : ∀ d j p, j + d = nL → GW (1000 * i + 10 * j) p → GW (1000 * i + 10 * (j + d)) (jW I ne i d j p) := by
  intro d
  induction d with
  | zero => intro j p _ hG; exact hG
  | succ d ih =>
    intro j p hd hG
    rw [jW, show j + (d + 1) = j + 1 + d by omega]
    refine ih (j + 1) _ (by omega) ?_
    split
    · exact (pairW h hi (by omega) hG).2
    · exact hG.le (by omega)
theorem x_jL (h : Cx φ T I R (mZ τ) nS nL n) (hi : i < nL) {k29 : Nat → Int32 → Int32 → Int32 → Int32 → Int32 → Mem → Option (Int32 × Mem)} : ∀ d j p fl, j + d = nL → d + 1 ≤ fl → GW (1000 * i + 10 * j) p → l_X4_bestMix_44 k29 fl (φ 0) (ne 0) (ne 1) (ne 2) (KW p) (Int32.ofNat i) (Int32.ofNat j) (pt φ T I R τ) = k29 (φ 0) (ne 0) (ne 1) (ne 2) (KW (jW I ne i d j p)) (Int32.ofNat (i + 1)) (pt φ T I R τ) := by
  have hj := h.hj
  have hN := h.m.2.2.2.2.1
  obtain ⟨x0, x4, x3, xa⟩ : T 0 = (5, 0) ∧ I 0 4 = Int32.ofNat nL ∧ R 0 3 = some (φ 2) ∧ T 2 = (101, 16) := by
    obtain ⟨hj, hl, hx, ⟨hm22, hm23⟩, hr⟩ := h; obtain ⟨hx0, hx1, hx2, hx3, hx4, hx5, hx6, hx7, hx8, hx9, hx10, hx11, hx12, hx13, hx14, hx15, hx16, hx17, hx18, hx19, hx20, hx21, hx22, hx23, hx24, hx25, hx26, hx27⟩ := hx; obtain ⟨⟨g1, g2⟩, r1, r2, r3, r4, r5, r6, r7⟩ := hr
    exact ⟨hx0, g2, hx2, hx7⟩
  have GL : ∀ {K : Option Nat → Option (Int32 × Mem)} (j : Nat), j < nL → aR 1 (pt φ T I R τ) (some (φ 2)) (Int32.ofNat j) K = K (some (φ (6 * j + 19))) := by
    intro K j hjn
    have R2 : R 2 j = some (φ (6 * j + 19)) := by
      obtain ⟨hj, hl, hx, ⟨hm22, hm23⟩, hr⟩ := h; obtain ⟨hx0, hx1, hx2, hx3, hx4, hx5, hx6, hx7, hx8, hx9, hx10, hx11, hx12, hx13, hx14, hx15, hx16, hx17, hx18, hx19, hx20, hx21, hx22, hx23, hx24, hx25, hx26, hx27⟩ := hx; obtain ⟨⟨g1, g2⟩, r1, r2, r3, r4, r5, r6, r7⟩ := hr
      exact hx14 j (by omega)
    rw [aR_pt hj (by rw [xa]) (kN_nn (by omega)) (by rw [xa, tnK (by omega)]; omega), tnK (by omega), R2]
  intro d
  induction d with
  | zero =>
    intro j p fl hd hf _
    obtain ⟨fl', rfl⟩ : ∃ x, fl = x + 1 := ⟨fl - 1, by omega⟩
    have c1 : Int32.ofNat nL ≤ Int32.ofNat j := (kN_le (by omega) (by omega)).mpr (by omega)
    rw [l_X4_bestMix_44, itr_succ, b_X4_bestMix_44, gI_pt hj (by rw [x0]), x4, if_pos c1, nm, kN_s]; rfl
  | succ d ih =>
    intro j p fl hd hf hG
    obtain ⟨fl', rfl⟩ : ∃ x, fl = x + 1 := ⟨fl - 1, by omega⟩
    have c1 : ¬ Int32.ofNat nL ≤ Int32.ofNat j := by rw [kN_le (by omega) (by omega)]; omega
    have IH := fun p hp => ih (j + 1) p fl' (by omega) (by omega) hp
    have t1 : (T (6 * i + 19)).1 = 1 + 1 := by rw [h.t4 (by omega)]
    have t2 : (T (6 * j + 19)).1 = 1 + 1 := by rw [h.t4 (by omega)]
    rw [l_X4_bestMix_44, itr_succ, b_X4_bestMix_44, gI_pt hj (by rw [x0]), x4, if_neg c1, gR_pt hj (by rw [x0]), x3, GL i hi, ob_pt hj t1, jW]
    rcases x_free (τ := τ) (h := h) (i := i) (by omega) with ⟨f1, f2, f3⟩ | ⟨f1, f3⟩
    · rw [f3, cl1_s, if_neg (by decide), gR_pt hj (by rw [x0]), x3, GL j (by omega), ob_pt hj t2]
      rcases x_free (τ := τ) (h := h) (i := j) (by omega) with ⟨g1, g2, g3⟩ | ⟨g1, g3⟩
      · have PW := pairW (ne := ne) h hi (show j < nL by omega) hG
        rw [g3, cl1_s, if_neg (by decide), nm, nm, nm, gR_pt hj (by rw [x0]), x3, GL i hi, gR_pt hj (by rw [x0]), x3, GL j (by omega), x_least h (by omega) (by omega), cl1_s, nm, b_X4_bestMix_122, nm, kN_s, if_pos (show freeI I i ∧ freeI I j from ⟨⟨f1, f2⟩, ⟨g1, g2⟩⟩)]
        rw [← IH _ PW.2, PW.1]; rfl
      · rw [g3, cl1_s, if_pos rfl, b_X4_bestMix_122, nm, kN_s, if_neg (fun y => g1 y.2)]
        exact IH p (hG.le (by omega))
    · rw [f3, cl1_s, if_pos rfl, b_X4_bestMix_122, nm, kN_s, if_neg (fun y => f1 y.1)]
      exact IH p (hG.le (by omega))
theorem rm_c {a b : Int32} {β : Type} {K : Int32 → Option β} (h : b ≠ 0) : rm a b K = K (a - a / b * b) := if_neg h
theorem KW_rm {p : Int32 × Int32} (h : GW 20000 p) (hn : p.1 ≠ -1) : KW p ≠ 100000000 ∧ KW p - KW p / 100000 * 100000 = p.1 := by
  have zc : (100000 : Int32).toInt = 100000 := rfl
  have z8 : (100000000 : Int32).toInt = 100000000 := rfl
  rcases KW_t h (by omega) with ⟨q1, q2⟩ | ⟨q1, q2⟩
  · exact absurd q1 hn
  rcases h with h | ⟨h1, h2, h3, h4⟩
  · exact absurd h q1
  refine ⟨fun y => by rw [y, z8] at q2; omega, Int32.toInt_inj.mp ?_⟩
  have e1 : (KW p / 100000).toInt = p.2.toInt := by
    rw [Int32.toInt_div, zc, Int.tdiv_eq_ediv_of_nonneg (by omega)]
    rw [Int.bmod_eq_of_le (by omega) (by omega)]; omega
  have e2 : (KW p / 100000 * 100000).toInt = p.2.toInt * 100000 := by rw [tMul (by rw [zc]; omega) (by rw [zc]; omega), e1, zc]
  rw [tSub (by omega) (by omega), e2, q2]; omega
theorem x_iL (h : Cx φ T I R (mZ τ) nS nL n) : ∀ d i p fl, i + d = nL → d + 1 ≤ fl → GW (1000 * i + 10 * (i + 1)) p → l_X4_bestMix_29 fl (φ 0) (ne 0) (ne 1) (ne 2) (KW p) (Int32.ofNat i) (pt φ T I R τ) = some ((iW I ne nL d i p).1, pt φ T I R τ) := by
  have hj := h.hj
  have hN := h.m.2.2.2.2.1
  obtain ⟨x0, x4⟩ : T 0 = (5, 0) ∧ I 0 4 = Int32.ofNat nL := by
    obtain ⟨hj, hl, hx, ⟨hm22, hm23⟩, hr⟩ := h; obtain ⟨hx0, hx1, hx2, hx3, hx4, hx5, hx6, hx7, hx8, hx9, hx10, hx11, hx12, hx13, hx14, hx15, hx16, hx17, hx18, hx19, hx20, hx21, hx22, hx23, hx24, hx25, hx26, hx27⟩ := hx; obtain ⟨⟨g1, g2⟩, r1, r2, r3, r4, r5, r6, r7⟩ := hr
    exact ⟨hx0, g2⟩
  intro d
  induction d with
  | zero =>
    intro i p fl hd hf hG
    obtain ⟨fl', rfl⟩ : ∃ x, fl = x + 1 := ⟨fl - 1, by omega⟩
    have c1 : Int32.ofNat nL ≤ Int32.ofNat i := (kN_le (by omega) (by omega)).mpr (by omega)
    rw [l_X4_bestMix_29, itr_succ, b_X4_bestMix_29, gI_pt hj (by rw [x0]), x4, if_pos c1]
    show _ = some (p.1, pt φ T I R τ)
    by_cases c2 : p.1 = -1
    · have : KW p = 100000000 := by unfold KW; rw [if_pos c2]
      rw [if_pos this, c2]; rfl
    · have K := KW_rm (hG.le (by omega)) c2
      rw [if_neg K.1, rm_c (by decide), K.2]; rfl
  | succ d ih =>
    intro i p fl hd hf hG
    obtain ⟨fl', rfl⟩ : ∃ x, fl = x + 1 := ⟨fl - 1, by omega⟩
    have c1 : ¬ Int32.ofNat nL ≤ Int32.ofNat i := by rw [kN_le (by omega) (by omega)]; omega
    have hi : i < nL := by omega
    rw [l_X4_bestMix_29, itr_succ, b_X4_bestMix_29, gI_pt hj (by rw [x0]), x4, if_neg c1, nm, kN_s, x_jL h hi (nL - (i + 1)) (i + 1) p 40 (by omega) (by omega) hG]
    exact ih (i + 1) _ fl' (by omega) (by omega) ((jW_K h hi (nL - (i + 1)) (i + 1) p (by omega) hG).le (by omega))
def BM (I : Nat → Nat → Int32) (ne : Nat → Int32) (nL : Nat) : Int32 := (iW I ne nL nL 0 (-1, 0)).1
def n3 (p q r : Int32) (k : Nat) : Int32 := if k = 0 then p else if k = 1 then q else r
theorem x_bestMix {q : Int32} (h : Cx φ T I R (mZ τ) nS nL n) (hp : 0 ≤ p ∧ p ≤ 9) (hq : 0 ≤ q ∧ q ≤ 9) (hr : 0 ≤ r ∧ r ≤ 9) : f_X4_bestMix (φ 0) p q r (pt φ T I R τ) = some ((BM I (n3 p q r) nL), pt φ T I R τ) := by
  have hN := h.m.2.2.2.2.1
  have L := x_iL (ne := n3 p q r) h nL 0 (-1, 0) 40 (by omega) (by omega) (Or.inl rfl)
  have k0 : KW ((-1 : Int32), (0 : Int32)) = 100000000 := if_pos rfl
  rw [k0] at L
  rw [f_X4_bestMix, b_X4_bestMix_0, x_req _ hp.1 hp.2, cl1_s, x_req _ hq.1 hq.2, cl1_s, x_req _ hr.1 hr.2, cl1_s]
  exact L
theorem iW_G (h : Cx φ T I R (mZ τ) nS nL n) : ∀ d i p, i + d = nL → GW (1000 * i + 10 * (i + 1)) p → GW 20000 (iW I ne nL d i p) := by
  have hN := h.m.2.2.2.2.1
  intro d
  induction d with
  | zero => intro i p hd hG; exact hG.le (by omega)
  | succ d ih =>
    intro i p hd hG
    rw [iW]
    refine ih (i + 1) _ (by omega) ?_
    have := jW_K (ne := ne) h (show i < nL by omega) (nL - (i + 1)) (i + 1) p (by omega) hG
    exact this.le (by omega)
theorem BM_b (h : Cx φ T I R (mZ τ) nS nL n) : -1 ≤ (BM I ne nL).toInt := by
  rcases iW_G (ne := ne) h nL 0 (-1, 0) (by omega) (Or.inl rfl) with e | ⟨e, -⟩
  · show -1 ≤ ((iW I ne nL nL 0 (-1, 0)).1).toInt
    rw [e]; decide
  · show -1 ≤ ((iW I ne nL nL 0 (-1, 0)).1).toInt
    omega
end BX
/-! what is paid rests on few rows -/
section WC
variable {I I' : Nat → Nat → Int32} {i : Nat}
def Sm (I I' : Nat → Nat → Int32) (i : Nat) : Prop := I' (6 * i + 19) = I (6 * i + 19) ∧ I' (6 * i + 22) = I (6 * i + 22) ∧ I' (6 * i + 23) = I (6 * i + 23) ∧ I' (6 * i + 24) = I (6 * i + 24) ∧ I' 10 = I 10
theorem okB_c (h : Sm I I' i) (q : Nat) : okB I' i q = okB I i q := by
  obtain ⟨h1, h2, h3, h4, h5⟩ := h
  unfold okB; rw [h1, h2, h3, h5]
theorem ahB_c (h : Sm I I' i) (q w : Nat) : ahB I' i q w = ahB I i q w := by
  obtain ⟨h1, h2, h3, h4, h5⟩ := h
  unfold ahB; rw [h3, h4]
theorem wnV_c (h : Sm I I' i) : ∀ k, wnV I' i k = wnV I i k := by
  intro k
  induction k with
  | zero => rfl
  | succ k ih => rw [wnV, wnV, ih, okB_c h, ahB_c h]
theorem rvV_c (h : Sm I I' i) (j : Nat) : ∀ k, rvV I' i j k = rvV I i j k := by
  intro k
  induction k with
  | zero => rfl
  | succ k ih => rw [rvV, rvV, ih, okB_c h, h.2.2.1]
theorem prV_c (h : Sm I I' i) (j : Nat) : prV I' i j = prV I i j := by
  unfold prV; rw [rvV_c h, h.2.1, h.2.2.1]
theorem WV_c (h : Sm I I' i) : WV I' i = WV I i := by
  unfold WV; rw [wnV_c h, prV_c h, h.1]
end WC
/-! DIGEST -/
section D1
variable {φ : Nat → Nat} {T : Nat → Nat × Nat} {I J : Nat → Nat → Int32} {R : Nat → Nat → Option Nat} {τ : Mem} {nS nL n z : Nat}
variable {a b q k i j : Nat} {I' : Nat → Nat → Int32} {p r w e : Int32} {d : Int64} {τ0 τ1 : Mem} {x y ne : Nat → Int32}
def ad (d : Int64) (v : Int32) : Int64 := d * 31 + v.toInt64
def fo (f : Nat → Int32) : Nat → Nat → Int64 → Int64
  | 0, _, d => d
  | m + 1, k, d => fo f m (k + 1) (ad d (f k))
def vSI (I : Nat → Nat → Int32) (i k : Nat) : Int32 := vSec (I (2 * i + 11)) (I (2 * i + 12)) k
def vLI (I : Nat → Nat → Int32) (i k : Nat) : Int32 := vLot (I (6 * i + 19)) (I (6 * i + 20)) (I (6 * i + 22)) k
def bdV (I : Nat → Nat → Int32) (i w : Nat) : Int32 := if I (6 * i + 23) w ≤ 0 then -1 else I (6 * i + 23) w
def seD (I : Nat → Nat → Int32) : Nat → Nat → Int64 → Int64
  | 0, _, d => d
  | m + 1, i, d => seD I m (i + 1) (ad (fo (vSI I i) 11 0 d) (FI I i 3 2))
def loA (I : Nat → Nat → Int32) (i : Nat) (d : Int64) : Int64 := if I (6 * i + 19) 0 = 2 then fo (fun k => TV I (NV I i k)) 3 0 (fo (NV I i) 3 0 (fo (vLI I i) 18 0 d)) else fo (vLI I i) 18 0 d
def loB (I : Nat → Nat → Int32) (i : Nat) (d : Int64) : Int64 := if I (6 * i + 19) 0 = 1 then ad d (BFV I i) else d
def loC (I : Nat → Nat → Int32) (i : Nat) (d : Int64) : Int64 := if I (6 * i + 22) 0 ≤ 0 then d else fo (bdV I i) 4 0 (ad d (WV I i))
def loD (I : Nat → Nat → Int32) : Nat → Nat → Int64 → Int64
  | 0, _, d => d
  | m + 1, i, d => loD I m (i + 1) (loC I i (loB I i (loA I i d)))
def taD (I : Nat → Nat → Int32) : Nat → Nat → Int64 → Int64
  | 0, _, d => d
  | m + 1, j, d => taD I m (j + 1) (ad (ad d (gs (I (j + 3) 1) (I (j + 3) 2))) (I (j + 3) 2))
def DGV (I : Nat → Nat → Int32) (nS nL : Nat) : Int64 := ad (taD I 3 0 (loD I nL 0 (seD I nS 0 (fo (MV I nL) 15 0 5402)))) (BM I (n3 3 3 3) nL)
def T15 (I I' : Nat → Nat → Int32) : Prop := (∀ v, v ≠ 115 → I' v = I v) ∧ I' 115 9 = -1 ∧ I' 115 12 = 0
theorem T15.cx (h : Cx φ T I R z nS nL n) (e : T15 I I') : Cx φ T I' R z nS nL n := by
  have hN := h.m.2.2.2.2.1
  have hS4 := h.m.2.2.2.2.2.1
  obtain ⟨e2, e3, e4⟩ := e
  refine h.of (Nat.le_refl _) (h.2.2.2.2.same (Nat.le_refl _) hS4 hN ?_ (fun j hj => ?_) (fun j y1 y2 => ?_) (fun j hj => ?_) (fun j y1 y2 => ?_) (fun j hj => ?_) ?_)
  · rw [e2 0 (by omega)]; exact ⟨rfl, rfl, rfl, rfl⟩
  · rw [e2 (6 * j + 19) (by omega), e2 (6 * j + 20) (by omega), e2 (6 * j + 21) (by omega), e2 (6 * j + 22) (by omega), e2 (6 * j + 23) (by omega)]
    exact ⟨h.lr hj, rfl⟩
  · exact ⟨e2 _ (by omega), e2 _ (by omega), e2 _ (by omega), e2 _ (by omega), e2 _ (by omega)⟩
  · rw [e2 (2 * j + 11) (by omega), e2 (2 * j + 12) (by omega)]; exact h.sr hj
  · exact ⟨e2 _ (by omega), e2 _ (by omega)⟩
  · rw [e2 (j + 3) (by omega)]; exact h.tr hj
  · have := h.2.2.2.2.2.2.2.2.2.2.1
    exact ⟨e3.trans this.1.symm, e4.trans this.2.symm⟩
theorem T15.nv (e : T15 I I') (hi : i < 16) : NV I' i = NV I i := by
  funext k
  rw [NV, NV, e.1 _ (by omega), e.1 _ (by omega)]
theorem T15.tv (e : T15 I I') {x : Int32} : TV I' x = TV I x := by
  simp only [TV, tlV, e.1 (0 + 3) (by omega), e.1 (1 + 3) (by omega), e.1 (2 + 3) (by omega)]
theorem T15.vl (e : T15 I I') (hi : i < 16) : vLI I' i = vLI I i := by
  funext k
  rw [vLI, vLI, e.1 _ (by omega), e.1 _ (by omega), e.1 _ (by omega)]
theorem T15.bf (e : T15 I I') (hi : i < 16) : BFV I' i = BFV I i := by rw [BFV, BFV, e.1 _ (by omega)]
theorem T15.bd (e : T15 I I') (hi : i < 16) : bdV I' i = bdV I i := by
  funext k
  rw [bdV, bdV, e.1 _ (by omega)]
theorem T15.wv (e : T15 I I') (hi : i < 16) : WV I' i = WV I i := WV_c ⟨e.1 _ (by omega), e.1 _ (by omega), e.1 _ (by omega), e.1 _ (by omega), e.1 _ (by omega)⟩
theorem T15.jw (e : T15 I I') (hN : nL ≤ 16) (hi : i < 16) : ∀ m j p, j + m ≤ nL → jW I' ne i m j p = jW I ne i m j p := by
  intro m
  induction m with
  | zero => intro j p _; rfl
  | succ m ih =>
    intro j p hm
    rw [jW, jW, ih _ _ (by omega), e.nv hi, e.nv (show j < 16 by omega)]
    simp only [freeI, e.1 (6 * i + 19) (by omega), e.1 (6 * i + 22) (by omega), e.1 (6 * j + 19) (by omega), e.1 (6 * j + 22) (by omega)]
theorem T15.bm (e : T15 I I') (hN : nL ≤ 16) : BM I' ne nL = BM I ne nL := by
  have : ∀ m i p, i + m ≤ nL → iW I' ne nL m i p = iW I ne nL m i p := by
    intro m
    induction m with
    | zero => intro i p _; rfl
    | succ m ih => intro i p hm; rw [iW, iW, ih _ _ (by omega), e.jw hN (by omega) _ _ _ (by omega)]
  rw [BM, BM, this nL 0 _ (by omega)]
theorem x_dM (h : Cx φ T I R (mZ τ) nS nL n) : ∀ m k d fl, k + m = 15 → m + 1 ≤ fl → l_X4_digest_6 fl (φ 0) d (Int32.ofNat k) (pt φ T I R τ) = l_X4_digest_33 40 (φ 0) (fo (MV I nL) m k d) 0 (pt φ T I R τ) := by
  have hj := h.hj
  have q0 : (T 0).1 = 4 + 1 := by rw [h.m.2.2.2.2.2.2.2]
  intro m
  induction m with
  | zero =>
    intro k d fl h1 h2
    obtain ⟨fl', rfl⟩ : ∃ x, fl = x + 1 := ⟨fl - 1, by omega⟩
    have c1 : (14 : Int32) < Int32.ofNat k := (kN_lt (a := 14) (by omega) (by omega)).mpr (by omega)
    rw [l_X4_digest_6, itr_succ, b_X4_digest_6, if_pos c1]; rfl
  | succ m ih =>
    intro k d fl h1 h2
    obtain ⟨fl', rfl⟩ : ∃ x, fl = x + 1 := ⟨fl - 1, by omega⟩
    have c1 : ¬ (14 : Int32) < Int32.ofNat k := by rw [show (14 : Int32) = Int32.ofNat 14 from rfl, kN_lt (by omega) (by omega)]; omega
    rw [l_X4_digest_6, itr_succ, b_X4_digest_6, if_neg c1, nm, ob_pt hj q0, x_many h (by omega), cl1_s, nm, nm, nm, kN_s]
    exact ih (k + 1) _ fl' (by omega) (by omega)
theorem x_ofSecC (h : Cx φ T I R (mZ τ) nS nL n) (iS : i < nS) (hk : k ≤ 10) : f_X4_ofSection (φ 0) (Int32.ofNat i) (Int32.ofNat k) (pt φ T I R τ) = some ((vSI I i k), pt φ T I R τ) := by
  have hS := h.m.2.2.2.2.2.1
  have tn := tnK (k := i) (by omega)
  obtain ⟨hj, hl, hx, ⟨hm22, hm23⟩, hr⟩ := h; obtain ⟨hx0, hx1, hx2, hx3, hx4, hx5, hx6, hx7, hx8, hx9, hx10, hx11, hx12, hx13, hx14, hx15, hx16, hx17, hx18, hx19, hx20, hx21, hx22, hx23, hx24, hx25, hx26, hx27⟩ := hx; obtain ⟨⟨g1, g2⟩, r1, r2, r3, r4, r5, r6, r7⟩ := hr
  exact x_ofSec (w := 2 * i + 12) hj hx0 hx1 hx6 (by rw [tn]; exact hx10 i (by omega)) (hx11 i (by omega)) (hx12 i (by omega)) (hx13 i (by omega)) (kN_nn (by omega)) (by rw [g1]; exact (kN_lt (by omega) (by omega)).mpr iS) (by rw [tn]; omega) hk
theorem x_dS {k33 : Nat → Int64 → Int32 → Mem → Option (Int64 × Mem)} (h : Cx φ T I R (mZ τ) nS nL n) (iS : i < nS) : ∀ m k d fl, k + m = 11 → m + 1 ≤ fl → l_X4_digest_44 k33 fl (φ 0) d (Int32.ofNat i) (Int32.ofNat k) (pt φ T I R τ) = k33 (φ 0) (ad (fo (vSI I i) m k d) (FI I i 3 2)) (Int32.ofNat (i + 1)) (pt φ T I R τ) := by
  have hj := h.hj
  have hS := h.m.2.2.2.2.2.1
  have q0 : (T 0).1 = 4 + 1 := by rw [h.m.2.2.2.2.2.2.2]
  intro m
  induction m with
  | zero =>
    intro k d fl h1 h2
    obtain ⟨fl', rfl⟩ : ∃ x, fl = x + 1 := ⟨fl - 1, by omega⟩
    have c1 : (10 : Int32) < Int32.ofNat k := (kN_lt (a := 10) (by omega) (by omega)).mpr (by omega)
    rw [l_X4_digest_44, itr_succ, b_X4_digest_44, if_pos c1, nm, ob_pt hj q0, x_flushIn h (InN.of iS (by omega)) (tnK (by omega)) ⟨by decide, by decide⟩ ⟨by decide, by decide⟩, cl1_s, nm, nm, nm, kN_s]; rfl
  | succ m ih =>
    intro k d fl h1 h2
    obtain ⟨fl', rfl⟩ : ∃ x, fl = x + 1 := ⟨fl - 1, by omega⟩
    have c1 : ¬ (10 : Int32) < Int32.ofNat k := by rw [show (10 : Int32) = Int32.ofNat 10 from rfl, kN_lt (by omega) (by omega)]; omega
    rw [l_X4_digest_44, itr_succ, b_X4_digest_44, if_neg c1, nm, ob_pt hj q0, x_ofSecC h iS (by omega), cl1_s, nm, nm, nm, kN_s]
    exact ih (k + 1) _ fl' (by omega) (by omega)
theorem x_dSS (h : Cx φ T I R (mZ τ) nS nL n) : ∀ m i d fl, i + m = nS → m + 1 ≤ fl → l_X4_digest_33 fl (φ 0) d (Int32.ofNat i) (pt φ T I R τ) = l_X4_digest_95 40 (φ 0) (seD I m i d) 0 (pt φ T I R τ) := by
  have hj := h.hj
  have hS := h.m.2.2.2.2.2.1
  have q0 : (T 0).1 = 4 + 1 := by rw [h.m.2.2.2.2.2.2.2]
  have g1 : I 0 1 = Int32.ofNat nS := h.2.2.2.2.1.1
  intro m
  induction m with
  | zero =>
    intro i d fl h1 h2
    obtain ⟨fl', rfl⟩ : ∃ x, fl = x + 1 := ⟨fl - 1, by omega⟩
    have c1 : Int32.ofNat nS ≤ Int32.ofNat i := (kN_le (by omega) (by omega)).mpr (by omega)
    rw [l_X4_digest_33, itr_succ, b_X4_digest_33, gI_pt hj q0, g1, if_pos c1]; rfl
  | succ m ih =>
    intro i d fl h1 h2
    obtain ⟨fl', rfl⟩ : ∃ x, fl = x + 1 := ⟨fl - 1, by omega⟩
    have c1 : ¬ Int32.ofNat nS ≤ Int32.ofNat i := by rw [kN_le (by omega) (by omega)]; omega
    rw [l_X4_digest_33, itr_succ, b_X4_digest_33, gI_pt hj q0, g1, if_neg c1]
    refine (x_dS h (show i < nS by omega) 11 0 d 40 (by omega) (by omega)).trans ?_
    exact ih (i + 1) _ fl' (by omega) (by omega)
theorem x_ofLotC (h : Cx φ T I R (mZ τ) nS nL n) (iL : i < nL) (hk : k ≤ 17) : f_X4_ofLot (φ 0) (Int32.ofNat i) (Int32.ofNat k) (pt φ T I R τ) = some ((vLI I i k), pt φ T I R τ) := by
  have hN := h.m.2.2.2.2.1
  have tn := tnK (k := i) (by omega)
  obtain ⟨hj, hl, hx, ⟨hm22, hm23⟩, hr⟩ := h; obtain ⟨hx0, hx1, hx2, hx3, hx4, hx5, hx6, hx7, hx8, hx9, hx10, hx11, hx12, hx13, hx14, hx15, hx16, hx17, hx18, hx19, hx20, hx21, hx22, hx23, hx24, hx25, hx26, hx27⟩ := hx; obtain ⟨⟨g1, g2⟩, r1, r2, r3, r4, r5, r6, r7⟩ := hr
  exact x_ofLot (w := 6 * i + 20) (u := 6 * i + 22) hj hx0 hx2 hx7 (by rw [tn]; exact hx14 i (by omega)) (hx15 i (by omega)) (hx16 i (by omega)) (hx19 i (by omega)) (hx18 i (by omega)) (hx21 i (by omega)) (kN_nn (by omega)) (by rw [g2]; exact (kN_lt (by omega) (by omega)).mpr iL) (by rw [tn]; omega) hk
theorem x_dL6 (h : Cx φ T I R (mZ τ) nS nL n) (iL : i < nL) : ∀ m k d fl, k + m = 18 → m + 1 ≤ fl → l_X4_digestLot_6 fl (φ 0) (Int32.ofNat i) d (Int32.ofNat k) (pt φ T I R τ) = l_X4_digestLot_46 40 (φ 0) (Int32.ofNat i) (fo (vLI I i) m k d) (some (φ (6 * i + 19))) 0 (pt φ T I R τ) := by
  have hj := h.hj
  have hN := h.m.2.2.2.2.1
  have q0 : (T 0).1 = 4 + 1 := by rw [h.m.2.2.2.2.2.2.2]
  intro m
  induction m with
  | zero =>
    intro k d fl h1 h2
    obtain ⟨fl', rfl⟩ : ∃ x, fl = x + 1 := ⟨fl - 1, by omega⟩
    have c1 : (17 : Int32) < Int32.ofNat k := (kN_lt (a := 17) (by omega) (by omega)).mpr (by omega)
    rw [l_X4_digestLot_6, itr_succ, b_X4_digestLot_6, if_pos c1, ob_pt hj q0, x_lotAt h (InN.of iL (by omega)) (tnK (by omega)), cl1_s]; rfl
  | succ m ih =>
    intro k d fl h1 h2
    obtain ⟨fl', rfl⟩ : ∃ x, fl = x + 1 := ⟨fl - 1, by omega⟩
    have c1 : ¬ (17 : Int32) < Int32.ofNat k := by rw [show (17 : Int32) = Int32.ofNat 17 from rfl, kN_lt (by omega) (by omega)]; omega
    rw [l_X4_digestLot_6, itr_succ, b_X4_digestLot_6, if_neg c1, nm, ob_pt hj q0, x_ofLotC h iL (by omega), cl1_s, nm, nm, nm, kN_s]
    exact ih (k + 1) _ fl' (by omega) (by omega)
theorem x_dL46 (h : Cx φ T I R (mZ τ) nS nL n) (iL : i < nL) (hs : I (6 * i + 19) 0 = 2) : ∀ m k d fl, k + m = 3 → m + 1 ≤ fl → l_X4_digestLot_46 fl (φ 0) (Int32.ofNat i) d (some (φ (6 * i + 19))) (Int32.ofNat k) (pt φ T I R τ) = l_X4_digestLot_87 40 (φ 0) (Int32.ofNat i) (fo (NV I i) m k d) (some (φ (6 * i + 19))) 0 (pt φ T I R τ) := by
  have hj := h.hj
  have hN := h.m.2.2.2.2.1
  have q0 : (T 0).1 = 4 + 1 := by rw [h.m.2.2.2.2.2.2.2]
  have q4 : (T (6 * i + 19)).1 = 1 + 1 := by rw [h.t4 (by omega)]
  intro m
  induction m with
  | zero =>
    intro k d fl h1 h2
    obtain ⟨fl', rfl⟩ : ∃ x, fl = x + 1 := ⟨fl - 1, by omega⟩
    have c1 : (3 : Int32) ≤ Int32.ofNat k := (kN_le (a := 3) (by omega) (by omega)).mpr (by omega)
    rw [l_X4_digestLot_46, itr_succ, b_X4_digestLot_46, gI_pt hj q4, hs, if_pos rfl, if_pos c1, b_X4_digestLot_84]; rfl
  | succ m ih =>
    intro k d fl h1 h2
    obtain ⟨fl', rfl⟩ : ∃ x, fl = x + 1 := ⟨fl - 1, by omega⟩
    have c1 : ¬ (3 : Int32) ≤ Int32.ofNat k := by rw [show (3 : Int32) = Int32.ofNat 3 from rfl, kN_le (by omega) (by omega)]; omega
    rw [l_X4_digestLot_46, itr_succ, b_X4_digestLot_46, gI_pt hj q4, hs, if_pos rfl, if_neg c1, nm, ob_pt hj q0, x_note h (InN.of iL (by omega)) (tnK (by omega)) hs (by omega), cl1_s, nm, nm, nm, kN_s]
    exact ih (k + 1) _ fl' (by omega) (by omega)
theorem x_dL87 (h : Cx φ T I R (mZ τ) nS nL n) (hn : n < 600) (iL : i < nL) (hs : I (6 * i + 19) 0 = 2) : ∀ m k d fl, k + m = 3 → m + 1 ≤ fl → l_X4_digestLot_87 fl (φ 0) (Int32.ofNat i) d (some (φ (6 * i + 19))) (Int32.ofNat k) (pt φ T I R τ) = b_X4_digestLot_125 (φ 0) (Int32.ofNat i) (fo (fun k => TV I (NV I i k)) m k d) (some (φ (6 * i + 19))) (pt φ T I R τ) := by
  have hj := h.hj
  have hN := h.m.2.2.2.2.1
  have q0 : (T 0).1 = 4 + 1 := by rw [h.m.2.2.2.2.2.2.2]
  have q4 : (T (6 * i + 19)).1 = 1 + 1 := by rw [h.t4 (by omega)]
  intro m
  induction m with
  | zero =>
    intro k d fl h1 h2
    obtain ⟨fl', rfl⟩ : ∃ x, fl = x + 1 := ⟨fl - 1, by omega⟩
    have c1 : (3 : Int32) ≤ Int32.ofNat k := (kN_le (a := 3) (by omega) (by omega)).mpr (by omega)
    rw [l_X4_digestLot_87, itr_succ, b_X4_digestLot_87, gI_pt hj q4, hs, if_pos rfl, if_pos c1]; rfl
  | succ m ih =>
    intro k d fl h1 h2
    obtain ⟨fl', rfl⟩ : ∃ x, fl = x + 1 := ⟨fl - 1, by omega⟩
    have c1 : ¬ (3 : Int32) ≤ Int32.ofNat k := by rw [show (3 : Int32) = Int32.ofNat 3 from rfl, kN_le (by omega) (by omega)]; omega
    rw [l_X4_digestLot_87, itr_succ, b_X4_digestLot_87, gI_pt hj q4, hs, if_pos rfl, if_neg c1, nm, ob_pt hj q0, x_taste h (by omega) (InN.of iL (by omega)) (tnK (by omega)) hs (by omega), cl1_s, nm, nm, nm, kN_s]
    exact ih (k + 1) _ fl' (by omega) (by omega)
theorem x_dL178 (h : Cx φ T I R (mZ τ) nS nL n) (iL : i < nL) : ∀ m k d fl, k + m = 4 → m + 1 ≤ fl → l_X4_digestLot_178 fl (φ 0) (Int32.ofNat i) d (Int32.ofNat k) (pt φ T I R τ) = some ((fo (bdV I i) m k d), pt φ T I R τ) := by
  have hj := h.hj
  have hN := h.m.2.2.2.2.1
  have q0 : (T 0).1 = 4 + 1 := by rw [h.m.2.2.2.2.2.2.2]
  intro m
  induction m with
  | zero =>
    intro k d fl h1 h2
    obtain ⟨fl', rfl⟩ : ∃ x, fl = x + 1 := ⟨fl - 1, by omega⟩
    have c1 : (4 : Int32) ≤ Int32.ofNat k := (kN_le (a := 4) (by omega) (by omega)).mpr (by omega)
    rw [l_X4_digestLot_178, itr_succ, b_X4_digestLot_178, if_pos c1, b_X4_digestLot_207]; rfl
  | succ m ih =>
    intro k d fl h1 h2
    obtain ⟨fl', rfl⟩ : ∃ x, fl = x + 1 := ⟨fl - 1, by omega⟩
    have c1 : ¬ (4 : Int32) ≤ Int32.ofNat k := by rw [show (4 : Int32) = Int32.ofNat 4 from rfl, kN_le (by omega) (by omega)]; omega
    rw [l_X4_digestLot_178, itr_succ, b_X4_digestLot_178, if_neg c1, nm, ob_pt hj q0, x_bidOf h (InN.of iL (by omega)) (tnK (by omega)) (by omega), cl1_s, nm, nm, nm, kN_s]
    exact ih (k + 1) _ fl' (by omega) (by omega)
theorem x_dL149 (h : Cx φ T I R (mZ τ) nS nL n) (iL : i < nL) : b_X4_digestLot_149 (φ 0) (Int32.ofNat i) d (some (φ (6 * i + 19))) (pt φ T I R τ) = some ((loC I i d), pt φ T I R τ) := by
  have hj := h.hj
  have hN := h.m.2.2.2.2.1
  have q0 : (T 0).1 = 4 + 1 := by rw [h.m.2.2.2.2.2.2.2]
  have q4 : (T (6 * i + 19)).1 = 1 + 1 := by rw [h.t4 (by omega)]
  obtain ⟨r15, t3⟩ : R (6 * i + 19) 15 = some (φ (6 * i + 22)) ∧ T (6 * i + 22) = (1, 0) := by
    obtain ⟨hj, hl, hx, ⟨hm22, hm23⟩, hr⟩ := h; obtain ⟨hx0, hx1, hx2, hx3, hx4, hx5, hx6, hx7, hx8, hx9, hx10, hx11, hx12, hx13, hx14, hx15, hx16, hx17, hx18, hx19, hx20, hx21, hx22, hx23, hx24, hx25, hx26, hx27⟩ := hx; obtain ⟨⟨g1, g2⟩, r1, r2, r3, r4, r5, r6, r7⟩ := hr
    exact ⟨hx18 i (by omega), hx21 i (by omega)⟩
  rw [b_X4_digestLot_149, gR_pt hj q4, r15, ob_pt hj (by rw [t3]), x_isOpen hj t3, cl1_s, loC]
  by_cases c : I (6 * i + 22) 0 ≤ 0
  · rw [if_pos c, if_pos rfl, if_pos c, b_X4_digestLot_207]
  · rw [if_neg c, if_neg (by decide), if_neg c, nm, ob_pt hj q0, x_wouldPay h (InN.of iL (by omega)) (tnK (by omega)) c, cl1_s, nm, nm]
    exact x_dL178 h iL 4 0 _ 40 (by omega) (by omega)
theorem x_dLot (h : Cx φ T I R (mZ τ) nS nL n) (hn : n < 600) (iL : i < nL) (e : T15 I I') : ∃ I2, f_X4_digestLot (φ 0) d (Int32.ofNat i) (pt φ T I' R τ) = some ((loC I i (loB I i (loA I i d))), pt φ T I2 R τ) ∧ T15 I I2 := by
  have hj := h.hj
  have hN := h.m.2.2.2.2.1
  have i16 : i < 16 := by omega
  have h' : Cx φ T I' R (mZ τ) nS nL n := e.cx h
  have q0 : (T 0).1 = 4 + 1 := by rw [h.m.2.2.2.2.2.2.2]
  have q4 : (T (6 * i + 19)).1 = 1 + 1 := by rw [h.t4 (by omega)]
  have r19 : I' (6 * i + 19) = I (6 * i + 19) := e.1 _ (by omega)
  have r22 : I' (6 * i + 22) = I (6 * i + 22) := e.1 _ (by omega)
  have A : f_X4_digestLot (φ 0) d (Int32.ofNat i) (pt φ T I' R τ) = b_X4_digestLot_125 (φ 0) (Int32.ofNat i) (loA I i d) (some (φ (6 * i + 19))) (pt φ T I' R τ) := by
    rw [f_X4_digestLot, b_X4_digestLot_0]
    refine (x_dL6 h' iL 18 0 d 40 (by omega) (by omega)).trans ?_
    rw [e.vl i16, loA]
    by_cases c : I (6 * i + 19) 0 = 2
    · rw [if_pos c]
      have c' : I' (6 * i + 19) 0 = 2 := by rw [r19]; exact c
      refine (x_dL46 h' iL c' 3 0 _ 40 (by omega) (by omega)).trans ?_
      refine (x_dL87 h' hn iL c' 3 0 _ 40 (by omega) (by omega)).trans ?_
      rw [e.nv i16, show (fun k => TV I' (NV I i k)) = fun k => TV I (NV I i k) from funext fun k => e.tv]
    · rw [if_neg c, show (40 : Nat) = 39 + 1 from rfl, l_X4_digestLot_46, itr_succ, b_X4_digestLot_46, gI_pt hj q4, r19, if_neg c, b_X4_digestLot_84, show (40 : Nat) = 39 + 1 from rfl, l_X4_digestLot_87, itr_succ, b_X4_digestLot_87, gI_pt hj q4, r19, if_neg c]
  rw [A, b_X4_digestLot_125, gI_pt hj q4, r19, loB]
  by_cases c : I (6 * i + 19) 0 = 1
  · obtain ⟨I2, f1, f2, f3, f4⟩ := x_bestFire h' (InN.of iL (by omega)) (tnK (by omega)) (by rw [r19]; exact c)
    rw [e.bf i16] at f1
    have e2 : T15 I I2 := ⟨fun v hv => by rw [f2 v hv, e.1 v hv], f3, f4⟩
    have h2 : Cx φ T I2 R (mZ τ) nS nL n := e2.cx h
    refine ⟨I2, ?_, e2⟩
    rw [if_pos c, if_pos c, nm, ob_pt hj q0, f1, cl1_s, nm, nm, x_dL149 h2 iL, loC, loC, e2.1 _ (by omega), e2.wv i16, e2.bd i16]; rfl
  · refine ⟨I', ?_, e⟩
    rw [if_neg c, if_neg c, x_dL149 h' iL, loC, loC, r22, e.wv i16, e.bd i16]
theorem x_dLL (h : Cx φ T I R (mZ τ) nS nL n) (hn : n < 600) : ∀ m i d fl (I' : Nat → Nat → Int32), i + m = nL → m + 1 ≤ fl → T15 I I' → ∃ I2, l_X4_digest_95 fl (φ 0) d (Int32.ofNat i) (pt φ T I' R τ) = l_X4_digest_118 40 (φ 0) (loD I m i d) 0 (pt φ T I2 R τ) ∧ T15 I I2 := by
  have hj := h.hj
  have hN := h.m.2.2.2.2.1
  have q0 : (T 0).1 = 4 + 1 := by rw [h.m.2.2.2.2.2.2.2]
  have g2 : I 0 4 = Int32.ofNat nL := h.2.2.2.2.1.2
  intro m
  induction m with
  | zero =>
    intro i d fl I' h1 h2 e
    obtain ⟨fl', rfl⟩ : ∃ x, fl = x + 1 := ⟨fl - 1, by omega⟩
    have c1 : Int32.ofNat nL ≤ Int32.ofNat i := (kN_le (by omega) (by omega)).mpr (by omega)
    refine ⟨I', ?_, e⟩
    rw [l_X4_digest_95, itr_succ, b_X4_digest_95, gI_pt hj q0, e.1 0 (by omega), g2, if_pos c1]; rfl
  | succ m ih =>
    intro i d fl I' h1 h2 e
    obtain ⟨fl', rfl⟩ : ∃ x, fl = x + 1 := ⟨fl - 1, by omega⟩
    have c1 : ¬ Int32.ofNat nL ≤ Int32.ofNat i := by rw [kN_le (by omega) (by omega)]; omega
    obtain ⟨I2, f1, f2⟩ := x_dLot (d := d) h hn (show i < nL by omega) e
    obtain ⟨I3, f3, f4⟩ := ih (i + 1) (loC I i (loB I i (loA I i d))) fl' I2 (by omega) (by omega) f2
    refine ⟨I3, ?_, f4⟩
    rw [l_X4_digest_95, itr_succ, b_X4_digest_95, gI_pt hj q0, e.1 0 (by omega), g2, if_neg c1, ob_pt hj q0, f1, cl1_s, nm, kN_s]
    exact f3
theorem x_ofTasC (h : Cx φ T I R (mZ τ) nS nL n) (hn : n < 600) (hj3 : j < 3) : f_X4_ofTaster (φ 0) (Int32.ofNat j) 0 (pt φ T I R τ) = some ((gs (I (j + 3) 1) (I (j + 3) 2)), pt φ T I R τ) ∧ f_X4_ofTaster (φ 0) (Int32.ofNat j) 1 (pt φ T I R τ) = some ((I (j + 3) 2), pt φ T I R τ) := by
  have hj := h.hj
  have q0 : (T 0).1 = 4 + 1 := by rw [h.m.2.2.2.2.2.2.2]
  have A := x_tasAt h (InN.of hj3 (by omega)) (tnK (by omega))
  have G := x_gsT (τ := τ) h (by omega) hj3
  have t6 : (T (j + 3)).1 = 3 + 1 := by
    obtain ⟨hj, hl, hx, ⟨hm22, hm23⟩, hr⟩ := h; obtain ⟨hx0, hx1, hx2, hx3, hx4, hx5, hx6, hx7, hx8, hx9, hx10, hx11, hx12, hx13, hx14, hx15, hx16, hx17, hx18, hx19, hx20, hx21, hx22, hx23, hx24, hx25, hx26, hx27⟩ := hx; obtain ⟨⟨g1, g2⟩, r1, r2, r3, r4, r5, r6, r7⟩ := hr
    rw [hx27 j hj3]
  constructor
  · rw [f_X4_ofTaster, b_X4_ofTaster_0, ob_pt hj q0, A, cl1_s, x_req _ (by decide) (by decide), cl1_s, if_pos rfl, ob_pt hj t6, G, cl1_s, b_X4_ofTaster_27]
  · rw [f_X4_ofTaster, b_X4_ofTaster_0, ob_pt hj q0, A, cl1_s, x_req _ (by decide) (by decide), cl1_s, if_neg (by decide), gI_pt hj t6, b_X4_ofTaster_27]
theorem x_dT (h : Cx φ T I R (mZ τ) nS nL n) (hn : n < 600) (e : T15 I I') : ∀ m j d fl, j + m = 3 → m + 1 ≤ fl → l_X4_digest_118 fl (φ 0) d (Int32.ofNat j) (pt φ T I' R τ) = some ((ad (taD I m j d) (BM I (n3 3 3 3) nL)), pt φ T I' R τ) := by
  have hj := h.hj
  have hN := h.m.2.2.2.2.1
  have h' : Cx φ T I' R (mZ τ) nS nL n := e.cx h
  have q0 : (T 0).1 = 4 + 1 := by rw [h.m.2.2.2.2.2.2.2]
  intro m
  induction m with
  | zero =>
    intro j d fl h1 h2
    obtain ⟨fl', rfl⟩ : ∃ x, fl = x + 1 := ⟨fl - 1, by omega⟩
    have c1 : (3 : Int32) ≤ Int32.ofNat j := (kN_le (a := 3) (by omega) (by omega)).mpr (by omega)
    rw [l_X4_digest_118, itr_succ, b_X4_digest_118, if_pos c1, nm, ob_pt hj q0, x_bestMix h' ⟨by decide, by decide⟩ ⟨by decide, by decide⟩ ⟨by decide, by decide⟩, cl1_s, nm, nm, e.bm hN]; rfl
  | succ m ih =>
    intro j d fl h1 h2
    obtain ⟨fl', rfl⟩ : ∃ x, fl = x + 1 := ⟨fl - 1, by omega⟩
    have c1 : ¬ (3 : Int32) ≤ Int32.ofNat j := by rw [show (3 : Int32) = Int32.ofNat 3 from rfl, kN_le (by omega) (by omega)]; omega
    obtain ⟨t0, t1⟩ := x_ofTasC h' hn (show j < 3 by omega)
    rw [e.1 (j + 3) (by omega)] at t0 t1
    rw [l_X4_digest_118, itr_succ, b_X4_digest_118, if_neg c1, nm, ob_pt hj q0, t0, cl1_s, nm, nm, nm, ob_pt hj q0, t1, cl1_s, nm, nm, nm, kN_s]
    exact ih (j + 1) _ fl' (by omega) (by omega)
theorem x_digest (h : Cx φ T I R (mZ τ) nS nL n) (hn : n < 600) : ∃ I2, f_X4_digest (φ 0) (pt φ T I R τ) = some ((DGV I nS nL), pt φ T I2 R τ) ∧ T15 I I2 := by
  have hN := h.m.2.2.2.2.1
  have hS := h.m.2.2.2.2.2.1
  have e0' : T15 I I := ⟨fun _ _ => rfl, h.2.2.2.2.2.2.2.2.2.2.1⟩
  obtain ⟨I2, f1, f2⟩ := x_dLL h hn nL 0 (seD I nS 0 (fo (MV I nL) 15 0 5402)) 40 I (by omega) (by omega) e0'
  refine ⟨I2, ?_, f2⟩
  rw [f_X4_digest, b_X4_digest_0]
  refine (x_dM h 15 0 5402 40 (by omega) (by omega)).trans ?_
  refine (x_dSS h nS 0 _ 40 (by omega) (by omega)).trans ?_
  refine f1.trans ?_
  exact x_dT h hn f2 3 0 _ 40 (by omega) (by omega)
end D1
