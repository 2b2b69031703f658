/-! DIGEST: what both reckon; the garden -/
section D1
variable {φ : Nat → Nat} {T : Nat → Nat × Nat} {I : Nat → Nat → Int32} {R : Nat → Nat → Option Nat} {τ : Mem} {e0 nS nL cS cL n z : Nat} {mx : Nat → Int32} {cB : Nat → Nat} {bl : Nat → List (Nat × Int32)}
variable {mi a b w q k i j t c : Nat} {I' J J' : Nat → Nat → Int32} {p r : Int32} {d : Int64} {τ0 τ1 : Mem} {ne : Nat → Int32}
def ad (d : Int64) (v : Int32) : Int64 := d * 31 + v.toInt64
def fo (f : Nat → Int32) : Nat → Nat → Int64 → Int64
  | 0, _, d => d
  | m + 1, k, d => fo f m (k + 1) (ad d (f k))
def vSI (I : Nat → Nat → Int32) (i k : Nat) : Int32 := vSec (I (2 * i + 11)) (I (2 * i + 12)) k
def vLI (I : Nat → Nat → Int32) (i k : Nat) : Int32 := vLot (I (6 * i + 19)) (I (6 * i + 20)) (I (6 * i + 22)) k
def bdV (I : Nat → Nat → Int32) (i w : Nat) : Int32 := if I (6 * i + 23) w ≤ 0 then -1 else I (6 * i + 23) w
def seD (I : Nat → Nat → Int32) : Nat → Nat → Int64 → Int64
  | 0, _, d => d
  | m + 1, i, d => seD I m (i + 1) (ad (fo (vSI I i) 11 0 d) (FI I i 3 2))
def loA (I : Nat → Nat → Int32) (i : Nat) (d : Int64) : Int64 := if I (6 * i + 19) 0 = 2 then fo (fun k => TV I (NV I i k)) 3 0 (fo (NV I i) 3 0 (fo (vLI I i) 18 0 d)) else fo (vLI I i) 18 0 d
def loB (I : Nat → Nat → Int32) (i : Nat) (d : Int64) : Int64 := if I (6 * i + 19) 0 = 1 then ad d (BFV I i) else d
def loC (I : Nat → Nat → Int32) (bl : Nat → List (Nat × Int32)) (i : Nat) (d : Int64) : Int64 := if I (6 * i + 22) 0 ≤ 0 then d else fo (bdV I i) 4 0 (ad d (WV I bl i))
def loD (I : Nat → Nat → Int32) (bl : Nat → List (Nat × Int32)) : Nat → Nat → Int64 → Int64
  | 0, _, d => d
  | m + 1, i, d => loD I bl m (i + 1) (loC I bl i (loB I i (loA I i d)))
def taD (I : Nat → Nat → Int32) : Nat → Nat → Int64 → Int64
  | 0, _, d => d
  | m + 1, j, d => taD I m (j + 1) (ad (ad d (gs (I (j + 3) 1) (I (j + 3) 2))) (I (j + 3) 2))
def DGV (I : Nat → Nat → Int32) (nS nL : Nat) (bl : Nat → List (Nat × Int32)) : Int64 := ad (taD I 3 0 (loD I bl nL 0 (seD I nS 0 (fo (MV I nL) 15 0 5402)))) (BM I (n3 3 3 3) nL)
/-- all but the trial lot -/
def T15 (I I' : Nat → Nat → Int32) : Prop := (∀ v, v ≠ 115 → I' v = I v) ∧ I' 115 9 = -1 ∧ I' 115 12 = 0
theorem T15.cx (h : Cx φ T I R z e0 nS nL cS cL mx cB bl n) (e : T15 I I') : Cx φ T I' R z e0 nS nL cS cL mx cB bl n := h.tri0 e.1 e.2
theorem T15.nv (e : T15 I I') (hi : i < 16) : NV I' i = NV I i := by
  funext k
  rw [NV, NV, e.1 _ (by omega), e.1 _ (by omega)]
theorem T15.tv (e : T15 I I') {x : Int32} : TV I' x = TV I x := by
  simp only [TV, tlV, e.1 (0 + 3) (by omega), e.1 (1 + 3) (by omega), e.1 (2 + 3) (by omega)]
theorem T15.vl (e : T15 I I') (hi : i < 16) : vLI I' i = vLI I i := by
  funext k
  rw [vLI, vLI, e.1 _ (by omega), e.1 _ (by omega), e.1 _ (by omega)]
theorem T15.bf (e : T15 I I') (hi : i < 16) : BFV I' i = BFV I i := by rw [BFV, BFV, e.1 _ (by omega)]
theorem T15.bd (e : T15 I I') (hi : i < 16) : bdV I' i = bdV I i := by
  funext k
  rw [bdV, bdV, e.1 _ (by omega)]
theorem T15.wv (e : T15 I I') (hi : i < 16) : WV I' bl i = WV I bl i := by
  simp only [WV, AL, e.1 (10 * i + 150) (by omega), e.1 (6 * i + 19) (by omega), e.1 128 (by omega)]
theorem T15.jw (e : T15 I I') (hN : nL ≤ 16) (hi : i < 16) : ∀ m j p, j + m ≤ nL → jW I' ne i m j p = jW I ne i m j p := by
  intro m
  induction m with
  | zero => intro j p _; rfl
  | succ m ih =>
    intro j p hm
    rw [jW, jW, ih _ _ (by omega), e.nv hi, e.nv (show j < 16 by omega)]
    simp only [freeI, e.1 (6 * i + 19) (by omega), e.1 (6 * i + 22) (by omega), e.1 (6 * j + 19) (by omega), e.1 (6 * j + 22) (by omega)]
theorem T15.bm (e : T15 I I') (hN : nL ≤ 16) : BM I' ne nL = BM I ne nL := by
  have : ∀ m i p, i + m ≤ nL → iW I' ne nL m i p = iW I ne nL m i p := by
    intro m
    induction m with
    | zero => intro i p _; rfl
    | succ m ih => intro i p hm; rw [iW, iW, ih _ _ (by omega), e.jw hN (by omega) _ _ _ (by omega)]
  rw [BM, BM, this nL 0 _ (by omega)]
/-! the garden -/
theorem x_dM (h : Cx φ T I R (mZ τ) e0 nS nL cS cL mx cB bl n) : ∀ m k d fl, k + m = 15 → m + 1 ≤ fl → l_X4_digest_6 fl (φ 0) d (Int32.ofNat k) (pt φ T I R τ) = l_X4_digest_33 40 (φ 0) (fo (MV I nL) m k d) 0 (pt φ T I R τ) := by
  have hj := h.hj
  have q0 : (T 0).1 = 6 + 1 := by rw [h.m.2.2.2.2.2.2.2]
  intro m
  induction m with
  | zero =>
    intro k d fl h1 h2
    obtain ⟨fl', rfl⟩ : ∃ x, fl = x + 1 := ⟨fl - 1, by omega⟩
    have c1 : (14 : Int32) < Int32.ofNat k := (kN_lt (a := 14) (by omega) (by omega)).mpr (by omega)
    rw [l_X4_digest_6, itr_succ, b_X4_digest_6, if_pos c1]; rfl
  | succ m ih =>
    intro k d fl h1 h2
    obtain ⟨fl', rfl⟩ : ∃ x, fl = x + 1 := ⟨fl - 1, by omega⟩
    have c1 : ¬ (14 : Int32) < Int32.ofNat k := by rw [show (14 : Int32) = Int32.ofNat 14 from rfl, kN_lt (by omega) (by omega)]; omega
    rw [l_X4_digest_6, itr_succ, b_X4_digest_6, if_neg c1, nm, ob_pt hj q0, x_many h (by omega), cx1_s, nm, nm, nm, kN_s]
    exact ih (k + 1) _ fl' (by omega) (by omega)
theorem x_ofSecC (h : Cx φ T I R (mZ τ) e0 nS nL cS cL mx cB bl n) (iS : i < nS) (hk : k ≤ 10) : f_X4_ofSection (φ 0) (Int32.ofNat i) (Int32.ofNat k) (pt φ T I R τ) = some (.inl (vSI I i k), pt φ T I R τ) := by
  have hS := h.m.2.2.2.2.2.1
  have tn := tnK (k := i) (by omega)
  obtain ⟨hj, hl, hx, hm, hr⟩ := h; obtain ⟨hx0, hx1, hx2, hx3, hx4, hx5, hx6, hx7, hx8, hx9, hx10, hx11, hx12, hx13, hx14, hx15, hx16, hx17, hx18, hx19, hx20, hx21, hx22, hx23, hx24, hx25, hx26, hx27⟩ := hx; obtain ⟨hm0, hm1, hm2, hm3, hm4, hm5, hm6, hm7, hm8, hm9, hm10, hm11, hm12, hm13, hm14, hm15, hm16, hm17, hm18, hm19, hm20, hm21, hm22, hm23, hm24, hm25, hm26, hm27, hm28, hm29, hm30, hm31, hm32, hm33, hm34, hm35, hm36, hm37, hm38, hm39, hm40, hm41, hm42, hm43, hm44⟩ := hm; obtain ⟨⟨⟨g1, g2⟩, ⟨g3, g4, g5, g6, g7⟩, g8, g9, g10⟩, r1, r2, r3, r4, r5, r6⟩ := hr
  exact x_ofSec (w := 2 * i + 12) hj hx0 hx1 hx6 (by rw [tn]; exact hx10 i (by omega)) (hx11 i (by omega)) (hx12 i (by omega)) (hx13 i (by omega)) (kN_nn (by omega)) (by rw [g1]; exact (kN_lt (by omega) (by omega)).mpr iS) (by rw [tn]; omega) hk
theorem x_dS {k33 : Nat → Int64 → Int32 → Mem → Option ((Int64 ⊕ Nat) × Mem)} (h : Cx φ T I R (mZ τ) e0 nS nL cS cL mx cB bl n) (iS : i < nS) : ∀ m k d fl, k + m = 11 → m + 1 ≤ fl → l_X4_digest_44 k33 fl (φ 0) d (Int32.ofNat i) (Int32.ofNat k) (pt φ T I R τ) = k33 (φ 0) (ad (fo (vSI I i) m k d) (FI I i 3 2)) (Int32.ofNat (i + 1)) (pt φ T I R τ) := by
  have hj := h.hj
  have hS := h.m.2.2.2.2.2.1
  have q0 : (T 0).1 = 6 + 1 := by rw [h.m.2.2.2.2.2.2.2]
  intro m
  induction m with
  | zero =>
    intro k d fl h1 h2
    obtain ⟨fl', rfl⟩ : ∃ x, fl = x + 1 := ⟨fl - 1, by omega⟩
    have c1 : (10 : Int32) < Int32.ofNat k := (kN_lt (a := 10) (by omega) (by omega)).mpr (by omega)
    rw [l_X4_digest_44, itr_succ, b_X4_digest_44, if_pos c1, nm, ob_pt hj q0, x_flushIn h (InN.of iS (by omega)) (tnK (by omega)) ⟨by decide, by decide⟩ ⟨by decide, by decide⟩, cx1_s, nm, nm, nm, kN_s]; rfl
  | succ m ih =>
    intro k d fl h1 h2
    obtain ⟨fl', rfl⟩ : ∃ x, fl = x + 1 := ⟨fl - 1, by omega⟩
    have c1 : ¬ (10 : Int32) < Int32.ofNat k := by rw [show (10 : Int32) = Int32.ofNat 10 from rfl, kN_lt (by omega) (by omega)]; omega
    rw [l_X4_digest_44, itr_succ, b_X4_digest_44, if_neg c1, nm, ob_pt hj q0, x_ofSecC h iS (by omega), cx1_s, nm, nm, nm, kN_s]
    exact ih (k + 1) _ fl' (by omega) (by omega)
theorem x_dSS (h : Cx φ T I R (mZ τ) e0 nS nL cS cL mx cB bl n) : ∀ m i d fl, i + m = nS → m + 1 ≤ fl → l_X4_digest_33 fl (φ 0) d (Int32.ofNat i) (pt φ T I R τ) = l_X4_digest_95 40 (φ 0) (seD I m i d) 0 (pt φ T I R τ) := by
  have hj := h.hj
  have hS := h.m.2.2.2.2.2.1
  have q0 : (T 0).1 = 6 + 1 := by rw [h.m.2.2.2.2.2.2.2]
  have g1 : I 0 1 = Int32.ofNat nS := h.2.2.2.2.1.1.1
  intro m
  induction m with
  | zero =>
    intro i d fl h1 h2
    obtain ⟨fl', rfl⟩ : ∃ x, fl = x + 1 := ⟨fl - 1, by omega⟩
    have c1 : Int32.ofNat nS ≤ Int32.ofNat i := (kN_le (by omega) (by omega)).mpr (by omega)
    rw [l_X4_digest_33, itr_succ, b_X4_digest_33, gI_pt hj q0, g1, if_pos c1]; rfl
  | succ m ih =>
    intro i d fl h1 h2
    obtain ⟨fl', rfl⟩ : ∃ x, fl = x + 1 := ⟨fl - 1, by omega⟩
    have c1 : ¬ Int32.ofNat nS ≤ Int32.ofNat i := by rw [kN_le (by omega) (by omega)]; omega
    rw [l_X4_digest_33, itr_succ, b_X4_digest_33, gI_pt hj q0, g1, if_neg c1]
    refine (x_dS h (show i < nS by omega) 11 0 d 40 (by omega) (by omega)).trans ?_
    exact ih (i + 1) _ fl' (by omega) (by omega)
theorem x_ofLotC (h : Cx φ T I R (mZ τ) e0 nS nL cS cL mx cB bl n) (iL : i < nL) (hk : k ≤ 17) : f_X4_ofLot (φ 0) (Int32.ofNat i) (Int32.ofNat k) (pt φ T I R τ) = some (.inl (vLI I i k), pt φ T I R τ) := by
  have hN := h.m.2.2.2.2.1
  have tn := tnK (k := i) (by omega)
  obtain ⟨hj, hl, hx, hm, hr⟩ := h; obtain ⟨hx0, hx1, hx2, hx3, hx4, hx5, hx6, hx7, hx8, hx9, hx10, hx11, hx12, hx13, hx14, hx15, hx16, hx17, hx18, hx19, hx20, hx21, hx22, hx23, hx24, hx25, hx26, hx27⟩ := hx; obtain ⟨hm0, hm1, hm2, hm3, hm4, hm5, hm6, hm7, hm8, hm9, hm10, hm11, hm12, hm13, hm14, hm15, hm16, hm17, hm18, hm19, hm20, hm21, hm22, hm23, hm24, hm25, hm26, hm27, hm28, hm29, hm30, hm31, hm32, hm33, hm34, hm35, hm36, hm37, hm38, hm39, hm40, hm41, hm42, hm43, hm44⟩ := hm; obtain ⟨⟨⟨g1, g2⟩, ⟨g3, g4, g5, g6, g7⟩, g8, g9, g10⟩, r1, r2, r3, r4, r5, r6⟩ := hr
  exact x_ofLot (w := 6 * i + 20) (u := 6 * i + 22) hj hx0 hx2 hx7 (by rw [tn]; exact hx14 i (by omega)) (hx15 i (by omega)) (hx16 i (by omega)) (hx19 i (by omega)) (hx18 i (by omega)) (hx21 i (by omega)) (kN_nn (by omega)) (by rw [g2]; exact (kN_lt (by omega) (by omega)).mpr iL) (by rw [tn]; omega) hk
theorem x_dL6 (h : Cx φ T I R (mZ τ) e0 nS nL cS cL mx cB bl n) (iL : i < nL) : ∀ m k d fl, k + m = 18 → m + 1 ≤ fl → l_X4_digestLot_6 fl (φ 0) (Int32.ofNat i) d (Int32.ofNat k) (pt φ T I R τ) = l_X4_digestLot_46 40 (φ 0) (Int32.ofNat i) (fo (vLI I i) m k d) (some (φ (6 * i + 19))) 0 (pt φ T I R τ) := by
  have hj := h.hj
  have hN := h.m.2.2.2.2.1
  have q0 : (T 0).1 = 6 + 1 := by rw [h.m.2.2.2.2.2.2.2]
  intro m
  induction m with
  | zero =>
    intro k d fl h1 h2
    obtain ⟨fl', rfl⟩ : ∃ x, fl = x + 1 := ⟨fl - 1, by omega⟩
    have c1 : (17 : Int32) < Int32.ofNat k := (kN_lt (a := 17) (by omega) (by omega)).mpr (by omega)
    rw [l_X4_digestLot_6, itr_succ, b_X4_digestLot_6, if_pos c1, ob_pt hj q0, x_lotAt h (InN.of iL (by omega)) (tnK (by omega)), cx1_s]; rfl
  | succ m ih =>
    intro k d fl h1 h2
    obtain ⟨fl', rfl⟩ : ∃ x, fl = x + 1 := ⟨fl - 1, by omega⟩
    have c1 : ¬ (17 : Int32) < Int32.ofNat k := by rw [show (17 : Int32) = Int32.ofNat 17 from rfl, kN_lt (by omega) (by omega)]; omega
    rw [l_X4_digestLot_6, itr_succ, b_X4_digestLot_6, if_neg c1, nm, ob_pt hj q0, x_ofLotC h iL (by omega), cx1_s, nm, nm, nm, kN_s]
    exact ih (k + 1) _ fl' (by omega) (by omega)
theorem x_dL46 (h : Cx φ T I R (mZ τ) e0 nS nL cS cL mx cB bl n) (iL : i < nL) (hs : I (6 * i + 19) 0 = 2) : ∀ m k d fl, k + m = 3 → m + 1 ≤ fl → l_X4_digestLot_46 fl (φ 0) (Int32.ofNat i) d (some (φ (6 * i + 19))) (Int32.ofNat k) (pt φ T I R τ) = l_X4_digestLot_87 40 (φ 0) (Int32.ofNat i) (fo (NV I i) m k d) (some (φ (6 * i + 19))) 0 (pt φ T I R τ) := by
  have hj := h.hj
  have hN := h.m.2.2.2.2.1
  have q0 : (T 0).1 = 6 + 1 := by rw [h.m.2.2.2.2.2.2.2]
  have q4 : (T (6 * i + 19)).1 = 3 + 1 := by rw [h.t4 (by omega)]
  intro m
  induction m with
  | zero =>
    intro k d fl h1 h2
    obtain ⟨fl', rfl⟩ : ∃ x, fl = x + 1 := ⟨fl - 1, by omega⟩
    have c1 : (3 : Int32) ≤ Int32.ofNat k := (kN_le (a := 3) (by omega) (by omega)).mpr (by omega)
    rw [l_X4_digestLot_46, itr_succ, b_X4_digestLot_46, gI_pt hj q4, hs, if_pos rfl, if_pos c1, b_X4_digestLot_84]; rfl
  | succ m ih =>
    intro k d fl h1 h2
    obtain ⟨fl', rfl⟩ : ∃ x, fl = x + 1 := ⟨fl - 1, by omega⟩
    have c1 : ¬ (3 : Int32) ≤ Int32.ofNat k := by rw [show (3 : Int32) = Int32.ofNat 3 from rfl, kN_le (by omega) (by omega)]; omega
    rw [l_X4_digestLot_46, itr_succ, b_X4_digestLot_46, gI_pt hj q4, hs, if_pos rfl, if_neg c1, nm, ob_pt hj q0, x_note h (InN.of iL (by omega)) (tnK (by omega)) hs (by omega), cx1_s, nm, nm, nm, kN_s]
    exact ih (k + 1) _ fl' (by omega) (by omega)
theorem x_dL87 (h : Cx φ T I R (mZ τ) e0 nS nL cS cL mx cB bl n) (hn : n < 600) (iL : i < nL) (hs : I (6 * i + 19) 0 = 2) : ∀ m k d fl, k + m = 3 → m + 1 ≤ fl → l_X4_digestLot_87 fl (φ 0) (Int32.ofNat i) d (some (φ (6 * i + 19))) (Int32.ofNat k) (pt φ T I R τ) = b_X4_digestLot_125 (φ 0) (Int32.ofNat i) (fo (fun k => TV I (NV I i k)) m k d) (some (φ (6 * i + 19))) (pt φ T I R τ) := by
  have hj := h.hj
  have hN := h.m.2.2.2.2.1
  have q0 : (T 0).1 = 6 + 1 := by rw [h.m.2.2.2.2.2.2.2]
  have q4 : (T (6 * i + 19)).1 = 3 + 1 := by rw [h.t4 (by omega)]
  intro m
  induction m with
  | zero =>
    intro k d fl h1 h2
    obtain ⟨fl', rfl⟩ : ∃ x, fl = x + 1 := ⟨fl - 1, by omega⟩
    have c1 : (3 : Int32) ≤ Int32.ofNat k := (kN_le (a := 3) (by omega) (by omega)).mpr (by omega)
    rw [l_X4_digestLot_87, itr_succ, b_X4_digestLot_87, gI_pt hj q4, hs, if_pos rfl, if_pos c1]; rfl
  | succ m ih =>
    intro k d fl h1 h2
    obtain ⟨fl', rfl⟩ : ∃ x, fl = x + 1 := ⟨fl - 1, by omega⟩
    have c1 : ¬ (3 : Int32) ≤ Int32.ofNat k := by rw [show (3 : Int32) = Int32.ofNat 3 from rfl, kN_le (by omega) (by omega)]; omega
    rw [l_X4_digestLot_87, itr_succ, b_X4_digestLot_87, gI_pt hj q4, hs, if_pos rfl, if_neg c1, nm, ob_pt hj q0, x_taste h (by omega) (InN.of iL (by omega)) (tnK (by omega)) hs (by omega), cx1_s, nm, nm, nm, kN_s]
    exact ih (k + 1) _ fl' (by omega) (by omega)
theorem x_dL178 (h : Cx φ T I R (mZ τ) e0 nS nL cS cL mx cB bl n) (iL : i < nL) : ∀ m k d fl, k + m = 4 → m + 1 ≤ fl → l_X4_digestLot_178 fl (φ 0) (Int32.ofNat i) d (Int32.ofNat k) (pt φ T I R τ) = some (.inl (fo (bdV I i) m k d), pt φ T I R τ) := by
  have hj := h.hj
  have hN := h.m.2.2.2.2.1
  have q0 : (T 0).1 = 6 + 1 := by rw [h.m.2.2.2.2.2.2.2]
  intro m
  induction m with
  | zero =>
    intro k d fl h1 h2
    obtain ⟨fl', rfl⟩ : ∃ x, fl = x + 1 := ⟨fl - 1, by omega⟩
    have c1 : (4 : Int32) ≤ Int32.ofNat k := (kN_le (a := 4) (by omega) (by omega)).mpr (by omega)
    rw [l_X4_digestLot_178, itr_succ, b_X4_digestLot_178, if_pos c1, b_X4_digestLot_207]; rfl
  | succ m ih =>
    intro k d fl h1 h2
    obtain ⟨fl', rfl⟩ : ∃ x, fl = x + 1 := ⟨fl - 1, by omega⟩
    have c1 : ¬ (4 : Int32) ≤ Int32.ofNat k := by rw [show (4 : Int32) = Int32.ofNat 4 from rfl, kN_le (by omega) (by omega)]; omega
    rw [l_X4_digestLot_178, itr_succ, b_X4_digestLot_178, if_neg c1, nm, ob_pt hj q0, x_bidOf h (InN.of iL (by omega)) (tnK (by omega)) (by omega), cx1_s, nm, nm, nm, kN_s]
    exact ih (k + 1) _ fl' (by omega) (by omega)
theorem x_dL149 (h : Cx φ T I R (mZ τ) e0 nS nL cS cL mx cB bl n) (iL : i < nL) : b_X4_digestLot_149 (φ 0) (Int32.ofNat i) d (some (φ (6 * i + 19))) (pt φ T I R τ) = some (.inl (loC I bl i d), pt φ T I R τ) := by
  have hj := h.hj
  have hN := h.m.2.2.2.2.1
  have q0 : (T 0).1 = 6 + 1 := by rw [h.m.2.2.2.2.2.2.2]
  have q4 : (T (6 * i + 19)).1 = 3 + 1 := by rw [h.t4 (by omega)]
  obtain ⟨r15, t3⟩ : R (6 * i + 19) 15 = some (φ (6 * i + 22)) ∧ T (6 * i + 22) = (3, 0) := by
    obtain ⟨hj, hl, hx, hm, hr⟩ := h; obtain ⟨hx0, hx1, hx2, hx3, hx4, hx5, hx6, hx7, hx8, hx9, hx10, hx11, hx12, hx13, hx14, hx15, hx16, hx17, hx18, hx19, hx20, hx21, hx22, hx23, hx24, hx25, hx26, hx27⟩ := hx; obtain ⟨hm0, hm1, hm2, hm3, hm4, hm5, hm6, hm7, hm8, hm9, hm10, hm11, hm12, hm13, hm14, hm15, hm16, hm17, hm18, hm19, hm20, hm21, hm22, hm23, hm24, hm25, hm26, hm27, hm28, hm29, hm30, hm31, hm32, hm33, hm34, hm35, hm36, hm37, hm38, hm39, hm40, hm41, hm42, hm43, hm44⟩ := hm; obtain ⟨⟨⟨g1, g2⟩, ⟨g3, g4, g5, g6, g7⟩, g8, g9, g10⟩, r1, r2, r3, r4, r5, r6⟩ := hr
    exact ⟨hx18 i (by omega), hx21 i (by omega)⟩
  rw [b_X4_digestLot_149, gR_pt hj q4, r15, ob_pt hj (by rw [t3]), x_isOpen hj t3, cl1_s, loC]
  by_cases c : I (6 * i + 22) 0 ≤ 0
  · rw [if_pos c, if_pos rfl, if_pos c, b_X4_digestLot_207]
  · rw [if_neg c, if_neg (by decide), if_neg c, nm, ob_pt hj q0, x_wouldPay h (InN.of iL (by omega)) (tnK (by omega)) c, cx1_s, nm, nm]
    exact x_dL178 h iL 4 0 _ 40 (by omega) (by omega)
theorem x_dLot (h : Cx φ T I R (mZ τ) e0 nS nL cS cL mx cB bl n) (hn : n < 600) (iL : i < nL) (e : T15 I I') : ∃ I2, f_X4_digestLot (φ 0) d (Int32.ofNat i) (pt φ T I' R τ) = some (.inl (loC I bl i (loB I i (loA I i d))), pt φ T I2 R τ) ∧ T15 I I2 := by
  have hj := h.hj
  have hN := h.m.2.2.2.2.1
  have i16 : i < 16 := by omega
  have h' : Cx φ T I' R (mZ τ) e0 nS nL cS cL mx cB bl n := e.cx h
  have q0 : (T 0).1 = 6 + 1 := by rw [h.m.2.2.2.2.2.2.2]
  have q4 : (T (6 * i + 19)).1 = 3 + 1 := by rw [h.t4 (by omega)]
  have r19 : I' (6 * i + 19) = I (6 * i + 19) := e.1 _ (by omega)
  have r22 : I' (6 * i + 22) = I (6 * i + 22) := e.1 _ (by omega)
  have A : f_X4_digestLot (φ 0) d (Int32.ofNat i) (pt φ T I' R τ) = b_X4_digestLot_125 (φ 0) (Int32.ofNat i) (loA I i d) (some (φ (6 * i + 19))) (pt φ T I' R τ) := by
    rw [f_X4_digestLot, b_X4_digestLot_0]
    refine (x_dL6 h' iL 18 0 d 40 (by omega) (by omega)).trans ?_
    rw [e.vl i16, loA]
    by_cases c : I (6 * i + 19) 0 = 2
    · rw [if_pos c]
      have c' : I' (6 * i + 19) 0 = 2 := by rw [r19]; exact c
      refine (x_dL46 h' iL c' 3 0 _ 40 (by omega) (by omega)).trans ?_
      refine (x_dL87 h' hn iL c' 3 0 _ 40 (by omega) (by omega)).trans ?_
      rw [e.nv i16, show (fun k => TV I' (NV I i k)) = fun k => TV I (NV I i k) from funext fun k => e.tv]
    · rw [if_neg c, show (40 : Nat) = 39 + 1 from rfl, l_X4_digestLot_46, itr_succ, b_X4_digestLot_46, gI_pt hj q4, r19, if_neg c, b_X4_digestLot_84, show (40 : Nat) = 39 + 1 from rfl, l_X4_digestLot_87, itr_succ, b_X4_digestLot_87, gI_pt hj q4, r19, if_neg c]
  rw [A, b_X4_digestLot_125, gI_pt hj q4, r19, loB]
  by_cases c : I (6 * i + 19) 0 = 1
  · obtain ⟨I2, f1, f2, f3, f4⟩ := x_bestFire h' (InN.of iL (by omega)) (tnK (by omega)) (by rw [r19]; exact c)
    rw [e.bf i16] at f1
    have e2 : T15 I I2 := ⟨fun v hv => by rw [f2 v hv, e.1 v hv], f3, f4⟩
    have h2 : Cx φ T I2 R (mZ τ) e0 nS nL cS cL mx cB bl n := e2.cx h
    refine ⟨I2, ?_, e2⟩
    rw [if_pos c, if_pos c, nm, ob_pt hj q0, f1, cx1_s, nm, nm, x_dL149 h2 iL, loC, loC, e2.1 _ (by omega), e2.wv i16, e2.bd i16]; rfl
  · refine ⟨I', ?_, e⟩
    rw [if_neg c, if_neg c, x_dL149 h' iL, loC, loC, r22, e.wv i16, e.bd i16]
theorem x_dLL (h : Cx φ T I R (mZ τ) e0 nS nL cS cL mx cB bl n) (hn : n < 600) : ∀ m i d fl (I' : Nat → Nat → Int32), i + m = nL → m + 1 ≤ fl → T15 I I' → ∃ I2, l_X4_digest_95 fl (φ 0) d (Int32.ofNat i) (pt φ T I' R τ) = l_X4_digest_118 40 (φ 0) (loD I bl m i d) 0 (pt φ T I2 R τ) ∧ T15 I I2 := by
  have hj := h.hj
  have hN := h.m.2.2.2.2.1
  have q0 : (T 0).1 = 6 + 1 := by rw [h.m.2.2.2.2.2.2.2]
  have g2 : I 0 4 = Int32.ofNat nL := h.2.2.2.2.1.1.2
  intro m
  induction m with
  | zero =>
    intro i d fl I' h1 h2 e
    obtain ⟨fl', rfl⟩ : ∃ x, fl = x + 1 := ⟨fl - 1, by omega⟩
    have c1 : Int32.ofNat nL ≤ Int32.ofNat i := (kN_le (by omega) (by omega)).mpr (by omega)
    refine ⟨I', ?_, e⟩
    rw [l_X4_digest_95, itr_succ, b_X4_digest_95, gI_pt hj q0, e.1 0 (by omega), g2, if_pos c1]; rfl
  | succ m ih =>
    intro i d fl I' h1 h2 e
    obtain ⟨fl', rfl⟩ : ∃ x, fl = x + 1 := ⟨fl - 1, by omega⟩
    have c1 : ¬ Int32.ofNat nL ≤ Int32.ofNat i := by rw [kN_le (by omega) (by omega)]; omega
    obtain ⟨I2, f1, f2⟩ := x_dLot (d := d) h hn (show i < nL by omega) e
    obtain ⟨I3, f3, f4⟩ := ih (i + 1) (loC I bl i (loB I i (loA I i d))) fl' I2 (by omega) (by omega) f2
    refine ⟨I3, ?_, f4⟩
    rw [l_X4_digest_95, itr_succ, b_X4_digest_95, gI_pt hj q0, e.1 0 (by omega), g2, if_neg c1, ob_pt hj q0, f1, cx1_s, nm, kN_s]
    exact f3
theorem x_ofTasC (h : Cx φ T I R (mZ τ) e0 nS nL cS cL mx cB bl n) (hn : n < 600) (hj3 : j < 3) : f_X4_ofTaster (φ 0) (Int32.ofNat j) 0 (pt φ T I R τ) = some (.inl (gs (I (j + 3) 1) (I (j + 3) 2)), pt φ T I R τ) ∧ f_X4_ofTaster (φ 0) (Int32.ofNat j) 1 (pt φ T I R τ) = some (.inl (I (j + 3) 2), pt φ T I R τ) := by
  have hj := h.hj
  have q0 : (T 0).1 = 6 + 1 := by rw [h.m.2.2.2.2.2.2.2]
  have A := x_tasAt h (InN.of hj3 (by omega)) (tnK (by omega))
  have G := x_gsT (τ := τ) h (by omega) hj3
  have t6 : (T (j + 3)).1 = 5 + 1 := by
    obtain ⟨hj, hl, hx, hm, hr⟩ := h; obtain ⟨hx0, hx1, hx2, hx3, hx4, hx5, hx6, hx7, hx8, hx9, hx10, hx11, hx12, hx13, hx14, hx15, hx16, hx17, hx18, hx19, hx20, hx21, hx22, hx23, hx24, hx25, hx26, hx27⟩ := hx; obtain ⟨hm0, hm1, hm2, hm3, hm4, hm5, hm6, hm7, hm8, hm9, hm10, hm11, hm12, hm13, hm14, hm15, hm16, hm17, hm18, hm19, hm20, hm21, hm22, hm23, hm24, hm25, hm26, hm27, hm28, hm29, hm30, hm31, hm32, hm33, hm34, hm35, hm36, hm37, hm38, hm39, hm40, hm41, hm42, hm43, hm44⟩ := hm; obtain ⟨⟨⟨g1, g2⟩, ⟨g3, g4, g5, g6, g7⟩, g8, g9, g10⟩, r1, r2, r3, r4, r5, r6⟩ := hr
    rw [hx27 j hj3]
  constructor
  · rw [f_X4_ofTaster, b_X4_ofTaster_0, ob_pt hj q0, A, cx1_s, x_req _ (by decide) (by decide), cx1_s, if_pos rfl, ob_pt hj t6, G, cl1_s, b_X4_ofTaster_27]
  · rw [f_X4_ofTaster, b_X4_ofTaster_0, ob_pt hj q0, A, cx1_s, x_req _ (by decide) (by decide), cx1_s, if_neg (by decide), gI_pt hj t6, b_X4_ofTaster_27]
theorem x_dT (h : Cx φ T I R (mZ τ) e0 nS nL cS cL mx cB bl n) (hn : n < 600) (e : T15 I I') : ∀ m j d fl, j + m = 3 → m + 1 ≤ fl → l_X4_digest_118 fl (φ 0) d (Int32.ofNat j) (pt φ T I' R τ) = some (.inl (ad (taD I m j d) (BM I (n3 3 3 3) nL)), pt φ T I' R τ) := by
  have hj := h.hj
  have hN := h.m.2.2.2.2.1
  have h' : Cx φ T I' R (mZ τ) e0 nS nL cS cL mx cB bl n := e.cx h
  have q0 : (T 0).1 = 6 + 1 := by rw [h.m.2.2.2.2.2.2.2]
  intro m
  induction m with
  | zero =>
    intro j d fl h1 h2
    obtain ⟨fl', rfl⟩ : ∃ x, fl = x + 1 := ⟨fl - 1, by omega⟩
    have c1 : (3 : Int32) ≤ Int32.ofNat j := (kN_le (a := 3) (by omega) (by omega)).mpr (by omega)
    rw [l_X4_digest_118, itr_succ, b_X4_digest_118, if_pos c1, nm, ob_pt hj q0, x_bestMix h' ⟨by decide, by decide⟩ ⟨by decide, by decide⟩ ⟨by decide, by decide⟩, cx1_s, nm, nm, e.bm hN]; rfl
  | succ m ih =>
    intro j d fl h1 h2
    obtain ⟨fl', rfl⟩ : ∃ x, fl = x + 1 := ⟨fl - 1, by omega⟩
    have c1 : ¬ (3 : Int32) ≤ Int32.ofNat j := by rw [show (3 : Int32) = Int32.ofNat 3 from rfl, kN_le (by omega) (by omega)]; omega
    obtain ⟨t0, t1⟩ := x_ofTasC h' hn (show j < 3 by omega)
    rw [e.1 (j + 3) (by omega)] at t0 t1
    rw [l_X4_digest_118, itr_succ, b_X4_digest_118, if_neg c1, nm, ob_pt hj q0, t0, cx1_s, nm, nm, nm, ob_pt hj q0, t1, cx1_s, nm, nm, nm, kN_s]
    exact ih (j + 1) _ fl' (by omega) (by omega)
theorem x_digest (h : Cx φ T I R (mZ τ) e0 nS nL cS cL mx cB bl n) (hn : n < 600) : ∃ I2, f_X4_digest (φ 0) (pt φ T I R τ) = some (.inl (DGV I nS nL bl), pt φ T I2 R τ) ∧ T15 I I2 := by
  have hN := h.m.2.2.2.2.1
  have hS := h.m.2.2.2.2.2.1
  have e0' : T15 I I := ⟨fun _ _ => rfl, h.2.2.2.2.1.2.2.2⟩
  obtain ⟨I2, f1, f2⟩ := x_dLL h hn nL 0 (seD I nS 0 (fo (MV I nL) 15 0 5402)) 40 I (by omega) (by omega) e0'
  refine ⟨I2, ?_, f2⟩
  rw [f_X4_digest, b_X4_digest_0]
  refine (x_dM h 15 0 5402 40 (by omega) (by omega)).trans ?_
  refine (x_dSS h nS 0 _ 40 (by omega) (by omega)).trans ?_
  refine f1.trans ?_
  exact x_dT h hn f2 3 0 _ 40 (by omega) (by omega)
end D1
