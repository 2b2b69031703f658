/-! ONE ROUND OF THE LAW -/
section LW
variable {φ : Nat → Nat} {T : Nat → Nat × Nat} {I J : Nat → Nat → Int32} {R : Nat → Nat → Option Nat} {τ : Mem} {nS nL n z : Nat}
variable {i s k : Nat} {pu wa r q : Int32} {P : Int} {xs : Nat → Int32} {L9 b9 : Nat}
variable {K : (Option Nat) → Int32 → Int32 → Int32 → Int32 → Mem → Option ((Int32) × Mem)}
theorem T15.dg {I2 : Nat → Nat → Int32} (e : T15 I I2) (hN : nL ≤ 16) (hS : nS ≤ 4) : DGV I2 nS nL = DGV I nS nL := by
  have e0 : I2 0 = I 0 := e.1 0 (by omega)
  have e10 : I2 10 = I 10 := e.1 10 (by omega)
  have eC : ∀ s, sm (ctV I2 s) nL = sm (ctV I s) nL := fun s => sm_congr (fun j hj => by unfold ctV; rw [e.1 _ (by omega)])
  have eD : sm (dyV I2) nL = sm (dyV I) nL := sm_congr (fun j hj => by unfold dyV; rw [e.1 _ (by omega)])
  have eM : MV I2 nL = MV I nL := by
    funext k
    unfold MV
    rw [e0, e10, eC, eC, eC, eD]
  have eS : ∀ m j d, j + m ≤ 4 → seD I2 m j d = seD I m j d := by
    intro m
    induction m with
    | zero => intro j d _; rfl
    | succ m ih =>
      intro j d hj
      have a1 : vSI I2 j = vSI I j := by funext k; unfold vSI; rw [e.1 _ (by omega), e.1 _ (by omega)]
      have a2 : FI I2 j 3 2 = FI I j 3 2 := by unfold FI; rw [e.1 _ (by omega)]
      rw [seD, seD, a1, a2]
      exact ih (j + 1) _ (by omega)
  have eL : ∀ m j d, j + m ≤ 16 → loD I2 m j d = loD I m j d := by
    intro m
    induction m with
    | zero => intro j d _; rfl
    | succ m ih =>
      intro j d hj
      have r1 : I2 (6 * j + 19) = I (6 * j + 19) := e.1 _ (by omega)
      have r2 : I2 (6 * j + 22) = I (6 * j + 22) := e.1 _ (by omega)
      have b1 : NV I2 j = NV I j := e.nv (by omega)
      have b2 : (fun k => TV I2 (NV I j k)) = fun k => TV I (NV I j k) := funext fun k => e.tv
      have b3 : vLI I2 j = vLI I j := e.vl (by omega)
      have b4 : bdV I2 j = bdV I j := e.bd (by omega)
      have a1 : ∀ d, loA I2 j d = loA I j d := fun d => by unfold loA; rw [r1, b1, b2, b3]
      have a2 : ∀ d, loB I2 j d = loB I j d := fun d => by unfold loB; rw [r1, e.bf (by omega)]
      have a3 : ∀ d, loC I2 j d = loC I j d := fun d => by unfold loC; rw [r2, b4, e.wv (by omega)]
      rw [loD, loD, a1, a2, a3]
      exact ih (j + 1) _ (by omega)
  have eT : ∀ m j d, taD I2 m j d = taD I m j d ∨ 3 < j + m := by
    intro m
    induction m with
    | zero => intro j d; exact Or.inl rfl
    | succ m ih =>
      intro j d
      by_cases c : 3 < j + (m + 1)
      · exact Or.inr c
      · rw [taD, taD, e.1 (j + 3) (by omega)]
        rcases ih (j + 1) (ad (ad d (gs (I (j + 3) 1) (I (j + 3) 2))) (I (j + 3) 2)) with h | h
        · exact Or.inl h
        · exact absurd h (by omega)
  unfold DGV
  rw [eM, eS nS 0 _ (by omega), eL nL 0 _ (by omega), e.bm hN]
  rcases eT 3 0 (loD I nL 0 (seD I nS 0 (fo (MV I nL) 15 0 5402))) with h | h
  · rw [h]
  · exact absurd h (by omega)
/-- what stands after k rounds -/
def Iv (φ : Nat → Nat) (T : Nat → Nat × Nat) (R : Nat → Nat → Option Nat) (nS k : Nat) (I : Nat → Nat → Int32) (τ : Mem) (nL : Nat) (pu wa : Int32) : Prop :=
  ∃ n P, Cx φ T I R (mZ τ) nS nL n ∧ Mon I P n ∧ n ≤ 6 * k ∧ pu.toInt - wa.toInt = P ∧ (0 ≤ pu.toInt ∧ pu.toInt ≤ 200 * k) ∧ (0 ≤ wa.toInt ∧ wa.toInt ≤ 18 * k)
def Gd (φ : Nat → Nat) (T : Nat → Nat × Nat) (R : Nat → Nat → Option Nat) (nS k : Nat) (K : (Option Nat) → Int32 → Int32 → Int32 → Int32 → Mem → Option ((Int32) × Mem)) (res : Option (Int32 × Mem)) : Prop :=
  ∃ I' τ' nL' pu' wa', res = K (some (φ 0)) (Int32.ofNat nS) pu' wa' (Int32.ofNat (k + 1)) (pt φ T I' R τ') ∧ Iv φ T R nS (k + 1) I' τ' nL' pu' wa'
theorem x_658 (h : Cx φ T I R (mZ τ) nS nL n) (hM : Mon I P n) (hk : k < 48) (hn : n ≤ 6 * (k + 1)) (hP : pu.toInt - wa.toInt = P) (hp : 0 ≤ pu.toInt ∧ pu.toInt ≤ 200 * (k + 1)) (hw : 0 ≤ wa.toInt ∧ wa.toInt ≤ 18 * (k + 1)) : Gd φ T R nS k K (b_L_law_658 xs L9 b9 K (some (φ 0)) (Int32.ofNat nS) pu wa (Int32.ofNat k) (pt φ T I R τ)) := by
  obtain ⟨τ', F, hz⟩ := x_sound (τ := τ) (p := pu - wa) h (by omega) hM (by rw [tSub (by omega) (by omega)]; exact hP)
  refine ⟨I, τ', nL, pu, wa, ?_, n, P, h.up hz, hM, hn, hP, by omega, by omega⟩
  rw [b_L_law_658, nm, F, cl1_s, if_neg (by decide), nm, kN_s]
/-- a call that leaves the money as it was -/
theorem x_658s {J : Nat → Nat → Int32} {τ' : Mem} {nL' n' : Nat} (h : Cx φ T J R (mZ τ') nS nL' n') (hM : Mon I P n) (hnn : n ≤ n') (e1 : J 0 8 = I 0 8) (e2 : J 10 = I 10) (hk : k < 48) (hn : n' ≤ 6 * (k + 1)) (hP : pu.toInt - wa.toInt = P) (hp : 0 ≤ pu.toInt ∧ pu.toInt ≤ 200 * k) (hw : 0 ≤ wa.toInt ∧ wa.toInt ≤ 18 * k) : Gd φ T R nS k K (b_L_law_658 xs L9 b9 K (some (φ 0)) (Int32.ofNat nS) pu wa (Int32.ofNat k) (pt φ T J R τ')) :=
  x_658 h (hM.same hnn e1 e2) hk hn hP (by omega) (by omega)
theorem x_228 (h : Cx φ T I R (mZ τ) nS nL n) (hM : Mon I P n) (hk : k < 48) (hn : n ≤ 6 * k) (hP : pu.toInt - wa.toInt = P) (hp : 0 ≤ pu.toInt ∧ pu.toInt ≤ 200 * k) (hw : 0 ≤ wa.toInt ∧ wa.toInt ≤ 18 * k) (sS : s < nS) : Gd φ T R nS k K (b_L_law_228 xs L9 b9 K (some (φ 0)) (Int32.ofNat nS) pu wa (Int32.ofNat k) r (Int32.ofNat s) (pt φ T I R τ)) := by
  obtain ⟨b1, hb1, B1⟩ := bl_of (c := 7) (v := r >>> (4 &&& 31)) (σ := pt φ T I R τ) (by omega) (by omega)
  have B1' : f_L_below (r >>> (4 &&& 31)) 7 (pt φ T I R τ) = some (Int32.ofNat b1, pt φ T I R τ) := B1
  obtain ⟨b2, hb2, B2⟩ := bl_of (c := 7) (v := r >>> (7 &&& 31)) (σ := pt φ T I R τ) (by omega) (by omega)
  have B2' : f_L_below (r >>> (7 &&& 31)) 7 (pt φ T I R τ) = some (Int32.ofNat b2, pt φ T I R τ) := B2
  obtain ⟨J', F, C, e1, e2⟩ := x_grown (τ := τ) (w := Int32.ofNat b1) (e := Int32.ofNat b2) h (by omega) sS (rgN (lo := 0) (hi := 6) (by omega) (by omega)) (rgN (lo := 0) (hi := 6) (by omega) (by omega))
  rw [b_L_law_228, nm, B1', cl1_s, nm, B2', cl1_s, F, cl1_s, if_neg (by decide)]
  exact x_658s C hM (by omega) e1 e2 hk (by omega) hP hp hw
theorem x_258 (h : Cx φ T I R (mZ τ) nS nL n) (hM : Mon I P n) (hk : k < 48) (hn : n ≤ 6 * k) (hP : pu.toInt - wa.toInt = P) (hp : 0 ≤ pu.toInt ∧ pu.toInt ≤ 200 * k) (hw : 0 ≤ wa.toInt ∧ wa.toInt ≤ 18 * k) (sS : s < nS) : Gd φ T R nS k K (b_L_law_258 xs L9 b9 K (some (φ 0)) (Int32.ofNat nS) pu wa (Int32.ofNat k) r (Int32.ofNat s) (pt φ T I R τ)) := by
  have hj := h.hj
  have hN := h.m.2.2.2.2.1
  have hS := h.m.2.2.2.2.2.1
  have q0 := q0_of h
  have g2 : I 0 4 = Int32.ofNat nL := h.2.2.2.2.1.2
  have M2 : f_X4_many (φ 0) 2 (pt φ T I R τ) = some (Int32.ofNat nL, pt φ T I R τ) := by rw [← g2]; exact x_many (k := 2) h (by omega)
  have S8 : f_X4_ofSection (φ 0) (Int32.ofNat s) 8 (pt φ T I R τ) = some (I (2 * s + 12) 2, pt φ T I R τ) := x_ofSecC (k := 8) h sS (by omega)
  have W := x_658s (xs := xs) (L9 := L9) (b9 := b9) (K := K) h hM (Nat.le_refl _) rfl rfl hk (by omega) hP hp hw
  rw [b_L_law_258, ob_pt hj q0, M2, cl1_s]
  by_cases c1 : 12 < Int32.ofNat nL
  · rw [if_pos c1]; exact W
  · rw [if_neg c1, ob_pt hj q0, S8, cl1_s]
    by_cases c2 : I (2 * s + 12) 2 = 0
    · rw [if_pos c2]; exact W
    · have hL : nL < 16 := by
        rw [show (12 : Int32) = Int32.ofNat 12 from rfl, kN_lt (by omega) (by omega)] at c1; omega
      obtain ⟨b1, hb1, B1⟩ := bl_of (c := 9) (v := r >>> (4 &&& 31)) (σ := pt φ T I R τ) (by omega) (by omega)
      have B1' : f_L_below (r >>> (4 &&& 31)) 9 (pt φ T I R τ) = some (Int32.ofNat b1, pt φ T I R τ) := B1
      obtain ⟨b2, hb2, B2⟩ := bl_of (c := 3) (v := r >>> (7 &&& 31)) (σ := pt φ T I R τ) (by omega) (by omega)
      have B2' : f_L_below (r >>> (7 &&& 31)) 3 (pt φ T I R τ) = some (Int32.ofNat b2, pt φ T I R τ) := B2
      have hh := rgN (a := b1 + 1) (lo := 1) (hi := 9) (by omega) (by omega)
      obtain ⟨J', P1, P2, P3, P4, P5, P6⟩ := x_pluckF (τ := τ) (st := b2 + 1) (hands := Int32.ofNat (b1 + 1)) h (by omega) sS (by omega) hh hL c2
      have eh : (Int32.ofNat (b1 + 1)).toInt = (b1 + 1 : Nat) := kN_t (by omega)
      have z2 : (2 : Int32).toInt = 2 := rfl
      have z40 : (40 : Int32).toInt = 40 := rfl
      have e2h : (2 * Int32.ofNat (b1 + 1)).toInt = 2 * (b1 + 1 : Nat) := by rw [tMul (by rw [z2]; omega) (by rw [z2]; omega), z2, eh]
      have g2' : J' 0 4 = Int32.ofNat (nL + 1) := P2.2.2.2.2.1.2
      have M2' : f_X4_many (φ 0) 2 (pt φ T J' R τ) = some (Int32.ofNat (nL + 1), pt φ T J' R τ) := by rw [← g2']; exact x_many (k := 2) P2 (by omega)
      have e1 : Int32.ofNat (nL + 1) - 1 = Int32.ofNat nL := by
        have t1 : (Int32.ofNat (nL + 1)).toInt = (nL + 1 : Nat) := kN_t (by omega)
        have t2 : (Int32.ofNat nL).toInt = nL := kN_t (by omega)
        have t3 : (1 : Int32).toInt = 1 := rfl
        exact Int32.toInt_inj.mp (by rw [tSub (by omega) (by omega)]; omega)
      have e14 : 14 + Int32.ofNat s = Int32.ofNat (s + 14) := by rw [Int32.add_comm]; exact (Int32.ofNat_add s 14).symm
      have LU := lo (τ := τ) (k := s + 14) P2 (show nL < nL + 1 by omega) (by omega)
      rw [vU (by omega), P3] at LU
      have L1 : f_X4_ofLot (φ 0) (Int32.ofNat nL) 1 (pt φ T J' R τ) = some (J' (6 * nL + 19) 1, pt φ T J' R τ) := lo (k := 1) P2 (show nL < nL + 1 by omega) (by omega)
      have c40 : J' (6 * nL + 19) 1 ≤ 40 * Int32.ofNat (b1 + 1) := Int32.le_iff_toInt_le.mpr (by rw [tMul (by rw [z40]; omega) (by rw [z40]; omega), z40]; exact P4)
      obtain ⟨m1, m2, m3⟩ := hM
      have v0 := m1 0 (by omega); have v1 := m1 1 (by omega); have v2 := m1 2 (by omega); have v3 := m1 3 (by omega)
      have hM' : Mon J' (P - 2 * (b1 + 1 : Nat)) (n + 1) := by
        refine ⟨fun j hj => ?_, ?_, by omega, by omega⟩
        · rw [P6]; have := m1 j hj; omega
        · rw [P6, P5, tSub (by omega) (by omega), e2h]; omega
      rw [if_neg c2, nm, B1', cl1_s, nm, oneN, nm, B2', cl1_s, nm, oneN, ob_pt hj q0, P1, cl1_s, ob_pt hj q0, M2', cl1_s, nm, e1, if_pos rfl, ob_pt hj q0, M2', cl1_s, nm, nm, e1, e14, ob_pt hj q0, LU, cl1_s, ob_pt hj q0, M2', cl1_s, nm, e1, ob_pt hj q0, L1, cl1_s, if_pos rfl, ob_pt hj q0, M2', cl1_s, nm, e1, ob_pt hj q0, L1, cl1_s, nm, if_pos c40, nm, nm]
      have ew : (wa + 2 * Int32.ofNat (b1 + 1)).toInt = wa.toInt + 2 * (b1 + 1 : Nat) := by rw [tAdd (by omega) (by omega), e2h]
      exact x_658 P2 hM' hk (by omega) (by omega) (by omega) (by omega)
theorem x_515 (h : Cx φ T I R (mZ τ) nS nL n) (hM : Mon I P n) (hk : k < 48) (hn : n + 1 ≤ 6 * (k + 1)) (hP : pu.toInt - wa.toInt = P) (hp : 0 ≤ pu.toInt ∧ pu.toInt ≤ 200 * (k + 1)) (hw : 0 ≤ wa.toInt ∧ wa.toInt ≤ 18 * (k + 1)) (iL : i < nL) (ho : ¬ I (6 * i + 22) 0 ≤ 0) {b : Nat} (hb : b < 4) : Gd φ T R nS k K (b_L_law_515 xs L9 b9 K (some (φ 0)) (Int32.ofNat nS) pu wa (Int32.ofNat k) q (Int32.ofNat i) (Int32.ofNat b) (pt φ T I R τ)) := by
  have hj := h.hj
  have hN := h.m.2.2.2.2.1
  have q0 := q0_of h
  obtain ⟨b1, hb1, B1⟩ : ∃ b1, b1 < 50 ∧ ∀ σ, f_L_below (q >>> (5 &&& 31)) 50 σ = some (Int32.ofNat b1, σ) := by
    refine ⟨blw (q >>> (5 &&& 31)) 50, ?_, fun σ => x_below (by decide)⟩
    have := blw_lt (v := q >>> (5 &&& 31)) (m := 50) (by decide)
    have z : (50 : Int32).toInt = 50 := rfl
    omega
  obtain ⟨v, J', P1, P2, P3, P4, P5, P6⟩ := x_bidF (τ := τ) (c := Int32.ofNat (b1 + 1)) h iL ho hb (rgN (lo := 1) (hi := 99) (by omega) (by omega))
  have c0 : ¬ J' (6 * i + 23) b ≤ 0 := by
    rw [P4, show (0 : Int32) = Int32.ofNat 0 from rfl, kN_le (by omega) (by omega)]; omega
  have BO : f_X4_bidOf (φ 0) (Int32.ofNat b) (Int32.ofNat i) (pt φ T J' R τ) = some (Int32.ofNat (b1 + 1), pt φ T J' R τ) := by
    rw [x_bidOf P3 (InN.of iL (by omega)) (tnK (by omega)) hb, if_neg c0, P4]
  rw [b_L_law_515, nm, B1, cl1_s, nm, oneN, ob_pt hj q0, P1, cl1_s, if_neg P2, ob_pt hj q0, BO, cl1_s, nm, B1, cl1_s, nm, oneN, if_pos rfl]
  exact x_658 P3 (hM.same (by omega) (by rw [P5]) P6) hk hn hP hp hw
end LW
