/-! THE START: the garden -/
section SU
variable {φ : Nat → Nat} {T : Nat → Nat × Nat} {I : Nat → Nat → Int32} {R : Nat → Nat → Option Nat} {τ : Mem} {e0 mi g w v ci k t c i : Nat} {x p : Int32} {r : Option Nat}
def GB (φ : Nat → Nat) (T : Nat → Nat × Nat) (I : Nat → Nat → Int32) (R : Nat → Nat → Option Nat) : Prop :=
  T 0 = (7, 0) ∧ R 0 0 = some (φ 1) ∧ R 0 3 = some (φ 2) ∧ R 0 5 = some (φ 115) ∧ R 0 6 = some (φ 9) ∧ R 0 7 = some (φ 10) ∧ T 1 = (103, 4) ∧ T 2 = (102, 16) ∧ T 9 = (104, 3) ∧ T 10 = (100, 4) ∧ I 0 = (fun _ => 0) ∧ I 10 = (fun _ => 0) ∧ LotOK φ T I R 115
theorem GB.fr {φ' : Nat → Nat} {T' : Nat → Nat × Nat} {I' : Nat → Nat → Int32} {R' : Nat → Nat → Option Nat} (h : GB φ T I R) (e : ∀ v, v = 0 ∨ v = 10 ∨ (115 ≤ v ∧ v ≤ 120) → Eqv φ φ' T T' I I' R R' v) (e2 : ∀ v, v = 1 ∨ v = 2 ∨ v = 9 → φ' v = φ v ∧ T' v = T v) : GB φ' T' I' R' := by
  obtain ⟨h1, h2, h3, h4, h5, h6, h7, h8, h9, h10, h11, h12, h13⟩ := h
  obtain ⟨a1, a2, a3, a4⟩ := e 0 (Or.inl rfl)
  obtain ⟨b1, b2, b3, b4⟩ := e 10 (Or.inr (Or.inl rfl))
  obtain ⟨c1, c2⟩ := e2 1 (Or.inl rfl)
  obtain ⟨d1, d2⟩ := e2 2 (Or.inr (Or.inl rfl))
  obtain ⟨f1, f2⟩ := e2 9 (Or.inr (Or.inr rfl))
  exact ⟨by rw [a2]; exact h1, by rw [a4, c1]; exact h2, by rw [a4, d1]; exact h3, by rw [a4, (e 115 (Or.inr (Or.inr ⟨by omega, by omega⟩))).1]; exact h4, by rw [a4, f1]; exact h5, by rw [a4, b1]; exact h6, by rw [c2]; exact h7, by rw [d2]; exact h8, by rw [f2]; exact h9, by rw [b2]; exact h10, by rw [a3]; exact h11, by rw [b3]; exact h12, h13.fr (fun v h1 h2 => e v (Or.inr (Or.inr ⟨by omega, by omega⟩)))⟩
def PSt (φ : Nat → Nat) (T : Nat → Nat × Nat) (I : Nat → Nat → Int32) (R : Nat → Nat → Option Nat) (i : Nat) : Prop := GB φ T I R ∧ ∀ j, j < i → SecOK φ T I R (2 * j + 11) ∧ R 1 j = some (φ (2 * j + 11))
def PLt (φ : Nat → Nat) (T : Nat → Nat × Nat) (I : Nat → Nat → Int32) (R : Nat → Nat → Option Nat) (i : Nat) : Prop := PSt φ T I R 4 ∧ ∀ j, j < i → LotOK φ T I R (6 * j + 19) ∧ R 2 j = some (φ (6 * j + 19))
def PTt (φ : Nat → Nat) (T : Nat → Nat × Nat) (I : Nat → Nat → Int32) (R : Nat → Nat → Option Nat) (i : Nat) : Prop := PLt φ T I R 16 ∧ ∀ j, j < i → T (j + 3) = (6, 0) ∧ I (j + 3) = (fun _ => 0) ∧ R 9 j = some (φ (j + 3))
theorem PSt.fr {φ' : Nat → Nat} {T' : Nat → Nat × Nat} {I' : Nat → Nat → Int32} {R' : Nat → Nat → Option Nat} (h : PSt φ T I R i) (hi : i ≤ 4) (e : ∀ v, v = 0 ∨ v = 10 ∨ (115 ≤ v ∧ v ≤ 120) ∨ (11 ≤ v ∧ v < 2 * i + 11) → Eqv φ φ' T T' I I' R R' v) (e2 : ∀ v, v = 1 ∨ v = 2 ∨ v = 9 → φ' v = φ v ∧ T' v = T v) (e3 : ∀ j, j < i → R' 1 j = R 1 j) : PSt φ' T' I' R' i := by
  refine ⟨h.1.fr (fun v hv => e v (by omega)) e2, fun j hj => ⟨(h.2 j hj).1.fr (fun v h1 h2 => e v (by omega)), ?_⟩⟩
  rw [e3 j hj, (h.2 j hj).2, (e (2 * j + 11) (by omega)).1]
theorem PLt.fr {φ' : Nat → Nat} {T' : Nat → Nat × Nat} {I' : Nat → Nat → Int32} {R' : Nat → Nat → Option Nat} (h : PLt φ T I R i) (hi : i ≤ 16) (e : ∀ v, v = 0 ∨ v = 10 ∨ (115 ≤ v ∧ v ≤ 120) ∨ (11 ≤ v ∧ v < 19) ∨ (19 ≤ v ∧ v < 6 * i + 19) → Eqv φ φ' T T' I I' R R' v) (e2 : ∀ v, v = 1 ∨ v = 2 ∨ v = 9 → φ' v = φ v ∧ T' v = T v) (e3 : R' 1 = R 1) (e4 : ∀ j, j < i → R' 2 j = R 2 j) : PLt φ' T' I' R' i := by
  refine ⟨h.1.fr (Nat.le_refl _) (fun v hv => e v (by omega)) e2 (fun j _ => by rw [e3]), fun j hj => ⟨(h.2 j hj).1.fr (fun v h1 h2 => e v (by omega)), ?_⟩⟩
  rw [e4 j hj, (h.2 j hj).2, (e (6 * j + 19) (by omega)).1]
theorem x_i84 {x0 : Nat} : ∀ d i fl (φ : Nat → Nat) (T : Nat → Nat × Nat) (I : Nat → Nat → Int32) (R : Nat → Nat → Option Nat) (τ : Mem), i + d = 4 → d + 1 ≤ fl → Inj φ T → live T φ (mZ τ) → φ 0 = x0 → PSt φ T I R i → ∃ φ' T' I' R' τ', l_X4_init_84 fl x0 (Int32.ofNat i) (pt φ T I R τ) = l_X4_init_114 17 x0 0 (pt φ' T' I' R' τ') ∧ Inj φ' T' ∧ live T' φ' (mZ τ') ∧ φ' 0 = x0 ∧ PSt φ' T' I' R' 4 ∧ (∀ v, 121 ≤ v → Eqv φ φ' T T' I I' R R' v) ∧ mZ τ ≤ mZ τ' := by
  intro d
  induction d with
  | zero =>
    intro i fl φ T I R τ h1 h2 hj hl hx hP
    obtain ⟨fl', rfl⟩ : ∃ x, fl = x + 1 := ⟨fl - 1, by omega⟩
    have i4 : i = 4 := by omega
    subst i4
    obtain ⟨⟨g1, g2, g3, g4, g5, g6, g7, -⟩, -⟩ := id hP
    refine ⟨φ, T, I, R, τ, ?_, hj, hl, hx, hP, fun v _ => Eqv.rfl', Nat.le_refl _⟩
    have al : ∀ {K : Int32 → Option (Unit × Mem)}, aL (pt φ T I R τ) (some (φ 1)) K = K 4 := fun {K} => by
      rw [aL_pt hj (by rw [g7]; exact ⟨by decide, by decide⟩), g7]; rfl
    rw [l_X4_init_84, itr_succ, b_X4_init_84, ← hx, gR_pt hj (by rw [g1]), g2, al, if_pos (show (4 : Int32) ≤ Int32.ofNat 4 by decide)]
  | succ d ih =>
    intro i fl φ T I R τ h1 h2 hj hl hx hP
    obtain ⟨fl', rfl⟩ : ∃ x, fl = x + 1 := ⟨fl - 1, by omega⟩
    obtain ⟨⟨g1, g2, g3, g4, g5, g6, g7, -⟩, hS⟩ := id hP
    have c1 : ¬ (4 : Int32) ≤ Int32.ofNat i := by rw [show (4 : Int32) = Int32.ofNat 4 from rfl, kN_le (by omega) (by omega)]; omega
    have al : ∀ {K : Int32 → Option (Unit × Mem)}, aL (pt φ T I R τ) (some (φ 1)) K = K 4 := fun {K} => by
      rw [aL_pt hj (by rw [g7]; exact ⟨by decide, by decide⟩), g7]; rfl
    obtain ⟨φ1, T1, I1, R1, τ1, a1, a2, a3, a4, a5, a6, a7, a8⟩ := al_O (I := I) (R := R) (2 * i + 11) 4 hj hl
    obtain ⟨φ2, T2, I2, R2, τ2, b1, b2, b3, b4, b5, b6, b7⟩ := x_secI (R := R1) a2 a3 a4 a5
    have E : ∀ v, v ≠ 2 * i + 11 → v ≠ 2 * i + 12 → Eqv φ φ2 T T2 I I2 R R2 v := fun v y1 y2 => (a7 v y1).trans (b6 v y1 y2)
    obtain ⟨R3, hR3⟩ : ∃ R3, R3 = up2 R2 1 i (some (φ2 (2 * i + 11))) := ⟨_, rfl⟩
    have E3 : ∀ v, v ≠ 2 * i + 11 → v ≠ 2 * i + 12 → v ≠ 1 → Eqv φ φ2 T T2 I I2 R R3 v := fun v y1 y2 y3 => by
      obtain ⟨z1, z2, z3, z4⟩ := E v y1 y2
      exact ⟨z1, z2, z3, by rw [hR3, up2_row y3, z4]⟩
    have E1 := E 1 (by omega) (by omega)
    have P3 : PSt φ2 T2 I2 R3 (i + 1) := by
      have base : PSt φ2 T2 I2 R3 i := hP.fr (by omega) (fun v hv => E3 v (by omega) (by omega) (by omega)) (fun v hv => ⟨(E v (by omega) (by omega)).1, (E v (by omega) (by omega)).2.1⟩) (fun j hj' => by rw [hR3, up2_k (by omega), E1.2.2.2])
      refine ⟨base.1, fun j hj' => ?_⟩
      rcases (show j < i ∨ j = i by omega) with y | y
      · exact base.2 j y
      · subst y
        refine ⟨b4.fr (fun v y1 y2 => ⟨rfl, rfl, rfl, ?_⟩), by rw [hR3, up2_at]⟩
        rw [hR3, up2_row (by omega)]
    have x2 : φ2 0 = x0 := by rw [(E 0 (by omega) (by omega)).1, hx]
    obtain ⟨φ3, T3, I3, R4, τ3, c2, c3, c4, c5, c6, c7, c8⟩ := ih (i + 1) fl' φ2 T2 I2 R3 τ2 (by omega) (by omega) b2 b3 x2 P3
    refine ⟨φ3, T3, I3, R4, τ3, ?_, c3, c4, c5, c6, fun v hv => (E3 v (by omega) (by omega) (by omega)).trans (c7 v hv), by omega⟩
    have W : ∀ {K : Mem → Option (Unit × Mem)}, wR 3 (pt φ2 T2 I2 R2 τ2) (some (φ 1)) (Int32.ofNat i) (some (φ1 (2 * i + 11))) K = K (pt φ2 T2 I2 R3 τ2) := fun {K} => by
      rw [← E1.1, ← b5, wRt_pt 3 b2 (by rw [E1.2.1, g7]) (kN_nn (by omega)) (tnK (by omega)) (by rw [E1.2.1, g7]; show i < 4; omega) (fun y hy => by
        cases hy
        refine Or.inr (Or.inl ⟨rfl, ?_⟩)
        rw [mT_pt b2 (by rw [b4.1]; decide), b4.1]), hR3]
    rw [l_X4_init_84, itr_succ, b_X4_init_84, ← hx, gR_pt hj (by rw [g1]), g2, al, if_neg c1, gR_pt hj (by rw [g1]), g2, a1, ob_pt a2 (by rw [a4]), b1, cl1_s, W, nm, kN_s, hx]
    exact c2
theorem x_i114 {x0 : Nat} : ∀ d i fl (φ : Nat → Nat) (T : Nat → Nat × Nat) (I : Nat → Nat → Int32) (R : Nat → Nat → Option Nat) (τ : Mem), i + d = 16 → d + 1 ≤ fl → Inj φ T → live T φ (mZ τ) → φ 0 = x0 → PLt φ T I R i → ∃ φ' T' I' R' τ', l_X4_init_114 fl x0 (Int32.ofNat i) (pt φ T I R τ) = l_X4_init_144 4 x0 0 (pt φ' T' I' R' τ') ∧ Inj φ' T' ∧ live T' φ' (mZ τ') ∧ φ' 0 = x0 ∧ PLt φ' T' I' R' 16 ∧ (∀ v, 121 ≤ v → Eqv φ φ' T T' I I' R R' v) ∧ mZ τ ≤ mZ τ' := by
  intro d
  induction d with
  | zero =>
    intro i fl φ T I R τ h1 h2 hj hl hx hP
    obtain ⟨fl', rfl⟩ : ∃ x, fl = x + 1 := ⟨fl - 1, by omega⟩
    have i4 : i = 16 := by omega
    subst i4
    obtain ⟨⟨⟨g1, g2, g3, g4, g5, g6, g7, g8, -⟩, -⟩, -⟩ := id hP
    refine ⟨φ, T, I, R, τ, ?_, hj, hl, hx, hP, fun v _ => Eqv.rfl', Nat.le_refl _⟩
    have al : ∀ {K : Int32 → Option (Unit × Mem)}, aL (pt φ T I R τ) (some (φ 2)) K = K 16 := fun {K} => by
      rw [aL_pt hj (by rw [g8]; exact ⟨by decide, by decide⟩), g8]; rfl
    rw [l_X4_init_114, itr_succ, b_X4_init_114, ← hx, gR_pt hj (by rw [g1]), g3, al, if_pos (show (16 : Int32) ≤ Int32.ofNat 16 by decide)]
  | succ d ih =>
    intro i fl φ T I R τ h1 h2 hj hl hx hP
    obtain ⟨fl', rfl⟩ : ∃ x, fl = x + 1 := ⟨fl - 1, by omega⟩
    obtain ⟨⟨⟨g1, g2, g3, g4, g5, g6, g7, g8, -⟩, -⟩, hS⟩ := id hP
    have c1 : ¬ (16 : Int32) ≤ Int32.ofNat i := by rw [show (16 : Int32) = Int32.ofNat 16 from rfl, kN_le (by omega) (by omega)]; omega
    have al : ∀ {K : Int32 → Option (Unit × Mem)}, aL (pt φ T I R τ) (some (φ 2)) K = K 16 := fun {K} => by
      rw [aL_pt hj (by rw [g8]; exact ⟨by decide, by decide⟩), g8]; rfl
    obtain ⟨φ1, T1, I1, R1, τ1, a1, a2, a3, a4, a5, a6, a7, a8⟩ := al_O (I := I) (R := R) (6 * i + 19) 3 hj hl
    obtain ⟨φ2, T2, I2, R2, τ2, b1, b2, b3, b4, b5, b6, b7⟩ := x_lotI (R := R1) a2 a3 a4 a5
    have E : ∀ v, (v < 6 * i + 19 ∨ 6 * i + 24 < v) → Eqv φ φ2 T T2 I I2 R R2 v := fun v y1 => (a7 v (by omega)).trans (b6 v (by omega))
    obtain ⟨R3, hR3⟩ : ∃ R3, R3 = up2 R2 2 i (some (φ2 (6 * i + 19))) := ⟨_, rfl⟩
    have E3 : ∀ v, (v < 6 * i + 19 ∨ 6 * i + 24 < v) → v ≠ 2 → Eqv φ φ2 T T2 I I2 R R3 v := fun v y1 y3 => by
      obtain ⟨z1, z2, z3, z4⟩ := E v y1
      exact ⟨z1, z2, z3, by rw [hR3, up2_row y3, z4]⟩
    have E1 := E 2 (by omega)
    have P3 : PLt φ2 T2 I2 R3 (i + 1) := by
      have base : PLt φ2 T2 I2 R3 i := hP.fr (by omega) (fun v hv => E3 v (by omega) (by omega)) (fun v hv => ⟨(E v (by omega)).1, (E v (by omega)).2.1⟩) (E3 1 (by omega) (by omega)).2.2.2 (fun j hj' => by rw [hR3, up2_k (by omega), E1.2.2.2])
      refine ⟨base.1, fun j hj' => ?_⟩
      rcases (show j < i ∨ j = i by omega) with y | y
      · exact base.2 j y
      · subst y
        refine ⟨b4.fr (fun v y1 y2 => ⟨rfl, rfl, rfl, ?_⟩), by rw [hR3, up2_at]⟩
        rw [hR3, up2_row (by omega)]
    have x2 : φ2 0 = x0 := by rw [(E 0 (by omega)).1, hx]
    obtain ⟨φ3, T3, I3, R4, τ3, c2, c3, c4, c5, c6, c7, c8⟩ := ih (i + 1) fl' φ2 T2 I2 R3 τ2 (by omega) (by omega) b2 b3 x2 P3
    refine ⟨φ3, T3, I3, R4, τ3, ?_, c3, c4, c5, c6, fun v hv => (E3 v (by omega) (by omega)).trans (c7 v hv), by omega⟩
    have W : ∀ {K : Mem → Option (Unit × Mem)}, wR 2 (pt φ2 T2 I2 R2 τ2) (some (φ 2)) (Int32.ofNat i) (some (φ1 (6 * i + 19))) K = K (pt φ2 T2 I2 R3 τ2) := fun {K} => by
      rw [← E1.1, ← b5, wRt_pt 2 b2 (by rw [E1.2.1, g8]) (kN_nn (by omega)) (tnK (by omega)) (by rw [E1.2.1, g8]; show i < 16; omega) (fun y hy => by
        cases hy
        refine Or.inl ⟨rfl, ?_⟩
        rw [mT_pt b2 (by rw [b4.1]; decide), b4.1]), hR3]
    rw [l_X4_init_114, itr_succ, b_X4_init_114, ← hx, gR_pt hj (by rw [g1]), g3, al, if_neg c1, gR_pt hj (by rw [g1]), g3, a1, ob_pt a2 (by rw [a4]), b1, cl1_s, W, nm, kN_s, hx]
    exact c2
theorem x_i144 {x0 : Nat} : ∀ d i fl (φ : Nat → Nat) (T : Nat → Nat × Nat) (I : Nat → Nat → Int32) (R : Nat → Nat → Option Nat) (τ : Mem), i + d = 3 → d + 1 ≤ fl → Inj φ T → live T φ (mZ τ) → φ 0 = x0 → PTt φ T I R i → ∃ φ' T' I' R' τ', l_X4_init_144 fl x0 (Int32.ofNat i) (pt φ T I R τ) = some ((), pt φ' T' I' R' τ') ∧ Inj φ' T' ∧ live T' φ' (mZ τ') ∧ φ' 0 = x0 ∧ PTt φ' T' I' R' 3 ∧ (∀ v, 121 ≤ v → Eqv φ φ' T T' I I' R R' v) ∧ mZ τ ≤ mZ τ' := by
  intro d
  induction d with
  | zero =>
    intro i fl φ T I R τ h1 h2 hj hl hx hP
    obtain ⟨fl', rfl⟩ : ∃ x, fl = x + 1 := ⟨fl - 1, by omega⟩
    have i4 : i = 3 := by omega
    subst i4
    obtain ⟨⟨⟨⟨g1, g2, g3, g4, g5, g6, g7, g8, g9, -⟩, -⟩, -⟩, -⟩ := id hP
    refine ⟨φ, T, I, R, τ, ?_, hj, hl, hx, hP, fun v _ => Eqv.rfl', Nat.le_refl _⟩
    have al : ∀ {K : Int32 → Option (Unit × Mem)}, aL (pt φ T I R τ) (some (φ 9)) K = K 3 := fun {K} => by
      rw [aL_pt hj (by rw [g9]; exact ⟨by decide, by decide⟩), g9]; rfl
    rw [l_X4_init_144, itr_succ, b_X4_init_144, ← hx, gR_pt hj (by rw [g1]), g5, al, if_pos (show (3 : Int32) ≤ Int32.ofNat 3 by decide)]
  | succ d ih =>
    intro i fl φ T I R τ h1 h2 hj hl hx hP
    obtain ⟨fl', rfl⟩ : ∃ x, fl = x + 1 := ⟨fl - 1, by omega⟩
    obtain ⟨⟨⟨⟨g1, g2, g3, g4, g5, g6, g7, g8, g9, -⟩, -⟩, -⟩, hS⟩ := id hP
    have c1 : ¬ (3 : Int32) ≤ Int32.ofNat i := by rw [show (3 : Int32) = Int32.ofNat 3 from rfl, kN_le (by omega) (by omega)]; omega
    have al : ∀ {K : Int32 → Option (Unit × Mem)}, aL (pt φ T I R τ) (some (φ 9)) K = K 3 := fun {K} => by
      rw [aL_pt hj (by rw [g9]; exact ⟨by decide, by decide⟩), g9]; rfl
    obtain ⟨φ2, T2, I2, R2, τ2, a1, b2, b3, b4, a5, a6, E, a8⟩ := al_O (I := I) (R := R) (i + 3) 5 hj hl
    have TI : f_X3_init (φ2 (i + 3)) (pt φ2 T2 I2 R2 τ2) = some ((), pt φ2 T2 I2 R2 τ2) := by
      have t6 : (T2 (i + 3)).1 = 5 + 1 := by rw [b4]
      rw [f_X3_init, b_X3_init_0, ob_pt b2 t6, pI_s b2 t6 (by rw [a5]), pI_s b2 t6 (by rw [a5]), pI_s b2 t6 (by rw [a5])]
    obtain ⟨R3, hR3⟩ : ∃ R3, R3 = up2 R2 9 i (some (φ2 (i + 3))) := ⟨_, rfl⟩
    have E3 : ∀ v, v ≠ i + 3 → v ≠ 9 → Eqv φ φ2 T T2 I I2 R R3 v := fun v y1 y3 => by
      obtain ⟨z1, z2, z3, z4⟩ := E v y1
      exact ⟨z1, z2, z3, by rw [hR3, up2_row y3, z4]⟩
    have E1 := E 9 (by omega)
    have P3 : PTt φ2 T2 I2 R3 (i + 1) := by
      have base : PLt φ2 T2 I2 R3 16 := hP.1.fr (by omega) (fun v hv => E3 v (by omega) (by omega)) (fun v hv => ⟨(E v (by omega)).1, (E v (by omega)).2.1⟩) (E3 1 (by omega) (by omega)).2.2.2 (fun j hj' => by rw [(E3 2 (by omega) (by omega)).2.2.2])
      refine ⟨base, fun j hj' => ?_⟩
      rcases (show j < i ∨ j = i by omega) with y | y
      · obtain ⟨y1, y2, y3⟩ := hS j y
        obtain ⟨z1, z2, z3, z4⟩ := E (j + 3) (by omega)
        refine ⟨by rw [z2]; exact y1, by rw [z3]; exact y2, ?_⟩
        rw [hR3, up2_k (by omega), E1.2.2.2, y3, z1]
      · subst y
        exact ⟨b4, a5, by rw [hR3, up2_at]⟩
    have x2 : φ2 0 = x0 := by rw [(E 0 (by omega)).1, hx]
    obtain ⟨φ3, T3, I3, R4, τ3, c2, c3, c4, c5, c6, c7, c8⟩ := ih (i + 1) fl' φ2 T2 I2 R3 τ2 (by omega) (by omega) b2 b3 x2 P3
    refine ⟨φ3, T3, I3, R4, τ3, ?_, c3, c4, c5, c6, fun v hv => (E3 v (by omega) (by omega)).trans (c7 v hv), by omega⟩
    have W : ∀ {K : Mem → Option (Unit × Mem)}, wR 4 (pt φ2 T2 I2 R2 τ2) (some (φ 9)) (Int32.ofNat i) (some (φ2 (i + 3))) K = K (pt φ2 T2 I2 R3 τ2) := fun {K} => by
      rw [← E1.1, wRt_pt 4 b2 (by rw [E1.2.1, g9]) (kN_nn (by omega)) (tnK (by omega)) (by rw [E1.2.1, g9]; show i < 3; omega) (fun y hy => by
        cases hy
        refine Or.inr (Or.inr (Or.inl ⟨rfl, ?_⟩))
        rw [mT_pt b2 (by rw [b4]; simp), b4]), hR3]
    rw [l_X4_init_144, itr_succ, b_X4_init_144, ← hx, gR_pt hj (by rw [g1]), g5, al, if_neg c1, gR_pt hj (by rw [g1]), g5, a1, ob_pt b2 (by rw [b4]), TI, cl1_s, W, nm, kN_s, hx]
    exact c2
/-- the garden is made -/
theorem x_gard (hj : Inj φ T) (hl : live T φ (mZ τ)) (tg : T 0 = (7, 0)) (ig : I 0 = fun _ => 0) : ∃ φ' T' I' R' τ', f_X4_init (φ 0) (pt φ T I R τ) = some ((), pt φ' T' I' R' τ') ∧ Inj φ' T' ∧ live T' φ' (mZ τ') ∧ φ' 0 = φ 0 ∧ PTt φ' T' I' R' 3 ∧ (∀ v, 121 ≤ v → Eqv φ φ' T T' I I' R R' v) ∧ mZ τ ≤ mZ τ' := by
  have t0 : (T 0).1 = 6 + 1 := by rw [tg]
  obtain ⟨φ1, T1, I1, R1, τ1, a1, a2, a3, a4, a5, a6, a7, a8⟩ := al_A (I := I) (R := R) (p := 4) (c := 4) (bd := 4) 1 3 hj hl (by decide) rfl (by decide)
  obtain ⟨p1, p2, p3, p4⟩ := a7 0 (by omega)
  have t1 : (T1 0).1 = 6 + 1 := by rw [p2, tg]
  have i1 : I1 0 = fun _ => 0 := by rw [p3, ig]
  obtain ⟨S1, hS1⟩ : ∃ S, S = up2 R1 0 0 (some (φ1 1)) := ⟨_, rfl⟩
  obtain ⟨φ2, T2, I2, R2, τ2, b1, b2, b3, b4, b5, b6, b7, b8⟩ := al_A (I := I1) (R := S1) (p := 16) (c := 16) (bd := 16) 2 2 a2 a3 (by decide) rfl (by decide)
  obtain ⟨q1, q2, q3, q4⟩ := b7 0 (by omega)
  have t2 : (T2 0).1 = 6 + 1 := by rw [q2]; exact t1
  have i2 : I2 0 = fun _ => 0 := by rw [q3, i1]
  obtain ⟨S2, hS2⟩ : ∃ S, S = up2 R2 0 3 (some (φ2 2)) := ⟨_, rfl⟩
  obtain ⟨φ3, T3, I3, R3, τ3, c1, c2, c3, c4, c5, c6, c7, c8⟩ := al_O (I := I2) (R := S2) 115 3 b2 b3
  obtain ⟨r1, r2, r3, r4⟩ := c7 0 (by omega)
  obtain ⟨φ4, T4, I4, R4, τ4, d1, d2, d3, d4, d5, d6, d7⟩ := x_lotI (R := R3) c2 c3 c4 c5
  obtain ⟨s1, s2, s3, s4⟩ := d6 0 (by omega)
  have t4 : (T4 0).1 = 6 + 1 := by rw [s2, r2]; exact t2
  have i4 : I4 0 = fun _ => 0 := by rw [s3, r3, i2]
  obtain ⟨S4, hS4⟩ : ∃ S, S = up2 R4 0 5 (some (φ4 115)) := ⟨_, rfl⟩
  obtain ⟨φ5, T5, I5, R5, τ5, e1, e2, e3, e4, e5, e6, e7, e8⟩ := al_A (I := I4) (R := S4) (p := 3) (c := 3) (bd := 3) 9 4 d2 d3 (by decide) rfl (by decide)
  obtain ⟨u1, u2, u3, u4⟩ := e7 0 (by omega)
  have t5 : (T5 0).1 = 6 + 1 := by rw [u2]; exact t4
  have i5 : I5 0 = fun _ => 0 := by rw [u3, i4]
  obtain ⟨S5, hS5⟩ : ∃ S, S = up2 R5 0 6 (some (φ5 9)) := ⟨_, rfl⟩
  obtain ⟨φ6, T6, I6, R6, τ6, f1, f2, f3, f4, f5, f6, f7, f8⟩ := al_A (I := I5) (R := S5) (p := 4) (c := 4) (bd := 4) 10 0 e2 e3 (by decide) rfl (by decide)
  obtain ⟨v1, v2, v3, v4⟩ := f7 0 (by omega)
  have t6 : (T6 0).1 = 6 + 1 := by rw [v2]; exact t5
  have i6 : I6 0 = fun _ => 0 := by rw [v3, i5]
  obtain ⟨S6, hS6⟩ : ∃ S, S = up2 R6 0 7 (some (φ6 10)) := ⟨_, rfl⟩
  have E6 : ∀ v, v ≠ 0 → v ≠ 10 → v ≠ 9 → Eqv φ4 φ6 T4 T6 I4 I6 R4 S6 v := fun v h0 h1 h2 => by
    obtain ⟨x1, x2, x3, x4⟩ := e7 v h2
    obtain ⟨y1, y2, y3, y4⟩ := f7 v h1
    exact ⟨by rw [y1, x1], by rw [y2, x2], by rw [y3, x3], by rw [hS6, up2_row h0, y4, hS5, up2_row h0, x4, hS4, up2_row h0]⟩
  have E4 : ∀ v, v ≠ 0 → v ≠ 1 → v ≠ 2 → (v < 115 ∨ 120 < v) → Eqv φ φ4 T T4 I I4 R R4 v := fun v h0 h1 h2 h3 => by
    obtain ⟨x1, x2, x3, x4⟩ := a7 v h1
    obtain ⟨y1, y2, y3, y4⟩ := b7 v h2
    obtain ⟨z1, z2, z3, z4⟩ := c7 v (by omega)
    obtain ⟨w1, w2, w3, w4⟩ := d6 v h3
    exact ⟨by rw [w1, z1, y1, x1], by rw [w2, z2, y2, x2], by rw [w3, z3, y3, x3], by rw [w4, z4, hS2, up2_row h0, y4, hS1, up2_row h0, x4]⟩
  have x0 : φ6 0 = φ 0 := by rw [v1, u1, s1, r1, q1, p1]
  have gb : GB φ6 T6 I6 S6 := by
    obtain ⟨m1, m2, m3, m4⟩ := c7 1 (by omega)
    obtain ⟨n1, n2, n3, n4⟩ := d6 1 (by omega)
    obtain ⟨o1, o2, o3, o4⟩ := b7 1 (by omega)
    obtain ⟨k1, k2, k3, k4⟩ := E6 1 (by omega) (by omega) (by omega)
    obtain ⟨l1, l2, l3, l4⟩ := c7 2 (by omega)
    obtain ⟨j1, j2, j3, j4⟩ := d6 2 (by omega)
    obtain ⟨h1, h2, h3, h4⟩ := E6 2 (by omega) (by omega) (by omega)
    obtain ⟨w1, w2, w3, w4⟩ := f7 9 (by omega)
    have r06 : ∀ k, k ≠ 7 → k ≠ 6 → S6 0 k = S4 0 k := fun k y1 y2 => by rw [hS6, up2_k y1, v4, hS5, up2_k y2, u4]
    have r04 : ∀ k, k ≠ 5 → S4 0 k = S2 0 k := fun k y => by rw [hS4, up2_k y, s4, r4]
    refine ⟨by rw [v2, u2, s2, r2, q2, p2, tg], ?_, ?_, ?_, ?_, by rw [hS6, up2_at], by rw [k2, n2, m2, o2]; exact a4, by rw [h2, j2, l2]; exact b4, by rw [w2]; exact e4, f4, i6, f5, d4.fr (fun v y1 y2 => E6 v (by omega) (by omega) (by omega))⟩
    · rw [r06 0 (by decide) (by decide), r04 0 (by decide), hS2, up2_k (by decide), q4, hS1, up2_at, k1, n1, m1, o1]
    · rw [r06 3 (by decide) (by decide), r04 3 (by decide), hS2, up2_at, h1, j1, l1]
    · rw [r06 5 (by decide) (by decide), hS4, up2_at, (E6 115 (by omega) (by omega) (by omega)).1]
    · rw [hS6, up2_k (by decide), v4, hS5, up2_at, w1]
  obtain ⟨φ7, T7, I7, R7, τ7, A1, A2, A3, A4, A5, A6, A7⟩ := x_i84 (x0 := φ6 0) 4 0 5 φ6 T6 I6 S6 τ6 (by omega) (by omega) f2 f3 rfl ⟨gb, fun j hj' => absurd hj' (Nat.not_lt_zero _)⟩
  obtain ⟨φ8, T8, I8, R8, τ8, B1, B2, B3, B4, B5, B6, B7⟩ := x_i114 (x0 := φ6 0) 16 0 17 φ7 T7 I7 R7 τ7 (by omega) (by omega) A2 A3 A4 ⟨A5, fun j hj' => absurd hj' (Nat.not_lt_zero _)⟩
  obtain ⟨φ9, T9, I9, R9, τ9, C1, C2, C3, C4, C5, C6, C7⟩ := x_i144 (x0 := φ6 0) 3 0 4 φ8 T8 I8 R8 τ8 (by omega) (by omega) B2 B3 B4 ⟨B5, fun j hj' => absurd hj' (Nat.not_lt_zero _)⟩
  refine ⟨φ9, T9, I9, R9, τ9, ?_, C2, C3, by rw [C4, x0], C5, fun v hv => (((E4 v (by omega) (by omega) (by omega) (by omega)).trans (E6 v (by omega) (by omega) (by omega))).trans (A6 v hv)).trans ((B6 v hv).trans (C6 v hv)), by omega⟩
  rw [f_X4_init, b_X4_init_0, ob_pt hj t0, a1, ← p1, pR_pt a2 t1, ← hS1, pI_s a2 t1 (by rw [i1]), pI_s a2 t1 (by rw [i1]), b1, ← q1, pR_pt b2 t2, ← hS2, pI_s b2 t2 (by rw [i2]), c1, ob_pt c2 (by rw [c4]), d1, cl1_s, ← d5, ← r1, ← s1, pR_pt d2 t4, ← hS4, e1, ← u1, pR_pt e2 t5, ← hS5, f1, ← v1, pR_pt f2 t6, ← hS6, pI_s f2 t6 (by rw [i6]), pI_s f2 t6 (by rw [i6]), pI_s f2 t6 (by rw [i6]), pI_s f2 t6 (by rw [i6])]
  exact A1.trans (B1.trans C1)
end SU
