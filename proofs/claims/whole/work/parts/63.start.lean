/-! THE START: the reference, the law -/
section SV
variable {φ : Nat → Nat} {T : Nat → Nat × Nat} {I : Nat → Nat → Int32} {R : Nat → Nat → Option Nat} {τ : Mem} {e0 mi g w v ci k t c i : Nat} {x p : Int32} {r : Option Nat}
theorem m_liI (hj : Inj φ T) (tg : T g = (2, 0)) (ig : I g = fun _ => 0) : f_Jx4a65c_init_da8c8 e0 mi (φ g) (pt φ T I R τ) = some ((), pt φ T I (up2 R g 1 (some e0)) τ) := by
  have t0 : (T g).1 = 1 + 1 := by rw [tg]
  have A : f_Jxa1e45_init_da8c8 (φ g) (pt φ T I R τ) = some ((), pt φ T I R τ) := by
    simp (config := {decide := true}) only [b_Jxa1e45_init_da8c8_0, f_Jxa1e45_init_da8c8, gI_pt hj, gR_pt hj, ob_pt hj, ck_pt hj, pI_pt hj, pB_pt hj, pR_pt hj, aI_pt hj, aR_pt hj, wI_pt hj, wJ_pt hj, aL_pt hj, cl1_s, cl1_n, cl1_i, cx1_s, cx1_x, cx1_n, cx1_i, nul_n, nul_s, nm, dv2, dv3, dv4, dv5, dv8, dv10, dv20, dv40, thr, bo, mI_pt hj, mT_pt hj, sB_pt, mZ_pt, mJ_pt, mJ_sJ, mZ_sJ, tn0, tn1, tn2, tn3, tn4, tn5, tn6, tg, ii0, ii1, ii2, ii3, ii4, if_true, if_false, ne_eq, not_false_eq_true, not_true_eq_false, true_and, and_true, false_and, and_false, and_self, true_or, or_true, false_or, or_false, or_self, Nat.reduceAdd, Nat.reduceLT, Nat.reduceLeDiff, Nat.succ_ne_zero, reduceIte, reduceCtorEq]
  rw [f_Jx4a65c_init_da8c8, b_Jx4a65c_init_da8c8_0, ob_pt hj t0, f_Jxc12de_init_da8c8, b_Jxc12de_init_da8c8_0, ob_pt hj t0, A, cl1_s, pI_s hj t0 (by rw [ig]), cl1_s, pR_pt hj t0]
/-- the reference, as it is made -/
def RB (e0 : Nat) (φ : Nat → Nat) (T : Nat → Nat × Nat) (I : Nat → Nat → Int32) (R : Nat → Nat → Option Nat) : Prop :=
  T 124 = (11, 0) ∧ R 124 6 = some (φ 125) ∧ R 124 7 = some (φ 126) ∧ R 124 8 = some (φ 127) ∧ R 124 9 = some (φ 128) ∧ T 125 = (2, 0) ∧ T 126 = (2, 0) ∧ T 127 = (105, 3) ∧ T 128 = (100, 4) ∧ (∀ i, i < 3 → R 127 i = some (φ (i + 129)) ∧ T (i + 129) = (10, 0) ∧ I (i + 129) = fun _ => 0) ∧ I 124 = (fun _ => 0) ∧ I 125 = (fun _ => 0) ∧ I 126 = (fun _ => 0) ∧ I 128 = (fun _ => 0) ∧ R 125 1 = some e0 ∧ R 126 1 = some e0
theorem m_ref (hj : Inj φ T) (hl : live T φ (mZ τ)) (tg : T 124 = (11, 0)) (ig : I 124 = fun _ => 0) : ∃ φ' T' I' R' τ', f_X8_init e0 mi (φ 124) (pt φ T I R τ) = some ((), pt φ' T' I' R' τ') ∧ Inj φ' T' ∧ live T' φ' (mZ τ') ∧ φ' 124 = φ 124 ∧ RB e0 φ' T' I' R' ∧ (∀ v, v < 124 → Eqv φ φ' T T' I I' R R' v) ∧ mZ τ ≤ mZ τ' := by
  have t0 : (T 124).1 = 10 + 1 := by rw [tg]
  obtain ⟨φ1, T1, I1, R1, τ1, a1, a2, a3, a4, a5, a6, a7, a8⟩ := al_O (I := I) (R := R) 125 1 hj hl
  have L1 := m_liI (e0 := e0) (mi := mi) (R := R1) (τ := τ1) a2 a4 a5
  obtain ⟨S1, hS1⟩ : ∃ S, S = up2 (up2 R1 125 1 (some e0)) 124 6 (some (φ1 125)) := ⟨_, rfl⟩
  obtain ⟨p1, p2, p3, p4⟩ := a7 124 (by omega)
  have t1 : (T1 124).1 = 10 + 1 := by rw [p2]; exact t0
  obtain ⟨φ2, T2, I2, R2, τ2, b1, b2, b3, b4, b5, b6, b7, b8⟩ := al_O (I := I1) (R := S1) 126 1 a2 a3
  have L2 := m_liI (e0 := e0) (mi := mi) (R := R2) (τ := τ2) b2 b4 b5
  obtain ⟨S2, hS2⟩ : ∃ S, S = up2 (up2 R2 126 1 (some e0)) 124 7 (some (φ2 126)) := ⟨_, rfl⟩
  obtain ⟨q1, q2, q3, q4⟩ := b7 124 (by omega)
  have t2 : (T2 124).1 = 10 + 1 := by rw [q2]; exact t1
  obtain ⟨φ3, T3, I3, R3, τ3, c1, c2, c3, c4, c5, c6, c7, c8⟩ := al_A (I := I2) (R := S2) (p := 3) (c := 3) (bd := 3) 127 5 b2 b3 (by decide) rfl (by decide)
  obtain ⟨φ4, T4, I4, R4, τ4, d1, d2, d3, d4, d5, d6, d7, d8⟩ := al_O (I := I3) (R := R3) 129 9 c2 c3
  have M4 : f_X7_init (φ4 129) (pt φ4 T4 I4 R4 τ4) = some ((), pt φ4 T4 I4 R4 τ4) := by rw [f_X7_init, b_X7_init_0, ob_pt d2 (by rw [d4])]
  obtain ⟨u1, u2, u3, u4⟩ := d7 127 (by omega)
  obtain ⟨S4, hS4⟩ : ∃ S, S = up2 R4 127 0 (some (φ4 129)) := ⟨_, rfl⟩
  have W4 : ∀ {K : Mem → Option (Unit × Mem)}, wR 5 (pt φ4 T4 I4 R4 τ4) (some (φ4 127)) 0 (some (φ4 129)) K = K (pt φ4 T4 I4 S4 τ4) := fun {K} => by
    rw [wRt_pt 5 d2 (by rw [u2, c4]) (by decide) (k := 0) rfl (by rw [u2, c4]; decide) (fun y hy => by
      cases hy
      refine Or.inr (Or.inr (Or.inr (Or.inl ⟨rfl, ?_⟩)))
      rw [mT_pt d2 (by rw [d4]; simp), d4]), hS4]
  obtain ⟨φ5, T5, I5, R5, τ5, e1, e2, e3, e4, e5, e6, e7, e8⟩ := al_O (I := I4) (R := S4) 130 9 d2 d3
  have M5 : f_X7_init (φ5 130) (pt φ5 T5 I5 R5 τ5) = some ((), pt φ5 T5 I5 R5 τ5) := by rw [f_X7_init, b_X7_init_0, ob_pt e2 (by rw [e4])]
  obtain ⟨v1, v2, v3, v4⟩ := e7 127 (by omega)
  obtain ⟨S5, hS5⟩ : ∃ S, S = up2 R5 127 1 (some (φ5 130)) := ⟨_, rfl⟩
  have W5 : ∀ {K : Mem → Option (Unit × Mem)}, wR 5 (pt φ5 T5 I5 R5 τ5) (some (φ5 127)) 1 (some (φ5 130)) K = K (pt φ5 T5 I5 S5 τ5) := fun {K} => by
    rw [wRt_pt 5 e2 (by rw [v2, u2, c4]) (by decide) (k := 1) rfl (by rw [v2, u2, c4]; decide) (fun y hy => by
      cases hy
      refine Or.inr (Or.inr (Or.inr (Or.inl ⟨rfl, ?_⟩)))
      rw [mT_pt e2 (by rw [e4]; simp), e4]), hS5]
  obtain ⟨φ6, T6, I6, R6, τ6, f1, f2, f3, f4, f5, f6, f7, f8⟩ := al_O (I := I5) (R := S5) 131 9 e2 e3
  have M6 : f_X7_init (φ6 131) (pt φ6 T6 I6 R6 τ6) = some ((), pt φ6 T6 I6 R6 τ6) := by rw [f_X7_init, b_X7_init_0, ob_pt f2 (by rw [f4])]
  obtain ⟨w1, w2, w3, w4⟩ := f7 127 (by omega)
  obtain ⟨S6, hS6⟩ : ∃ S, S = up2 R6 127 2 (some (φ6 131)) := ⟨_, rfl⟩
  have W6 : ∀ {K : Mem → Option (Unit × Mem)}, wR 5 (pt φ6 T6 I6 R6 τ6) (some (φ6 127)) 2 (some (φ6 131)) K = K (pt φ6 T6 I6 S6 τ6) := fun {K} => by
    rw [wRt_pt 5 f2 (by rw [w2, v2, u2, c4]) (by decide) (k := 2) rfl (by rw [w2, v2, u2, c4]; decide) (fun y hy => by
      cases hy
      refine Or.inr (Or.inr (Or.inr (Or.inl ⟨rfl, ?_⟩)))
      rw [mT_pt f2 (by rw [f4]; simp), f4]), hS6]
  have E26 : ∀ v, v ≠ 127 → v ≠ 129 → v ≠ 130 → v ≠ 131 → Eqv φ2 φ6 T2 T6 I2 I6 S2 S6 v := fun v h1 h2 h3 h4 => by
    obtain ⟨x1, x2, x3, x4⟩ := c7 v h1
    obtain ⟨y1, y2, y3, y4⟩ := d7 v h2
    obtain ⟨z1, z2, z3, z4⟩ := e7 v h3
    obtain ⟨k1, k2, k3, k4⟩ := f7 v h4
    exact ⟨by rw [k1, z1, y1, x1], by rw [k2, z2, y2, x2], by rw [k3, z3, y3, x3], by rw [hS6, up2_row h1, k4, hS5, up2_row h1, z4, hS4, up2_row h1, y4, x4]⟩
  obtain ⟨l1, l2, l3, l4⟩ := E26 124 (by omega) (by omega) (by omega) (by omega)
  have t6 : (T6 124).1 = 10 + 1 := by rw [l2]; exact t2
  obtain ⟨S7, hS7⟩ : ∃ S, S = up2 S6 124 8 (some (φ6 127)) := ⟨_, rfl⟩
  obtain ⟨φ8, T8, I8, R8, τ8, g1, g2, g3, g4, g5, g6, g7, g8⟩ := al_A (I := I6) (R := S7) (p := 4) (c := 4) (bd := 4) 128 0 f2 f3 (by decide) rfl (by decide)
  obtain ⟨m1, m2, m3, m4⟩ := g7 124 (by omega)
  have t8 : (T8 124).1 = 10 + 1 := by rw [m2]; exact t6
  have x0 : φ8 124 = φ 124 := by rw [m1, l1, q1, p1]
  have E8 : ∀ v, v ≠ 128 → v ≠ 124 → Eqv φ6 φ8 T6 T8 I6 I8 S6 R8 v := fun v h1 h2 => by
    obtain ⟨x1, x2, x3, x4⟩ := g7 v h1
    exact ⟨x1, x2, x3, by rw [x4, hS7, up2_row h2]⟩
  have R28 : ∀ v, v ≠ 124 → v ≠ 128 → up2 R8 124 9 (some (φ8 128)) v = R8 v := fun v h1 _ => up2_row h1
  refine ⟨φ8, T8, I8, up2 R8 124 9 (some (φ8 128)), τ8, ?_, g2, g3, x0, ⟨?_, ?_, ?_, ?_, up2_at, ?_, ?_, ?_, g4, ?_, ?_, ?_, ?_, g5, ?_, ?_⟩, fun v hv => ?_, by omega⟩
  · rw [f_X8_init, b_X8_init_0, ob_pt hj t0, a1, ob_pt a2 (by rw [a4]), L1, cl1_s, ← p1, pR_pt a2 t1, ← hS1, b1, ob_pt b2 (by rw [b4]), L2, cl1_s, ← q1, pR_pt b2 t2, ← hS2, c1, d1, ob_pt d2 (by rw [d4]), M4, cl1_s, ← u1, W4, e1, ob_pt e2 (by rw [e4]), M5, cl1_s, ← v1, W5, f1, ob_pt f2 (by rw [f4]), M6, cl1_s, ← w1, W6, ← l1, pR_pt f2 t6, ← hS7, g1, ← m1, pR_pt g2 t8]
  · rw [m2, l2, q2, p2, tg]
  · obtain ⟨y1, -⟩ := E26 125 (by omega) (by omega) (by omega) (by omega)
    rw [up2_k (by decide), m4, hS7, up2_k (by decide), l4, hS2, up2_k (by decide), up2_row (by decide), q4, hS1, up2_at, (E8 125 (by omega) (by omega)).1, y1, (b7 125 (by omega)).1]
  · obtain ⟨y1, -⟩ := E26 126 (by omega) (by omega) (by omega) (by omega)
    rw [up2_k (by decide), m4, hS7, up2_k (by decide), l4, hS2, up2_at, (E8 126 (by omega) (by omega)).1, y1]
  · rw [up2_k (by decide), m4, hS7, up2_at, (E8 127 (by omega) (by omega)).1]
  · rw [(E8 125 (by omega) (by omega)).2.1, (E26 125 (by omega) (by omega) (by omega) (by omega)).2.1, (b7 125 (by omega)).2.1]; exact a4
  · rw [(E8 126 (by omega) (by omega)).2.1, (E26 126 (by omega) (by omega) (by omega) (by omega)).2.1]; exact b4
  · rw [(E8 127 (by omega) (by omega)).2.1, w2, v2, u2]; exact c4
  · intro j hj3
    rw [up2_row (by omega), (E8 127 (by omega) (by omega)).2.2.2, (E8 (j + 129) (by omega) (by omega)).1, (E8 (j + 129) (by omega) (by omega)).2.1, (E8 (j + 129) (by omega) (by omega)).2.2.1]
    rcases (show j = 0 ∨ j = 1 ∨ j = 2 by omega) with rfl | rfl | rfl
    · rw [hS6, up2_k (by decide), w4, hS5, up2_k (by decide), v4, hS4, up2_at]
      obtain ⟨y1, y2, y3, -⟩ := e7 129 (by omega)
      obtain ⟨z1, z2, z3, -⟩ := f7 129 (by omega)
      exact ⟨by rw [z1, y1], by rw [z2, y2]; exact d4, by rw [z3, y3]; exact d5⟩
    · rw [hS6, up2_k (by decide), w4, hS5, up2_at]
      obtain ⟨z1, z2, z3, -⟩ := f7 130 (by omega)
      exact ⟨by rw [z1], by rw [z2]; exact e4, by rw [z3]; exact e5⟩
    · rw [hS6, up2_at]
      exact ⟨rfl, f4, f5⟩
  · rw [m3, l3, q3, p3, ig]
  · rw [(E8 125 (by omega) (by omega)).2.2.1, (E26 125 (by omega) (by omega) (by omega) (by omega)).2.2.1, (b7 125 (by omega)).2.2.1]; exact a5
  · rw [(E8 126 (by omega) (by omega)).2.2.1, (E26 126 (by omega) (by omega) (by omega) (by omega)).2.2.1]; exact b5
  · rw [up2_row (by omega), (E8 125 (by omega) (by omega)).2.2.2, (E26 125 (by omega) (by omega) (by omega) (by omega)).2.2.2, hS2, up2_row (by omega), up2_row (by omega), (b7 125 (by omega)).2.2.2, hS1, up2_row (by omega), up2_at]
  · rw [up2_row (by omega), (E8 126 (by omega) (by omega)).2.2.2, (E26 126 (by omega) (by omega) (by omega) (by omega)).2.2.2, hS2, up2_row (by omega), up2_at]
  · obtain ⟨x1, x2, x3, x4⟩ := a7 v (by omega)
    obtain ⟨y1, y2, y3, y4⟩ := b7 v (by omega)
    obtain ⟨z1, z2, z3, z4⟩ := E26 v (by omega) (by omega) (by omega) (by omega)
    obtain ⟨k1, k2, k3, k4⟩ := E8 v (by omega) (by omega)
    exact ⟨by rw [k1, z1, y1, x1], by rw [k2, z2, y2, x2], by rw [k3, z3, y3, x3], by rw [up2_row (by omega), k4, z4, hS2, up2_row (by omega), up2_row (by omega), y4, hS1, up2_row (by omega), up2_row (by omega), x4]⟩
/-- the law ends, and says yes -/
theorem law_yes {xs : Nat → Int32} {L9 b9 : Nat} {σ : Mem} (hL : L9 ≤ 2560) (he : mT σ e0 = (300, 0)) (hz : e0 < mZ σ) : ∃ σ2, b_L_law_0 e0 mi xs L9 b9 σ = some (1, σ2) := by
  -- the view of the empty array alone
  obtain ⟨T0, hT0⟩ : ∃ T0 : Nat → Nat × Nat, T0 = fun v => if v = 123 then (300, 0) else (0, 0) := ⟨_, rfl⟩
  have t0 : ∀ v, (T0 v).1 ≠ 0 → v = 123 := fun v hv => by
    rw [hT0] at hv
    by_cases q : v = 123
    · exact q
    · simp only [if_neg q] at hv; exact absurd rfl hv
  have t123 : T0 123 = (300, 0) := by rw [hT0]; rfl
  have j0 : Inj (fun _ => e0) T0 := fun v w h1 h2 _ => (t0 v h1).trans (t0 w h2).symm
  have l0 : live T0 (fun _ => e0) (mZ σ) := fun v _ => hz
  have S0 := pt_self (φ := fun _ => e0) (T := T0) (σ := σ) j0 (fun v hv => by rw [t0 v hv, t123]; exact he)
  obtain ⟨φ1, T1, I1, R1, τ1, a1, a2, a3, a4, a5, a6, a7, a8⟩ := al_O (I := fun v => mI σ e0) (R := fun v => mR σ e0) (τ := σ) 0 6 j0 l0
  obtain ⟨φ2, T2, I2, R2, τ2, b1, b2, b3, b4, b5, b6, b7⟩ := x_gard (R := R1) (τ := τ1) a2 a3 a4 a5
  obtain ⟨φ3, T3, I3, R3, τ3, c1, c2, c3, c4, c5, c6, c7, c8⟩ := al_O (I := I2) (R := R2) 124 10 b2 b3
  obtain ⟨φ4, T4, I4, R4, τ4, d1, d2, d3, d4, d5, d6, d7⟩ := m_ref (e0 := e0) (mi := mi) (R := R3) (τ := τ3) c2 c3 c4 c5
  obtain ⟨φ5, T5, I5, R5, τ5, f1, f2, f3, f4, f5, f6, f7, f8⟩ := al_A (I := I4) (R := R4) (p := 1) (c := 1) (bd := 1) 132 1 d2 d3 (by decide) rfl (by decide)
  have E : ∀ v, v < 124 → Eqv φ2 φ5 T2 T5 I2 I5 R2 R5 v := fun v hv => ((c7 v (by omega)).trans (d6 v hv)).trans (f7 v (by omega))
  have E4 : ∀ v, v ≠ 132 → Eqv φ4 φ5 T4 T5 I4 I5 R4 R5 v := f7
  obtain ⟨PL, TA⟩ := b5
  obtain ⟨⟨⟨g1, g2, g3, g4, g5, g6, g7, g8, g9, g10, g11, g12, g13⟩, SE⟩, LO⟩ := PL
  obtain ⟨k1, k2, k3, k4, k5, k6, k7, k8, k9, k10, k11, k12, k13, k14, k15, k16⟩ := d5
  have e123 : φ5 123 = e0 ∧ T5 123 = (300, 0) := by
    obtain ⟨y1, y2, -⟩ := E 123 (by omega)
    obtain ⟨z1, z2, -⟩ := b6 123 (by omega)
    obtain ⟨w1, w2, -⟩ := a7 123 (by omega)
    exact ⟨by rw [y1, z1, w1], by rw [y2, z2, w2]; exact t123⟩
  have LT : ∀ i, i < 17 → LotOK φ5 T5 I5 R5 (6 * i + 19) := fun i hi => by
    by_cases q : i = 16
    · subst q; exact g13.fr (fun v h1 h2 => E v (by omega))
    · exact (LO i (by omega)).1.fr (fun v h1 h2 => E v (by omega))
  have z0 : (0 : Int32).toInt = 0 := rfl
  have JJ : Jn e0 (φ5 0) (φ5 124) (φ5 132) 0 (pt φ5 T5 I5 R5 τ5) := by
    refine ⟨φ5, T5, I5, R5, τ5, 0, 0, 0, 0, fun _ => 0, fun _ => 0, fun _ => [], rfl, ⟨rfl, rfl, rfl⟩, f2, f3, ?_, ?_, ?_⟩
    · have e0' := E 0 (by omega)
      have e1 := E 1 (by omega)
      have e2 := E 2 (by omega)
      have e9 := E 9 (by omega)
      have e10 := E 10 (by omega)
      refine ⟨by rw [e0'.2.1]; exact g1, by rw [e0'.2.2.2, e1.1]; exact g2, by rw [e0'.2.2.2, e2.1]; exact g3, by rw [e0'.2.2.2, (E 115 (by omega)).1]; exact g4, by rw [e0'.2.2.2, e9.1]; exact g5, by rw [e0'.2.2.2, e10.1]; exact g6, by rw [e1.2.1]; exact g7, by rw [e2.2.1]; exact g8, by rw [e9.2.1]; exact g9, by rw [e10.2.1]; exact g10, fun i hi => ?_, fun i hi => ?_, fun i hi => ?_, fun i hi => ?_, fun i hi => ?_, fun i hi => (LT i hi).1, fun i hi => (LT i hi).2.2.2.2.2.2.1, fun i hi => (LT i hi).2.2.2.2.2.2.2.1, fun i hi => (LT i hi).2.2.2.2.2.2.2.2.1, fun i hi => (LT i hi).2.1, fun i hi => (LT i hi).2.2.1, fun i hi => (LT i hi).2.2.2.1, fun i hi => (LT i hi).2.2.2.2.2.2.2.2.2.1, fun i hi => (LT i hi).2.2.2.2.2.2.2.2.2.2.1, fun i hi => (LT i hi).2.2.2.2.1, fun i hi => (LT i hi).2.2.2.2.2.1, fun i hi => ?_, fun i hi => ?_⟩
      · rw [e1.2.2.2, (E (2 * i + 11) (by omega)).1]; exact (SE i hi).2
      · rw [(E (2 * i + 11) (by omega)).2.1]; exact (SE i hi).1.1
      · rw [(E (2 * i + 11) (by omega)).2.2.2, (E (2 * i + 12) (by omega)).1]; exact (SE i hi).1.2.1
      · rw [(E (2 * i + 12) (by omega)).2.1]; exact (SE i hi).1.2.2.1
      · rw [e2.2.2.2, (E (6 * i + 19) (by omega)).1]; exact (LO i hi).2
      · rw [e9.2.2.2, (E (i + 3) (by omega)).1]; exact (TA i hi).2.2
      · rw [(E (i + 3) (by omega)).2.1]; exact (TA i hi).1
    · have e124 := E4 124 (by omega)
      have e125 := E4 125 (by omega)
      have e126 := E4 126 (by omega)
      have e127 := E4 127 (by omega)
      have e128 := E4 128 (by omega)
      unfold SM
      refine ⟨by rw [e124.2.1]; exact k1, by rw [e124.2.2.2, e125.1]; exact k2, by rw [e124.2.2.2, e126.1]; exact k3, by rw [e124.2.2.2, e127.1]; exact k4, by rw [e124.2.2.2, e128.1]; exact k5, by rw [e125.2.1]; exact k6, by rw [e126.2.1]; exact k7, by rw [e127.2.1]; exact k8, by rw [e128.2.1]; exact k9, f4, fun i hi => ?_, fun i hi => ?_, by rw [e125.2.2.1, k12]; rfl, by rw [e126.2.2.1, k13]; rfl, by rw [e125.2.2.2, if_pos rfl]; exact k15, by rw [e126.2.2.2, if_pos rfl]; exact k16, fun q => absurd q (Nat.lt_irrefl _), fun q => absurd q (Nat.lt_irrefl _), by omega, by omega, by omega, by omega, by omega, by omega, fun i hi => absurd hi (Nat.not_lt_zero _), fun i hi => absurd hi (Nat.not_lt_zero _), fun i hi => absurd hi (Nat.not_lt_zero _), fun i hi => absurd hi (Nat.not_lt_zero _), fun i hi => absurd hi (Nat.not_lt_zero _), fun i hi => absurd hi (Nat.not_lt_zero _), fun i hi => absurd hi (Nat.not_lt_zero _), fun i hi => absurd hi (Nat.not_lt_zero _), fun i hi => absurd hi (Nat.not_lt_zero _), fun i hi => absurd hi (Nat.not_lt_zero _), fun i hi => absurd hi (Nat.not_lt_zero _), fun i hi => absurd hi (Nat.not_lt_zero _), fun i hi => absurd hi (Nat.not_lt_zero _), fun i hi => absurd hi (Nat.not_lt_zero _), fun i hi => absurd hi (Nat.not_lt_zero _), fun i hi => absurd hi (Nat.not_lt_zero _), fun i hi => absurd hi (Nat.not_lt_zero _), e123.2, e123.1, fun i hi => absurd hi (Nat.not_lt_zero _), fun i _ hi => absurd hi (Nat.not_lt_zero _)⟩
      · rw [e127.2.2.2, (E4 (i + 129) (by omega)).1]; exact (k10 i hi).1
      · rw [(E4 (i + 129) (by omega)).2.1]; exact (k10 i hi).2.1
    · have i0 : I5 0 = fun _ => 0 := by rw [(E 0 (by omega)).2.2.1]; exact g11
      have i124 : I5 124 = fun _ => 0 := by rw [(E4 124 (by omega)).2.2.1]; exact k11
      have i10 : I5 10 = fun _ => 0 := by rw [(E 10 (by omega)).2.2.1]; exact g12
      have i128 : I5 128 = fun _ => 0 := by rw [(E4 128 (by omega)).2.2.1]; exact k14
      refine ⟨⟨⟨by rw [i0]; rfl, by rw [i0]; rfl⟩, ⟨by rw [i0, i124], by rw [i0, i124], by rw [i0, i124], by rw [i0, i124], by rw [i0, i124]⟩, fun k _ => by rw [i10, i128], by rw [(LT 16 (by omega)).2.2.2.2.2.2.2.2.2.2.2.1 9]; rfl, by rw [(LT 16 (by omega)).2.2.2.2.2.2.2.2.2.2.2.1 12]; rfl⟩, fun i hi => absurd hi (Nat.not_lt_zero _), fun i _ hi => ?_, fun i hi => absurd hi (Nat.not_lt_zero _), fun i _ hi => ?_, fun i hi => ?_, ?_⟩
      · obtain ⟨-, -, -, -, -, -, -, -, -, -, -, y1, y2⟩ := LT i (by omega)
        have a1 := y2 1 (by omega) (by omega)
        have a2 := y2 2 (by omega) (by omega)
        have a3 := y2 3 (by omega) (by omega)
        have a4 := y2 4 (by omega) (by omega)
        exact ⟨fun k _ => y1 k, fun k _ => by rw [show 6 * i + 20 = 6 * i + 19 + 1 from rfl, a1], fun k _ => by rw [show 6 * i + 21 = 6 * i + 19 + 2 from rfl, a2], by rw [show 6 * i + 22 = 6 * i + 19 + 3 from rfl, a3], by rw [show 6 * i + 22 = 6 * i + 19 + 3 from rfl, a3], fun k _ => by rw [show 6 * i + 23 = 6 * i + 19 + 4 from rfl, a4]⟩
      · obtain ⟨-, -, -, y1, y2⟩ := (SE i hi).1
        exact ⟨fun k _ => by rw [(E (2 * i + 11) (by omega)).2.2.1, y1], fun k _ => by rw [(E (2 * i + 12) (by omega)).2.2.1]; exact congrFun y2 k⟩
      · have y1 : I5 (i + 3) = fun _ => 0 := by rw [(E (i + 3) (by omega)).2.2.1]; exact (TA i hi).2.1
        have y2 : I5 (i + 129) = fun _ => 0 := by rw [(E4 (i + 129) (by omega)).2.2.1]; exact (k10 i hi).2.2
        exact ⟨by rw [y1, y2], by rw [y1, y2], by rw [y1, y2], by rw [y1]; decide, by rw [y1]; decide⟩
      · show sumZ _ 0 ≤ _
        simp [sumZ]
  obtain ⟨σ2, F⟩ := law_loop (mi := mi) (xs := xs) (b9 := b9) hL (L9 / 5) 0 514 (pt φ5 T5 I5 R5 τ5) (by omega) (by omega) (by omega) JJ
  refine ⟨σ2, ?_⟩
  have x0 : φ5 0 = φ2 0 := (E 0 (by omega)).1
  have x1 : φ5 124 = φ4 124 := (E4 124 (by omega)).1
  rw [b_L_law_0, S0, a1, ob_pt a2 (by rw [a4]), b1, cl1_s, c1, ob_pt c2 (by rw [c4]), d1, cl1_s, f1, ← b4, ← d4, ← x0, ← x1]
  exact F
end SV
