/-! THE START: the two are made -/
section ST
variable {β : Type} {φ : Nat → Nat} {T : Nat → Nat × Nat} {I : Nat → Nat → Int32} {R : Nat → Nat → Option Nat} {τ : Mem} {e0 mi g w v ci k t c i : Nat} {x p : Int32} {r : Option Nat}
def Eqv (φ φ' : Nat → Nat) (T T' : Nat → Nat × Nat) (I I' : Nat → Nat → Int32) (R R' : Nat → Nat → Option Nat) (v : Nat) : Prop := φ' v = φ v ∧ T' v = T v ∧ I' v = I v ∧ R' v = R v
theorem Eqv.rfl' {v : Nat} : Eqv φ φ T T I I R R v := ⟨rfl, rfl, rfl, rfl⟩
theorem Eqv.trans {φ1 φ2 : Nat → Nat} {T1 T2 : Nat → Nat × Nat} {I1 I2 : Nat → Nat → Int32} {R1 R2 : Nat → Nat → Option Nat} (h1 : Eqv φ φ1 T T1 I I1 R R1 v) (h2 : Eqv φ1 φ2 T1 T2 I1 I2 R1 R2 v) : Eqv φ φ2 T T2 I I2 R R2 v :=
  ⟨h2.1.trans h1.1, h2.2.1.trans h1.2.1, h2.2.2.1.trans h1.2.2.1, h2.2.2.2.trans h1.2.2.2⟩
theorem al_N (w : Nat) {s : Nat} (hj : Inj φ T) (hl : live T φ (mZ τ)) (ht : t ≠ 0) : ∃ φ' T' I' R' τ', pt φ T I R (sN τ (t, s)) = pt φ' T' I' R' τ' ∧ φ' w = mZ τ ∧ Inj φ' T' ∧ live T' φ' (mZ τ') ∧ T' w = (t, s) ∧ I' w = (fun _ => 0) ∧ R' w = (fun _ => none) ∧ (∀ v, v ≠ w → Eqv φ φ' T T' I I' R R' v) ∧ mZ τ' = mZ τ + 1 := by
  have e1 : mT (sN τ (t, s)) (mZ τ) = (t, s) := mT_sN_at
  obtain ⟨φ1, T1, J1, R1, τ3, eq1, inj1, live1, ph1, pT1, pI1, pR1, aP1, aT1, aI1, aR1, zz1, of1, jj1⟩ := take1 (I := I) (R := R) (z := mZ τ) w hj hl (Nat.le_refl _) e1 ht
  refine ⟨φ1, T1, J1, R1, τ3, eq1, ph1, inj1, ?_, pT1, ?_, ?_, fun v hv => ⟨aP1 v hv, aT1 v hv, aI1 v hv, aR1 v hv⟩, ?_⟩
  · rw [zz1]; exact live1
  · rw [pI1]; funext k; exact mI_sN_at
  · rw [pR1]; funext k; exact mR_sN_at
  · rw [zz1]; rfl
theorem al_O (w ci : Nat) (hj : Inj φ T) (hl : live T φ (mZ τ)) : ∃ φ' T' I' R' τ', (∀ (β : Type) (K : Mem → Option Nat → Option β), nO ci (pt φ T I R τ) K = K (pt φ' T' I' R' τ') (some (φ' w))) ∧ Inj φ' T' ∧ live T' φ' (mZ τ') ∧ T' w = (ci + 1, 0) ∧ I' w = (fun _ => 0) ∧ R' w = (fun _ => none) ∧ (∀ v, v ≠ w → Eqv φ φ' T T' I I' R R' v) ∧ mZ τ' = mZ τ + 1 := by
  obtain ⟨φ', T', I', R', τ', e1, e2, e3, e4, e5, e6, e7, e8, e9⟩ := al_N (I := I) (R := R) (t := ci + 1) (s := 0) w hj hl (by omega)
  refine ⟨φ', T', I', R', τ', fun β K => ?_, e3, e4, e5, e6, e7, e8, e9⟩
  rw [nO_off (Off.of hl (Nat.le_refl _)), e1, e2]
theorem al_A (w t : Nat) {bd : Nat} (hj : Inj φ T) (hl : live T φ (mZ τ)) (h1 : ¬ p < 0) (h2 : p.toNatClampNeg = c) (h3 : c ≤ bd) : ∃ φ' T' I' R' τ', (∀ (β : Type) (K : Mem → Option Nat → Option β), nA t bd (pt φ T I R τ) p K = K (pt φ' T' I' R' τ') (some (φ' w))) ∧ Inj φ' T' ∧ live T' φ' (mZ τ') ∧ T' w = (100 + t, c) ∧ I' w = (fun _ => 0) ∧ R' w = (fun _ => none) ∧ (∀ v, v ≠ w → Eqv φ φ' T T' I I' R R' v) ∧ mZ τ' = mZ τ + 1 := by
  obtain ⟨φ', T', I', R', τ', e1, e2, e3, e4, e5, e6, e7, e8, e9⟩ := al_N (I := I) (R := R) (t := 100 + t) (s := c) w hj hl (by omega)
  refine ⟨φ', T', I', R', τ', fun β K => ?_, e3, e4, e5, e6, e7, e8, e9⟩
  rw [nA_off (Off.of hl (Nat.le_refl _)) h1 (by rw [h2]; exact h3), h2, e1, e2]
theorem up2_same {α : Type} {f : Nat → Nat → α} {a k : Nat} {x : α} (h : f a k = x) : up2 f a k x = f := by
  funext u j; unfold up2; split
  · rename_i q; rw [q.1, q.2, h]
  · rfl
theorem pI_s (hj : Inj φ T) {K : Mem → Option β} (h : (T v).1 = ci + 1) (e : I v k = x) : pI ci k (pt φ T I R τ) (some (φ v)) x K = K (pt φ T I R τ) := by
  rw [pI_pt hj h, up2_same e]
theorem pB_s (hj : Inj φ T) {K : Mem → Option β} (h : (T v).1 = ci + 1) (e : I v k = 0) : pB ci k (pt φ T I R τ) (some (φ v)) 0 K = K (pt φ T I R τ) := by
  rw [pB_pt hj h (Or.inl rfl), up2_same e]
theorem wRt_pt (t : Nat) (hj : Inj φ T) {K : Mem → Option β} (h : (T v).1 = 100 + t) (h1 : ¬ p < 0) (h2 : p.toNatClampNeg = k) (h3 : k < (T v).2) (he : ∀ y, r = some y → elOK t (pt φ T I R τ) y) : wR t (pt φ T I R τ) (some (φ v)) p r K = K (pt φ T I (up2 R v k r) τ) := by
  have hv : (T v).1 ≠ 0 := by omega
  rw [wR, if_pos ⟨by rw [mT_pt hj hv]; exact h, ⟨h1, by rw [mT_pt hj hv, h2]; exact h3⟩, fun y hy => he y hy⟩, sR_pt hj hv, h2]
/-- an auction is made -/
theorem x_auI (hj : Inj φ T) (hl : live T φ (mZ τ)) (tg : T g = (3, 0)) (ig : I g = fun _ => 0) : ∃ φ' T' I' R' τ', f_X0_init (φ g) (pt φ T I R τ) = some ((), pt φ' T' I' R' τ') ∧ Inj φ' T' ∧ live T' φ' (mZ τ') ∧ T' (g + 1) = (100, 4) ∧ T' (g + 2) = (100, 4) ∧ I' (g + 1) = (fun _ => 0) ∧ I' (g + 2) = (fun _ => 0) ∧ R' g 2 = some (φ' (g + 1)) ∧ R' g 3 = some (φ' (g + 2)) ∧ φ' g = φ g ∧ T' g = T g ∧ I' g = I g ∧ (∀ v, v ≠ g → v ≠ g + 1 → v ≠ g + 2 → Eqv φ φ' T T' I I' R R' v) ∧ mZ τ ≤ mZ τ' := by
  obtain ⟨φ1, T1, I1, R1, τ1, a1, a2, a3, a4, a5, a6, a7, a8⟩ := al_A (I := I) (R := R) (p := 4) (c := 4) (bd := 4) (g + 1) 0 hj hl (by decide) rfl (by decide)
  obtain ⟨p1, p2, p3, p4⟩ := a7 g (by omega)
  obtain ⟨R1', hR1⟩ : ∃ R', R' = up2 R1 g 2 (some (φ1 (g + 1))) := ⟨_, rfl⟩
  obtain ⟨φ2, T2, I2, R2, τ2, b1, b2, b3, b4, b5, b6, b7, b8⟩ := al_A (I := I1) (R := R1') (p := 4) (c := 4) (bd := 4) (g + 2) 0 a2 a3 (by decide) rfl (by decide)
  obtain ⟨q1, q2, q3, q4⟩ := b7 g (by omega)
  obtain ⟨r1, r2, r3, r4⟩ := b7 (g + 1) (by omega)
  refine ⟨φ2, T2, I2, up2 R2 g 3 (some (φ2 (g + 2))), τ2, ?_, b2, b3, by rw [r2]; exact a4, b4, by rw [r3]; exact a5, b5, ?_, up2_at, by rw [q1, p1], by rw [q2, p2], by rw [q3, p3], fun v h1 h2 h3 => ?_, by omega⟩
  · have t0 : (T g).1 = 2 + 1 := by rw [tg]
    have t1 : (T1 g).1 = 2 + 1 := by rw [p2, tg]
    have t2 : (T2 g).1 = 2 + 1 := by rw [q2, p2, tg]
    rw [f_X0_init, b_X0_init_0, ob_pt hj t0, pI_s hj t0 (by rw [ig]), pI_s hj t0 (by rw [ig]), a1, ← p1, pR_pt a2 t1, ← hR1, b1, ← q1, pR_pt b2 t2]
  · rw [up2_k (by decide), q4, hR1, up2_at, r1]
  · obtain ⟨x1, x2, x3, x4⟩ := a7 v h2
    obtain ⟨y1, y2, y3, y4⟩ := b7 v h3
    exact ⟨by rw [y1, x1], by rw [y2, x2], by rw [y3, x3], by rw [up2_row h1, y4, hR1, up2_row h1, x4]⟩
/-- a lot, as it is made -/
def LotOK (φ : Nat → Nat) (T : Nat → Nat × Nat) (I : Nat → Nat → Int32) (R : Nat → Nat → Option Nat) (g : Nat) : Prop :=
  T g = (4, 0) ∧ T (g + 1) = (100, 4) ∧ T (g + 2) = (100, 3) ∧ T (g + 3) = (3, 0) ∧ T (g + 4) = (100, 4) ∧ T (g + 5) = (100, 4) ∧ R g 13 = some (φ (g + 1)) ∧ R g 14 = some (φ (g + 2)) ∧ R g 15 = some (φ (g + 3)) ∧ R (g + 3) 2 = some (φ (g + 4)) ∧ R (g + 3) 3 = some (φ (g + 5)) ∧ (∀ k, I g k = if k = 9 then -1 else 0) ∧ (∀ j, 1 ≤ j → j ≤ 5 → I (g + j) = fun _ => 0)
theorem LotOK.fr {φ' : Nat → Nat} {T' : Nat → Nat × Nat} {I' : Nat → Nat → Int32} {R' : Nat → Nat → Option Nat} (h : LotOK φ T I R g) (e : ∀ v, g ≤ v → v ≤ g + 5 → Eqv φ φ' T T' I I' R R' v) : LotOK φ' T' I' R' g := by
  obtain ⟨h1, h2, h3, h4, h5, h6, h7, h8, h9, h10, h11, h12, h13⟩ := h
  obtain ⟨a1, a2, a3, a4⟩ := e g (by omega) (by omega)
  obtain ⟨b1, b2, b3, b4⟩ := e (g + 1) (by omega) (by omega)
  obtain ⟨c1, c2, c3, c4⟩ := e (g + 2) (by omega) (by omega)
  obtain ⟨d1, d2, d3, d4⟩ := e (g + 3) (by omega) (by omega)
  obtain ⟨e1, e2, e3, e4⟩ := e (g + 4) (by omega) (by omega)
  obtain ⟨f1, f2, f3, f4⟩ := e (g + 5) (by omega) (by omega)
  exact ⟨by rw [a2]; exact h1, by rw [b2]; exact h2, by rw [c2]; exact h3, by rw [d2]; exact h4, by rw [e2]; exact h5, by rw [f2]; exact h6, by rw [a4, b1]; exact h7, by rw [a4, c1]; exact h8, by rw [a4, d1]; exact h9, by rw [d4, e1]; exact h10, by rw [d4, f1]; exact h11, by rw [a3]; exact h12, fun j y1 y2 => by rw [(e (g + j) (by omega) (by omega)).2.2.1]; exact h13 j y1 y2⟩
theorem x_lotI (hj : Inj φ T) (hl : live T φ (mZ τ)) (tg : T g = (4, 0)) (ig : I g = fun _ => 0) : ∃ φ' T' I' R' τ', f_X1_init (φ g) (pt φ T I R τ) = some ((), pt φ' T' I' R' τ') ∧ Inj φ' T' ∧ live T' φ' (mZ τ') ∧ LotOK φ' T' I' R' g ∧ φ' g = φ g ∧ (∀ v, (v < g ∨ g + 5 < v) → Eqv φ φ' T T' I I' R R' v) ∧ mZ τ ≤ mZ τ' := by
  have t0 : (T g).1 = 3 + 1 := by rw [tg]
  obtain ⟨I0, hI0⟩ : ∃ I0, I0 = up2 I g 9 (-1) := ⟨_, rfl⟩
  have i0 : ∀ k, I0 g k = if k = 9 then -1 else 0 := fun k => by
    rw [hI0]
    by_cases q : k = 9
    · rw [q, up2_at, if_pos rfl]
    · rw [up2_k q, ig, if_neg q]
  have i0r : ∀ v, v ≠ g → I0 v = I v := fun v hv => by rw [hI0, up2_row hv]
  obtain ⟨φ1, T1, I1, R1, τ1, a1, a2, a3, a4, a5, a6, a7, a8⟩ := al_A (I := I0) (R := R) (p := 4) (c := 4) (bd := 4) (g + 1) 0 hj hl (by decide) rfl (by decide)
  obtain ⟨p1, p2, p3, p4⟩ := a7 g (by omega)
  obtain ⟨R1', hR1⟩ : ∃ R', R' = up2 R1 g 13 (some (φ1 (g + 1))) := ⟨_, rfl⟩
  obtain ⟨φ2, T2, I2, R2, τ2, b1, b2, b3, b4, b5, b6, b7, b8⟩ := al_A (I := I1) (R := R1') (p := 3) (c := 3) (bd := 3) (g + 2) 0 a2 a3 (by decide) rfl (by decide)
  obtain ⟨q1, q2, q3, q4⟩ := b7 g (by omega)
  obtain ⟨R2', hR2⟩ : ∃ R', R' = up2 R2 g 14 (some (φ2 (g + 2))) := ⟨_, rfl⟩
  obtain ⟨φ3, T3, I3, R3, τ3, c1, c2, c3, c4, c5, c6, c7, c8⟩ := al_O (I := I2) (R := R2') (g + 3) 2 b2 b3
  obtain ⟨r1, r2, r3, r4⟩ := c7 g (by omega)
  obtain ⟨φ4, T4, I4, R4, τ4, d1, d2, d3, d4, d5, d6, d7, d8, d9, d10, d11, d12, d13, d14⟩ := x_auI (R := R3) c2 c3 c4 c5
  obtain ⟨s1, s2, s3, s4⟩ := d13 g (by omega) (by omega) (by omega)
  obtain ⟨u1, u2, u3, u4⟩ := d13 (g + 1) (by omega) (by omega) (by omega)
  obtain ⟨v1, v2, v3, v4⟩ := c7 (g + 1) (by omega)
  obtain ⟨w1, w2, w3, w4⟩ := b7 (g + 1) (by omega)
  obtain ⟨x1, x2, x3, x4⟩ := d13 (g + 2) (by omega) (by omega) (by omega)
  obtain ⟨y1, y2, y3, y4⟩ := c7 (g + 2) (by omega)
  have pg : φ4 g = φ g := by rw [s1, r1, q1, p1]
  have tg4 : T4 g = (4, 0) := by rw [s2, r2, q2, p2, tg]
  have ig4 : ∀ k, I4 g k = if k = 9 then -1 else 0 := fun k => by rw [s3, r3, q3, p3, i0]
  refine ⟨φ4, T4, I4, up2 R4 g 15 (some (φ4 (g + 3))), τ4, ?_, d2, d3, ⟨tg4, ?_, ?_, ?_, d4, d5, ?_, ?_, up2_at, ?_, ?_, ig4, ?_⟩, pg, fun v hv => ?_, by omega⟩
  · have t1 : (T1 g).1 = 3 + 1 := by rw [p2, tg]
    have t2 : (T2 g).1 = 3 + 1 := by rw [q2, p2, tg]
    have t4 : (T4 g).1 = 3 + 1 := by rw [tg4]
    rw [f_X1_init, b_X1_init_0, ob_pt hj t0, pI_s hj t0 (by rw [ig]), pI_s hj t0 (by rw [ig]), pI_s hj t0 (by rw [ig]), pI_s hj t0 (by rw [ig]), pI_s hj t0 (by rw [ig]), pI_s hj t0 (by rw [ig]), pI_s hj t0 (by rw [ig]), pI_s hj t0 (by rw [ig]), pI_s hj t0 (by rw [ig]), pI_pt hj t0, ← hI0, pB_s hj t0 (i0 10), pB_s hj t0 (i0 11), pB_s hj t0 (i0 12), a1, ← p1, pR_pt a2 t1, ← hR1, b1, ← q1, pR_pt b2 t2, ← hR2, c1, ob_pt c2 (by rw [c4]), d1, cl1_s, ← d10, ← r1, ← s1, pR_pt d2 t4]
  · rw [u2, v2, w2]; exact a4
  · rw [x2, y2]; exact b4
  · rw [d11]; exact c4
  · rw [up2_k (by decide), s4, r4, hR2, up2_k (by decide), q4, hR1, up2_at, u1, v1, w1]
  · rw [up2_k (by decide), s4, r4, hR2, up2_at, x1, y1]
  · rw [up2_row (by omega)]; exact d8
  · rw [up2_row (by omega)]; exact d9
  · intro j h1 h2
    rcases (show j = 1 ∨ j = 2 ∨ j = 3 ∨ j = 4 ∨ j = 5 by omega) with rfl | rfl | rfl | rfl | rfl
    · rw [u3, v3, w3]; exact a5
    · rw [x3, y3]; exact b5
    · rw [d12]; exact c5
    · exact d6
    · exact d7
  · have hg : v ≠ g := by omega
    obtain ⟨l1, l2, l3, l4⟩ := a7 v (by omega)
    obtain ⟨m1, m2, m3, m4⟩ := b7 v (by omega)
    obtain ⟨n1, n2, n3, n4⟩ := c7 v (by omega)
    obtain ⟨o1, o2, o3, o4⟩ := d13 v (by omega) (by omega) (by omega)
    exact ⟨by rw [o1, n1, m1, l1], by rw [o2, n2, m2, l2], by rw [o3, n3, m3, l3, i0r v hg], by rw [up2_row hg, o4, n4, hR2, up2_row hg, m4, hR1, up2_row hg, l4]⟩
/-- a section, as it is made -/
def SecOK (φ : Nat → Nat) (T : Nat → Nat × Nat) (I : Nat → Nat → Int32) (R : Nat → Nat → Option Nat) (g : Nat) : Prop :=
  T g = (5, 0) ∧ R g 7 = some (φ (g + 1)) ∧ T (g + 1) = (100, 4) ∧ I g = (fun _ => 0) ∧ I (g + 1) = fun _ => 0
theorem SecOK.fr {φ' : Nat → Nat} {T' : Nat → Nat × Nat} {I' : Nat → Nat → Int32} {R' : Nat → Nat → Option Nat} (h : SecOK φ T I R g) (e : ∀ v, g ≤ v → v ≤ g + 1 → Eqv φ φ' T T' I I' R R' v) : SecOK φ' T' I' R' g := by
  obtain ⟨h1, h2, h3, h4, h5⟩ := h
  obtain ⟨a1, a2, a3, a4⟩ := e g (by omega) (by omega)
  obtain ⟨b1, b2, b3, b4⟩ := e (g + 1) (by omega) (by omega)
  exact ⟨by rw [a2]; exact h1, by rw [a4, b1]; exact h2, by rw [b2]; exact h3, by rw [a3]; exact h4, by rw [b3]; exact h5⟩
theorem x_secI (hj : Inj φ T) (hl : live T φ (mZ τ)) (tg : T g = (5, 0)) (ig : I g = fun _ => 0) : ∃ φ' T' I' R' τ', f_X2_init (φ g) (pt φ T I R τ) = some ((), pt φ' T' I' R' τ') ∧ Inj φ' T' ∧ live T' φ' (mZ τ') ∧ SecOK φ' T' I' R' g ∧ φ' g = φ g ∧ (∀ v, v ≠ g → v ≠ g + 1 → Eqv φ φ' T T' I I' R R' v) ∧ mZ τ ≤ mZ τ' := by
  have t0 : (T g).1 = 4 + 1 := by rw [tg]
  obtain ⟨φ1, T1, I1, R1, τ1, a1, a2, a3, a4, a5, a6, a7, a8⟩ := al_A (I := I) (R := R) (p := 4) (c := 4) (bd := 4) (g + 1) 0 hj hl (by decide) rfl (by decide)
  obtain ⟨p1, p2, p3, p4⟩ := a7 g (by omega)
  refine ⟨φ1, T1, I1, up2 R1 g 7 (some (φ1 (g + 1))), τ1, ?_, a2, a3, ⟨by rw [p2]; exact tg, up2_at, a4, by rw [p3]; exact ig, a5⟩, p1, fun v h1 h2 => ?_, by omega⟩
  · have t1 : (T1 g).1 = 4 + 1 := by rw [p2, tg]
    rw [f_X2_init, b_X2_init_0, ob_pt hj t0, pI_s hj t0 (by rw [ig]), pI_s hj t0 (by rw [ig]), pI_s hj t0 (by rw [ig]), pI_s hj t0 (by rw [ig]), pI_s hj t0 (by rw [ig]), pI_s hj t0 (by rw [ig]), pI_s hj t0 (by rw [ig]), a1, ← p1, pR_pt a2 t1]
  · obtain ⟨l1, l2, l3, l4⟩ := a7 v h2
    exact ⟨l1, l2, l3, by rw [up2_row h1, l4]⟩
end ST
