section TK
variable {φ : Nat → Nat} {T : Nat → Nat × Nat} {I J : Nat → Nat → Int32} {R : Nat → Nat → Option Nat} {τ : Mem} {nS nL n z : Nat}
variable {a w t s : Nat}
theorem pt_take (w : Nat) (hj : Inj φ T) (ho : Off φ T a) (ha : (mT τ a).1 ≠ 0) : Inj (rowS φ w a) (rowS T w (mT τ a)) ∧ pt φ T I R τ = pt (rowS φ w a) (rowS T w (mT τ a)) (rowS I w (mI τ a)) (rowS R w (mR τ a)) (pt φ T I R τ) := by
  obtain ⟨hj2, e2⟩ := pt_drop (I := I) (R := R) (σ := τ) w hj
  have hl : ∀ v, (rowS T w (0, 0) v).1 ≠ 0 → (T v).1 ≠ 0 := by
    intro v hv
    by_cases q : v = w
    · subst q; simp [rowS] at hv
    · rw [rowS_ne q] at hv; exact hv
  have ho2 : ∀ v, (rowS T w (0, 0) v).1 ≠ 0 → φ v ≠ a := fun v hv => ho v (hl v hv)
  have tT : mT (pt φ T I R τ) a = mT τ a := mT_off ho
  have tI : mI (pt φ T I R τ) a = mI τ a := mI_off ho
  have tR : mR (pt φ T I R τ) a = mR τ a := mR_off ho
  obtain ⟨hj3, e3⟩ := pt_new (I := I) (R := R) (σ := pt φ T I R τ) (w := w) hj2 (by simp [rowS]) (by rw [tT]; exact ha) ho2
  rw [tT, tI, tR] at e3
  have rr : rowS (rowS T w (0, 0)) w (mT τ a) = rowS T w (mT τ a) := by
    funext x; by_cases q : x = w <;> simp [rowS, q]
  rw [tT, rr] at hj3
  rw [rr] at e3
  exact ⟨hj3, e2.trans e3⟩
theorem live.take (h : live T φ z) (ha : a < z) : live (rowS T w (t, s)) (rowS φ w a) z := by
  intro v hv
  by_cases q : v = w
  · subst q; simp only [rowS, if_true]; exact ha
  · rw [rowS_ne q] at hv ⊢; exact h v hv
theorem rowS_hit {α : Type} {f : Nat → α} {a : Nat} {v : α} : rowS f a v a = v := if_pos rfl
theorem take1 (w : Nat) {t s : Nat} (hj : Inj φ T) (hl : live T φ z) (hz : z ≤ a) (ha : mT τ a = (t, s)) (ht : t ≠ 0) : ∃ φ' T' I' R' τ', pt φ T I R τ = pt φ' T' I' R' τ' ∧ Inj φ' T' ∧ live T' φ' (a + 1) ∧ φ' w = a ∧ T' w = (t, s) ∧ I' w = mI τ a ∧ R' w = mR τ a ∧ (∀ v, v ≠ w → φ' v = φ v) ∧ (∀ v, v ≠ w → T' v = T v) ∧ (∀ v, v ≠ w → I' v = I v) ∧ (∀ v, v ≠ w → R' v = R v) ∧ mZ τ' = mZ τ ∧ (∀ b, z ≤ b → mT τ' b = mT τ b ∧ mI τ' b = mI τ b ∧ mR τ' b = mR τ b) ∧ (∀ b, mJ τ' b = mJ τ b) := by
  have ho : ∀ b, z ≤ b → Off φ T b := fun b hb => Off.of hl hb
  obtain ⟨e1, e2⟩ := pt_take (I := I) (R := R) w hj (ho a hz) (by rw [ha]; exact ht)
  rw [ha] at e1 e2
  refine ⟨_, _, _, _, _, e2, e1, ?_, rowS_hit, rowS_hit, rowS_hit, rowS_hit, fun v hv => rowS_ne hv, fun v hv => rowS_ne hv, fun v hv => rowS_ne hv, fun v hv => rowS_ne hv, rfl, fun b hb => ⟨mT_off (ho b hb), mI_off (ho b hb), mR_off (ho b hb)⟩, fun b => rfl⟩
  have h2 : live T φ (a + 1) := fun v hv => Nat.lt_of_lt_of_le (hl v hv) (by omega)
  exact h2.take (Nat.lt_succ_self _)
end TK
/-! THE START: the two are made -/
section ST
variable {β : Type} {φ : Nat → Nat} {T : Nat → Nat × Nat} {I : Nat → Nat → Int32} {R : Nat → Nat → Option Nat} {τ : Mem} {e0 mi g w v ci k t c i : Nat} {x p : Int32} {r : Option Nat}
def Eqv (φ φ' : Nat → Nat) (T T' : Nat → Nat × Nat) (I I' : Nat → Nat → Int32) (R R' : Nat → Nat → Option Nat) (v : Nat) : Prop := φ' v = φ v ∧ T' v = T v ∧ I' v = I v ∧ R' v = R v
theorem Eqv.rfl' {v : Nat} : Eqv φ φ T T I I R R v := ⟨rfl, rfl, rfl, rfl⟩
theorem Eqv.trans {φ1 φ2 : Nat → Nat} {T1 T2 : Nat → Nat × Nat} {I1 I2 : Nat → Nat → Int32} {R1 R2 : Nat → Nat → Option Nat} (h1 : Eqv φ φ1 T T1 I I1 R R1 v) (h2 : Eqv φ1 φ2 T1 T2 I1 I2 R1 R2 v) : Eqv φ φ2 T T2 I I2 R R2 v :=
  ⟨h2.1.trans h1.1, h2.2.1.trans h1.2.1, h2.2.2.1.trans h1.2.2.1, h2.2.2.2.trans h1.2.2.2⟩
theorem al_N (w : Nat) {s : Nat} (hj : Inj φ T) (hl : live T φ (mZ τ)) (ht : t ≠ 0) : ∃ φ' T' I' R' τ', pt φ T I R (sN τ (t, s)) = pt φ' T' I' R' τ' ∧ φ' w = mZ τ ∧ Inj φ' T' ∧ live T' φ' (mZ τ') ∧ T' w = (t, s) ∧ I' w = (fun _ => 0) ∧ R' w = (fun _ => none) ∧ (∀ v, v ≠ w → Eqv φ φ' T T' I I' R R' v) ∧ mZ τ' = mZ τ + 1 := by
  have e1 : mT (sN τ (t, s)) (mZ τ) = (t, s) := mT_sN_at
  obtain ⟨φ1, T1, J1, R1, τ3, eq1, inj1, live1, ph1, pT1, pI1, pR1, aP1, aT1, aI1, aR1, zz1, of1, jj1⟩ := take1 (I := I) (R := R) (z := mZ τ) w hj hl (Nat.le_refl _) e1 ht
  refine ⟨φ1, T1, J1, R1, τ3, eq1, ph1, inj1, ?_, pT1, ?_, ?_, fun v hv => ⟨aP1 v hv, aT1 v hv, aI1 v hv, aR1 v hv⟩, ?_⟩
  · rw [zz1]; exact live1
  · rw [pI1]; funext k; exact mI_sN_at
  · rw [pR1]; funext k; exact mR_sN_at
  · rw [zz1]; rfl
theorem al_O (w ci : Nat) (hj : Inj φ T) (hl : live T φ (mZ τ)) : ∃ φ' T' I' R' τ', (∀ (β : Type) (K : Mem → Option Nat → Option β), nO ci (pt φ T I R τ) K = K (pt φ' T' I' R' τ') (some (φ' w))) ∧ Inj φ' T' ∧ live T' φ' (mZ τ') ∧ T' w = (ci + 1, 0) ∧ I' w = (fun _ => 0) ∧ R' w = (fun _ => none) ∧ (∀ v, v ≠ w → Eqv φ φ' T T' I I' R R' v) ∧ mZ τ' = mZ τ + 1 := by
  obtain ⟨φ', T', I', R', τ', e1, e2, e3, e4, e5, e6, e7, e8, e9⟩ := al_N (I := I) (R := R) (t := ci + 1) (s := 0) w hj hl (by omega)
  refine ⟨φ', T', I', R', τ', fun β K => ?_, e3, e4, e5, e6, e7, e8, e9⟩
  rw [nO_off (Off.of hl (Nat.le_refl _)), e1, e2]
theorem al_A (w t : Nat) {bd : Nat} (hj : Inj φ T) (hl : live T φ (mZ τ)) (h1 : ¬ p < 0) (h2 : p.toNatClampNeg = c) (h3 : c ≤ bd) : ∃ φ' T' I' R' τ', (∀ (β : Type) (K : Mem → Option Nat → Option β), nA t bd (pt φ T I R τ) p K = K (pt φ' T' I' R' τ') (some (φ' w))) ∧ Inj φ' T' ∧ live T' φ' (mZ τ') ∧ T' w = (100 + t, c) ∧ I' w = (fun _ => 0) ∧ R' w = (fun _ => none) ∧ (∀ v, v ≠ w → Eqv φ φ' T T' I I' R R' v) ∧ mZ τ' = mZ τ + 1 := by
  obtain ⟨φ', T', I', R', τ', e1, e2, e3, e4, e5, e6, e7, e8, e9⟩ := al_N (I := I) (R := R) (t := 100 + t) (s := c) w hj hl (by omega)
  refine ⟨φ', T', I', R', τ', fun β K => ?_, e3, e4, e5, e6, e7, e8, e9⟩
  rw [nA_off (Off.of hl (Nat.le_refl _)) h1 (by rw [h2]; exact h3), h2, e1, e2]
theorem up2_same {α : Type} {f : Nat → Nat → α} {a k : Nat} {x : α} (h : f a k = x) : up2 f a k x = f := by
  funext u j; unfold up2; split
  · rename_i q; rw [q.1, q.2, h]
  · rfl
theorem pI_s (hj : Inj φ T) {K : Mem → Option β} (h : (T v).1 = ci + 1) (e : I v k = x) : pI ci k (pt φ T I R τ) (some (φ v)) x K = K (pt φ T I R τ) := by
  rw [pI_pt hj h, up2_same e]
theorem pB_s (hj : Inj φ T) {K : Mem → Option β} (h : (T v).1 = ci + 1) (e : I v k = 0) : pB ci k (pt φ T I R τ) (some (φ v)) 0 K = K (pt φ T I R τ) := by
  rw [pB_pt hj h (Or.inl rfl), up2_same e]
theorem wRt_pt (t : Nat) (hj : Inj φ T) {K : Mem → Option β} (h : (T v).1 = 100 + t) (h1 : ¬ p < 0) (h2 : p.toNatClampNeg = k) (h3 : k < (T v).2) (he : ∀ y, r = some y → elOK t (pt φ T I R τ) y) : wR t (pt φ T I R τ) (some (φ v)) p r K = K (pt φ T I (up2 R v k r) τ) := by
  have hv : (T v).1 ≠ 0 := by omega
  rw [wR, if_pos ⟨by rw [mT_pt hj hv]; exact h, ⟨h1, by rw [mT_pt hj hv, h2]; exact h3⟩, fun y hy => he y hy⟩, sR_pt hj hv, h2]
/-- an auction is made -/
theorem x_auI (hj : Inj φ T) (hl : live T φ (mZ τ)) (tg : T g = (1, 0)) (ig : I g = fun _ => 0) : ∃ φ' T' I' R' τ', f_X0_init (φ g) (pt φ T I R τ) = some ((), pt φ' T' I' R' τ') ∧ Inj φ' T' ∧ live T' φ' (mZ τ') ∧ T' (g + 1) = (100, 4) ∧ T' (g + 2) = (100, 4) ∧ I' (g + 1) = (fun _ => 0) ∧ I' (g + 2) = (fun _ => 0) ∧ R' g 2 = some (φ' (g + 1)) ∧ R' g 3 = some (φ' (g + 2)) ∧ φ' g = φ g ∧ T' g = T g ∧ I' g = I g ∧ (∀ v, v ≠ g → v ≠ g + 1 → v ≠ g + 2 → Eqv φ φ' T T' I I' R R' v) ∧ mZ τ ≤ mZ τ' := by
  obtain ⟨φ1, T1, I1, R1, τ1, a1, a2, a3, a4, a5, a6, a7, a8⟩ := al_A (I := I) (R := R) (p := 4) (c := 4) (bd := 4) (g + 1) 0 hj hl (by decide) rfl (by decide)
  obtain ⟨p1, p2, p3, p4⟩ := a7 g (by omega)
  obtain ⟨R1', hR1⟩ : ∃ R', R' = up2 R1 g 2 (some (φ1 (g + 1))) := ⟨_, rfl⟩
  obtain ⟨φ2, T2, I2, R2, τ2, b1, b2, b3, b4, b5, b6, b7, b8⟩ := al_A (I := I1) (R := R1') (p := 4) (c := 4) (bd := 4) (g + 2) 0 a2 a3 (by decide) rfl (by decide)
  obtain ⟨q1, q2, q3, q4⟩ := b7 g (by omega)
  obtain ⟨r1, r2, r3, r4⟩ := b7 (g + 1) (by omega)
  refine ⟨φ2, T2, I2, up2 R2 g 3 (some (φ2 (g + 2))), τ2, ?_, b2, b3, by rw [r2]; exact a4, b4, by rw [r3]; exact a5, b5, ?_, up2_at, by rw [q1, p1], by rw [q2, p2], by rw [q3, p3], fun v h1 h2 h3 => ?_, by omega⟩
  · have t0 : (T g).1 = 0 + 1 := by rw [tg]
    have t1 : (T1 g).1 = 0 + 1 := by rw [p2, tg]
    have t2 : (T2 g).1 = 0 + 1 := by rw [q2, p2, tg]
    rw [f_X0_init, b_X0_init_0, ob_pt hj t0, pI_s hj t0 (by rw [ig]), pI_s hj t0 (by rw [ig]), a1, ← p1, pR_pt a2 t1, ← hR1, b1, ← q1, pR_pt b2 t2]
  · rw [up2_k (by decide), q4, hR1, up2_at, r1]
  · obtain ⟨x1, x2, x3, x4⟩ := a7 v h2
    obtain ⟨y1, y2, y3, y4⟩ := b7 v h3
    exact ⟨by rw [y1, x1], by rw [y2, x2], by rw [y3, x3], by rw [up2_row h1, y4, hR1, up2_row h1, x4]⟩
/-- a lot, as it is made -/
def LotOK (φ : Nat → Nat) (T : Nat → Nat × Nat) (I : Nat → Nat → Int32) (R : Nat → Nat → Option Nat) (g : Nat) : Prop :=
  T g = (2, 0) ∧ T (g + 1) = (100, 4) ∧ T (g + 2) = (100, 3) ∧ T (g + 3) = (1, 0) ∧ T (g + 4) = (100, 4) ∧ T (g + 5) = (100, 4) ∧ R g 13 = some (φ (g + 1)) ∧ R g 14 = some (φ (g + 2)) ∧ R g 15 = some (φ (g + 3)) ∧ R (g + 3) 2 = some (φ (g + 4)) ∧ R (g + 3) 3 = some (φ (g + 5)) ∧ (∀ k, I g k = if k = 9 then -1 else 0) ∧ (∀ j, 1 ≤ j → j ≤ 5 → I (g + j) = fun _ => 0)
theorem LotOK.fr {φ' : Nat → Nat} {T' : Nat → Nat × Nat} {I' : Nat → Nat → Int32} {R' : Nat → Nat → Option Nat} (h : LotOK φ T I R g) (e : ∀ v, g ≤ v → v ≤ g + 5 → Eqv φ φ' T T' I I' R R' v) : LotOK φ' T' I' R' g := by
  obtain ⟨h1, h2, h3, h4, h5, h6, h7, h8, h9, h10, h11, h12, h13⟩ := h
  obtain ⟨a1, a2, a3, a4⟩ := e g (by omega) (by omega)
  obtain ⟨b1, b2, b3, b4⟩ := e (g + 1) (by omega) (by omega)
  obtain ⟨c1, c2, c3, c4⟩ := e (g + 2) (by omega) (by omega)
  obtain ⟨d1, d2, d3, d4⟩ := e (g + 3) (by omega) (by omega)
  obtain ⟨e1, e2, e3, e4⟩ := e (g + 4) (by omega) (by omega)
  obtain ⟨f1, f2, f3, f4⟩ := e (g + 5) (by omega) (by omega)
  exact ⟨by rw [a2]; exact h1, by rw [b2]; exact h2, by rw [c2]; exact h3, by rw [d2]; exact h4, by rw [e2]; exact h5, by rw [f2]; exact h6, by rw [a4, b1]; exact h7, by rw [a4, c1]; exact h8, by rw [a4, d1]; exact h9, by rw [d4, e1]; exact h10, by rw [d4, f1]; exact h11, by rw [a3]; exact h12, fun j y1 y2 => by rw [(e (g + j) (by omega) (by omega)).2.2.1]; exact h13 j y1 y2⟩
theorem x_lotI (hj : Inj φ T) (hl : live T φ (mZ τ)) (tg : T g = (2, 0)) (ig : I g = fun _ => 0) : ∃ φ' T' I' R' τ', f_X1_init (φ g) (pt φ T I R τ) = some ((), pt φ' T' I' R' τ') ∧ Inj φ' T' ∧ live T' φ' (mZ τ') ∧ LotOK φ' T' I' R' g ∧ φ' g = φ g ∧ (∀ v, (v < g ∨ g + 5 < v) → Eqv φ φ' T T' I I' R R' v) ∧ mZ τ ≤ mZ τ' := by
  have t0 : (T g).1 = 1 + 1 := by rw [tg]
  obtain ⟨I0, hI0⟩ : ∃ I0, I0 = up2 I g 9 (-1) := ⟨_, rfl⟩
  have i0 : ∀ k, I0 g k = if k = 9 then -1 else 0 := fun k => by
    rw [hI0]
    by_cases q : k = 9
    · rw [q, up2_at, if_pos rfl]
    · rw [up2_k q, ig, if_neg q]
  have i0r : ∀ v, v ≠ g → I0 v = I v := fun v hv => by rw [hI0, up2_row hv]
  obtain ⟨φ1, T1, I1, R1, τ1, a1, a2, a3, a4, a5, a6, a7, a8⟩ := al_A (I := I0) (R := R) (p := 4) (c := 4) (bd := 4) (g + 1) 0 hj hl (by decide) rfl (by decide)
  obtain ⟨p1, p2, p3, p4⟩ := a7 g (by omega)
  obtain ⟨R1', hR1⟩ : ∃ R', R' = up2 R1 g 13 (some (φ1 (g + 1))) := ⟨_, rfl⟩
  obtain ⟨φ2, T2, I2, R2, τ2, b1, b2, b3, b4, b5, b6, b7, b8⟩ := al_A (I := I1) (R := R1') (p := 3) (c := 3) (bd := 3) (g + 2) 0 a2 a3 (by decide) rfl (by decide)
  obtain ⟨q1, q2, q3, q4⟩ := b7 g (by omega)
  obtain ⟨R2', hR2⟩ : ∃ R', R' = up2 R2 g 14 (some (φ2 (g + 2))) := ⟨_, rfl⟩
  obtain ⟨φ3, T3, I3, R3, τ3, c1, c2, c3, c4, c5, c6, c7, c8⟩ := al_O (I := I2) (R := R2') (g + 3) 0 b2 b3
  obtain ⟨r1, r2, r3, r4⟩ := c7 g (by omega)
  obtain ⟨φ4, T4, I4, R4, τ4, d1, d2, d3, d4, d5, d6, d7, d8, d9, d10, d11, d12, d13, d14⟩ := x_auI (R := R3) c2 c3 c4 c5
  obtain ⟨s1, s2, s3, s4⟩ := d13 g (by omega) (by omega) (by omega)
  obtain ⟨u1, u2, u3, u4⟩ := d13 (g + 1) (by omega) (by omega) (by omega)
  obtain ⟨v1, v2, v3, v4⟩ := c7 (g + 1) (by omega)
  obtain ⟨w1, w2, w3, w4⟩ := b7 (g + 1) (by omega)
  obtain ⟨x1, x2, x3, x4⟩ := d13 (g + 2) (by omega) (by omega) (by omega)
  obtain ⟨y1, y2, y3, y4⟩ := c7 (g + 2) (by omega)
  have pg : φ4 g = φ g := by rw [s1, r1, q1, p1]
  have tg4 : T4 g = (2, 0) := by rw [s2, r2, q2, p2, tg]
  have ig4 : ∀ k, I4 g k = if k = 9 then -1 else 0 := fun k => by rw [s3, r3, q3, p3, i0]
  refine ⟨φ4, T4, I4, up2 R4 g 15 (some (φ4 (g + 3))), τ4, ?_, d2, d3, ⟨tg4, ?_, ?_, ?_, d4, d5, ?_, ?_, up2_at, ?_, ?_, ig4, ?_⟩, pg, fun v hv => ?_, by omega⟩
  · have t1 : (T1 g).1 = 1 + 1 := by rw [p2, tg]
    have t2 : (T2 g).1 = 1 + 1 := by rw [q2, p2, tg]
    have t4 : (T4 g).1 = 1 + 1 := by rw [tg4]
    rw [f_X1_init, b_X1_init_0, ob_pt hj t0, pI_s hj t0 (by rw [ig]), pI_s hj t0 (by rw [ig]), pI_s hj t0 (by rw [ig]), pI_s hj t0 (by rw [ig]), pI_s hj t0 (by rw [ig]), pI_s hj t0 (by rw [ig]), pI_s hj t0 (by rw [ig]), pI_s hj t0 (by rw [ig]), pI_s hj t0 (by rw [ig]), pI_pt hj t0, ← hI0, pB_s hj t0 (i0 10), pB_s hj t0 (i0 11), pB_s hj t0 (i0 12), a1, ← p1, pR_pt a2 t1, ← hR1, b1, ← q1, pR_pt b2 t2, ← hR2, c1, ob_pt c2 (by rw [c4]), d1, cl1_s, ← d10, ← r1, ← s1, pR_pt d2 t4]
  · rw [u2, v2, w2]; exact a4
  · rw [x2, y2]; exact b4
  · rw [d11]; exact c4
  · rw [up2_k (by decide), s4, r4, hR2, up2_k (by decide), q4, hR1, up2_at, u1, v1, w1]
  · rw [up2_k (by decide), s4, r4, hR2, up2_at, x1, y1]
  · rw [up2_row (by omega)]; exact d8
  · rw [up2_row (by omega)]; exact d9
  · intro j h1 h2
    rcases (show j = 1 ∨ j = 2 ∨ j = 3 ∨ j = 4 ∨ j = 5 by omega) with rfl | rfl | rfl | rfl | rfl
    · rw [u3, v3, w3]; exact a5
    · rw [x3, y3]; exact b5
    · rw [d12]; exact c5
    · exact d6
    · exact d7
  · have hg : v ≠ g := by omega
    obtain ⟨l1, l2, l3, l4⟩ := a7 v (by omega)
    obtain ⟨m1, m2, m3, m4⟩ := b7 v (by omega)
    obtain ⟨n1, n2, n3, n4⟩ := c7 v (by omega)
    obtain ⟨o1, o2, o3, o4⟩ := d13 v (by omega) (by omega) (by omega)
    exact ⟨by rw [o1, n1, m1, l1], by rw [o2, n2, m2, l2], by rw [o3, n3, m3, l3, i0r v hg], by rw [up2_row hg, o4, n4, hR2, up2_row hg, m4, hR1, up2_row hg, l4]⟩
/-- a section, as it is made -/
def SecOK (φ : Nat → Nat) (T : Nat → Nat × Nat) (I : Nat → Nat → Int32) (R : Nat → Nat → Option Nat) (g : Nat) : Prop :=
  T g = (3, 0) ∧ R g 7 = some (φ (g + 1)) ∧ T (g + 1) = (100, 4) ∧ I g = (fun _ => 0) ∧ I (g + 1) = fun _ => 0
theorem SecOK.fr {φ' : Nat → Nat} {T' : Nat → Nat × Nat} {I' : Nat → Nat → Int32} {R' : Nat → Nat → Option Nat} (h : SecOK φ T I R g) (e : ∀ v, g ≤ v → v ≤ g + 1 → Eqv φ φ' T T' I I' R R' v) : SecOK φ' T' I' R' g := by
  obtain ⟨h1, h2, h3, h4, h5⟩ := h
  obtain ⟨a1, a2, a3, a4⟩ := e g (by omega) (by omega)
  obtain ⟨b1, b2, b3, b4⟩ := e (g + 1) (by omega) (by omega)
  exact ⟨by rw [a2]; exact h1, by rw [a4, b1]; exact h2, by rw [b2]; exact h3, by rw [a3]; exact h4, by rw [b3]; exact h5⟩
theorem x_secI (hj : Inj φ T) (hl : live T φ (mZ τ)) (tg : T g = (3, 0)) (ig : I g = fun _ => 0) : ∃ φ' T' I' R' τ', f_X2_init (φ g) (pt φ T I R τ) = some ((), pt φ' T' I' R' τ') ∧ Inj φ' T' ∧ live T' φ' (mZ τ') ∧ SecOK φ' T' I' R' g ∧ φ' g = φ g ∧ (∀ v, v ≠ g → v ≠ g + 1 → Eqv φ φ' T T' I I' R R' v) ∧ mZ τ ≤ mZ τ' := by
  have t0 : (T g).1 = 2 + 1 := by rw [tg]
  obtain ⟨φ1, T1, I1, R1, τ1, a1, a2, a3, a4, a5, a6, a7, a8⟩ := al_A (I := I) (R := R) (p := 4) (c := 4) (bd := 4) (g + 1) 0 hj hl (by decide) rfl (by decide)
  obtain ⟨p1, p2, p3, p4⟩ := a7 g (by omega)
  refine ⟨φ1, T1, I1, up2 R1 g 7 (some (φ1 (g + 1))), τ1, ?_, a2, a3, ⟨by rw [p2]; exact tg, up2_at, a4, by rw [p3]; exact ig, a5⟩, p1, fun v h1 h2 => ?_, by omega⟩
  · have t1 : (T1 g).1 = 2 + 1 := by rw [p2, tg]
    rw [f_X2_init, b_X2_init_0, ob_pt hj t0, pI_s hj t0 (by rw [ig]), pI_s hj t0 (by rw [ig]), pI_s hj t0 (by rw [ig]), pI_s hj t0 (by rw [ig]), pI_s hj t0 (by rw [ig]), pI_s hj t0 (by rw [ig]), pI_s hj t0 (by rw [ig]), a1, ← p1, pR_pt a2 t1]
  · obtain ⟨l1, l2, l3, l4⟩ := a7 v h2
    exact ⟨l1, l2, l3, by rw [up2_row h1, l4]⟩
end ST

/-! THE START: the garden -/
section SU
variable {φ : Nat → Nat} {T : Nat → Nat × Nat} {I : Nat → Nat → Int32} {R : Nat → Nat → Option Nat} {τ : Mem} {e0 mi g w v ci k t c i : Nat} {x p : Int32} {r : Option Nat}
def GB (φ : Nat → Nat) (T : Nat → Nat × Nat) (I : Nat → Nat → Int32) (R : Nat → Nat → Option Nat) : Prop :=
  T 0 = (5, 0) ∧ R 0 0 = some (φ 1) ∧ R 0 3 = some (φ 2) ∧ R 0 5 = some (φ 115) ∧ R 0 6 = some (φ 9) ∧ R 0 7 = some (φ 10) ∧ T 1 = (102, 4) ∧ T 2 = (101, 16) ∧ T 9 = (103, 3) ∧ T 10 = (100, 4) ∧ I 0 = (fun _ => 0) ∧ I 10 = (fun _ => 0) ∧ LotOK φ T I R 115
theorem GB.fr {φ' : Nat → Nat} {T' : Nat → Nat × Nat} {I' : Nat → Nat → Int32} {R' : Nat → Nat → Option Nat} (h : GB φ T I R) (e : ∀ v, v = 0 ∨ v = 10 ∨ (115 ≤ v ∧ v ≤ 120) → Eqv φ φ' T T' I I' R R' v) (e2 : ∀ v, v = 1 ∨ v = 2 ∨ v = 9 → φ' v = φ v ∧ T' v = T v) : GB φ' T' I' R' := by
  obtain ⟨h1, h2, h3, h4, h5, h6, h7, h8, h9, h10, h11, h12, h13⟩ := h
  obtain ⟨a1, a2, a3, a4⟩ := e 0 (Or.inl rfl)
  obtain ⟨b1, b2, b3, b4⟩ := e 10 (Or.inr (Or.inl rfl))
  obtain ⟨c1, c2⟩ := e2 1 (Or.inl rfl)
  obtain ⟨d1, d2⟩ := e2 2 (Or.inr (Or.inl rfl))
  obtain ⟨f1, f2⟩ := e2 9 (Or.inr (Or.inr rfl))
  exact ⟨by rw [a2]; exact h1, by rw [a4, c1]; exact h2, by rw [a4, d1]; exact h3, by rw [a4, (e 115 (Or.inr (Or.inr ⟨by omega, by omega⟩))).1]; exact h4, by rw [a4, f1]; exact h5, by rw [a4, b1]; exact h6, by rw [c2]; exact h7, by rw [d2]; exact h8, by rw [f2]; exact h9, by rw [b2]; exact h10, by rw [a3]; exact h11, by rw [b3]; exact h12, h13.fr (fun v h1 h2 => e v (Or.inr (Or.inr ⟨by omega, by omega⟩)))⟩
def PSt (φ : Nat → Nat) (T : Nat → Nat × Nat) (I : Nat → Nat → Int32) (R : Nat → Nat → Option Nat) (i : Nat) : Prop := GB φ T I R ∧ ∀ j, j < i → SecOK φ T I R (2 * j + 11) ∧ R 1 j = some (φ (2 * j + 11))
def PLt (φ : Nat → Nat) (T : Nat → Nat × Nat) (I : Nat → Nat → Int32) (R : Nat → Nat → Option Nat) (i : Nat) : Prop := PSt φ T I R 4 ∧ ∀ j, j < i → LotOK φ T I R (6 * j + 19) ∧ R 2 j = some (φ (6 * j + 19))
def PTt (φ : Nat → Nat) (T : Nat → Nat × Nat) (I : Nat → Nat → Int32) (R : Nat → Nat → Option Nat) (i : Nat) : Prop := PLt φ T I R 16 ∧ ∀ j, j < i → T (j + 3) = (4, 0) ∧ I (j + 3) = (fun _ => 0) ∧ R 9 j = some (φ (j + 3))
theorem PSt.fr {φ' : Nat → Nat} {T' : Nat → Nat × Nat} {I' : Nat → Nat → Int32} {R' : Nat → Nat → Option Nat} (h : PSt φ T I R i) (hi : i ≤ 4) (e : ∀ v, v = 0 ∨ v = 10 ∨ (115 ≤ v ∧ v ≤ 120) ∨ (11 ≤ v ∧ v < 2 * i + 11) → Eqv φ φ' T T' I I' R R' v) (e2 : ∀ v, v = 1 ∨ v = 2 ∨ v = 9 → φ' v = φ v ∧ T' v = T v) (e3 : ∀ j, j < i → R' 1 j = R 1 j) : PSt φ' T' I' R' i := by
  refine ⟨h.1.fr (fun v hv => e v (by omega)) e2, fun j hj => ⟨(h.2 j hj).1.fr (fun v h1 h2 => e v (by omega)), ?_⟩⟩
  rw [e3 j hj, (h.2 j hj).2, (e (2 * j + 11) (by omega)).1]
theorem PLt.fr {φ' : Nat → Nat} {T' : Nat → Nat × Nat} {I' : Nat → Nat → Int32} {R' : Nat → Nat → Option Nat} (h : PLt φ T I R i) (hi : i ≤ 16) (e : ∀ v, v = 0 ∨ v = 10 ∨ (115 ≤ v ∧ v ≤ 120) ∨ (11 ≤ v ∧ v < 19) ∨ (19 ≤ v ∧ v < 6 * i + 19) → Eqv φ φ' T T' I I' R R' v) (e2 : ∀ v, v = 1 ∨ v = 2 ∨ v = 9 → φ' v = φ v ∧ T' v = T v) (e3 : R' 1 = R 1) (e4 : ∀ j, j < i → R' 2 j = R 2 j) : PLt φ' T' I' R' i := by
  refine ⟨h.1.fr (Nat.le_refl _) (fun v hv => e v (by omega)) e2 (fun j _ => by rw [e3]), fun j hj => ⟨(h.2 j hj).1.fr (fun v h1 h2 => e v (by omega)), ?_⟩⟩
  rw [e4 j hj, (h.2 j hj).2, (e (6 * j + 19) (by omega)).1]
theorem x_i84 {x0 : Nat} : ∀ d i fl (φ : Nat → Nat) (T : Nat → Nat × Nat) (I : Nat → Nat → Int32) (R : Nat → Nat → Option Nat) (τ : Mem), i + d = 4 → d + 1 ≤ fl → Inj φ T → live T φ (mZ τ) → φ 0 = x0 → PSt φ T I R i → ∃ φ' T' I' R' τ', l_X4_init_84 fl x0 (Int32.ofNat i) (pt φ T I R τ) = l_X4_init_114 17 x0 0 (pt φ' T' I' R' τ') ∧ Inj φ' T' ∧ live T' φ' (mZ τ') ∧ φ' 0 = x0 ∧ PSt φ' T' I' R' 4 ∧ (∀ v, 121 ≤ v → Eqv φ φ' T T' I I' R R' v) ∧ mZ τ ≤ mZ τ' := by
  intro d
  induction d with
  | zero =>
    intro i fl φ T I R τ h1 h2 hj hl hx hP
    obtain ⟨fl', rfl⟩ : ∃ x, fl = x + 1 := ⟨fl - 1, by omega⟩
    have i4 : i = 4 := by omega
    subst i4
    obtain ⟨⟨g1, g2, g3, g4, g5, g6, g7, -⟩, -⟩ := id hP
    refine ⟨φ, T, I, R, τ, ?_, hj, hl, hx, hP, fun v _ => Eqv.rfl', Nat.le_refl _⟩
    have al : ∀ {K : Int32 → Option (Unit × Mem)}, aL (pt φ T I R τ) (some (φ 1)) K = K 4 := fun {K} => by
      rw [aL_pt hj (by rw [g7]; exact ⟨by decide, by decide⟩), g7]; rfl
    rw [l_X4_init_84, itr_succ, b_X4_init_84, ← hx, gR_pt hj (by rw [g1]), g2, al, if_pos (show (4 : Int32) ≤ Int32.ofNat 4 by decide)]
  | succ d ih =>
    intro i fl φ T I R τ h1 h2 hj hl hx hP
    obtain ⟨fl', rfl⟩ : ∃ x, fl = x + 1 := ⟨fl - 1, by omega⟩
    obtain ⟨⟨g1, g2, g3, g4, g5, g6, g7, -⟩, hS⟩ := id hP
    have c1 : ¬ (4 : Int32) ≤ Int32.ofNat i := by rw [show (4 : Int32) = Int32.ofNat 4 from rfl, kN_le (by omega) (by omega)]; omega
    have al : ∀ {K : Int32 → Option (Unit × Mem)}, aL (pt φ T I R τ) (some (φ 1)) K = K 4 := fun {K} => by
      rw [aL_pt hj (by rw [g7]; exact ⟨by decide, by decide⟩), g7]; rfl
    obtain ⟨φ1, T1, I1, R1, τ1, a1, a2, a3, a4, a5, a6, a7, a8⟩ := al_O (I := I) (R := R) (2 * i + 11) 2 hj hl
    obtain ⟨φ2, T2, I2, R2, τ2, b1, b2, b3, b4, b5, b6, b7⟩ := x_secI (R := R1) a2 a3 a4 a5
    have E : ∀ v, v ≠ 2 * i + 11 → v ≠ 2 * i + 12 → Eqv φ φ2 T T2 I I2 R R2 v := fun v y1 y2 => (a7 v y1).trans (b6 v y1 y2)
    obtain ⟨R3, hR3⟩ : ∃ R3, R3 = up2 R2 1 i (some (φ2 (2 * i + 11))) := ⟨_, rfl⟩
    have E3 : ∀ v, v ≠ 2 * i + 11 → v ≠ 2 * i + 12 → v ≠ 1 → Eqv φ φ2 T T2 I I2 R R3 v := fun v y1 y2 y3 => by
      obtain ⟨z1, z2, z3, z4⟩ := E v y1 y2
      exact ⟨z1, z2, z3, by rw [hR3, up2_row y3, z4]⟩
    have E1 := E 1 (by omega) (by omega)
    have P3 : PSt φ2 T2 I2 R3 (i + 1) := by
      have base : PSt φ2 T2 I2 R3 i := hP.fr (by omega) (fun v hv => E3 v (by omega) (by omega) (by omega)) (fun v hv => ⟨(E v (by omega) (by omega)).1, (E v (by omega) (by omega)).2.1⟩) (fun j hj' => by rw [hR3, up2_k (by omega), E1.2.2.2])
      refine ⟨base.1, fun j hj' => ?_⟩
      rcases (show j < i ∨ j = i by omega) with y | y
      · exact base.2 j y
      · subst y
        refine ⟨b4.fr (fun v y1 y2 => ⟨rfl, rfl, rfl, ?_⟩), by rw [hR3, up2_at]⟩
        rw [hR3, up2_row (by omega)]
    have x2 : φ2 0 = x0 := by rw [(E 0 (by omega) (by omega)).1, hx]
    obtain ⟨φ3, T3, I3, R4, τ3, c2, c3, c4, c5, c6, c7, c8⟩ := ih (i + 1) fl' φ2 T2 I2 R3 τ2 (by omega) (by omega) b2 b3 x2 P3
    refine ⟨φ3, T3, I3, R4, τ3, ?_, c3, c4, c5, c6, fun v hv => (E3 v (by omega) (by omega) (by omega)).trans (c7 v hv), by omega⟩
    have W : ∀ {K : Mem → Option (Unit × Mem)}, wR 2 (pt φ2 T2 I2 R2 τ2) (some (φ 1)) (Int32.ofNat i) (some (φ1 (2 * i + 11))) K = K (pt φ2 T2 I2 R3 τ2) := fun {K} => by
      rw [← E1.1, ← b5, wRt_pt 2 b2 (by rw [E1.2.1, g7]) (kN_nn (by omega)) (tnK (by omega)) (by rw [E1.2.1, g7]; show i < 4; omega) (fun y hy => by
        cases hy
        refine Or.inr (Or.inl ⟨rfl, ?_⟩)
        rw [mT_pt b2 (by rw [b4.1]; decide), b4.1]), hR3]
    rw [l_X4_init_84, itr_succ, b_X4_init_84, ← hx, gR_pt hj (by rw [g1]), g2, al, if_neg c1, gR_pt hj (by rw [g1]), g2, a1, ob_pt a2 (by rw [a4]), b1, cl1_s, W, nm, kN_s, hx]
    exact c2
theorem x_i114 {x0 : Nat} : ∀ d i fl (φ : Nat → Nat) (T : Nat → Nat × Nat) (I : Nat → Nat → Int32) (R : Nat → Nat → Option Nat) (τ : Mem), i + d = 16 → d + 1 ≤ fl → Inj φ T → live T φ (mZ τ) → φ 0 = x0 → PLt φ T I R i → ∃ φ' T' I' R' τ', l_X4_init_114 fl x0 (Int32.ofNat i) (pt φ T I R τ) = l_X4_init_144 4 x0 0 (pt φ' T' I' R' τ') ∧ Inj φ' T' ∧ live T' φ' (mZ τ') ∧ φ' 0 = x0 ∧ PLt φ' T' I' R' 16 ∧ (∀ v, 121 ≤ v → Eqv φ φ' T T' I I' R R' v) ∧ mZ τ ≤ mZ τ' := by
  intro d
  induction d with
  | zero =>
    intro i fl φ T I R τ h1 h2 hj hl hx hP
    obtain ⟨fl', rfl⟩ : ∃ x, fl = x + 1 := ⟨fl - 1, by omega⟩
    have i4 : i = 16 := by omega
    subst i4
    obtain ⟨⟨⟨g1, g2, g3, g4, g5, g6, g7, g8, -⟩, -⟩, -⟩ := id hP
    refine ⟨φ, T, I, R, τ, ?_, hj, hl, hx, hP, fun v _ => Eqv.rfl', Nat.le_refl _⟩
    have al : ∀ {K : Int32 → Option (Unit × Mem)}, aL (pt φ T I R τ) (some (φ 2)) K = K 16 := fun {K} => by
      rw [aL_pt hj (by rw [g8]; exact ⟨by decide, by decide⟩), g8]; rfl
    rw [l_X4_init_114, itr_succ, b_X4_init_114, ← hx, gR_pt hj (by rw [g1]), g3, al, if_pos (show (16 : Int32) ≤ Int32.ofNat 16 by decide)]
  | succ d ih =>
    intro i fl φ T I R τ h1 h2 hj hl hx hP
    obtain ⟨fl', rfl⟩ : ∃ x, fl = x + 1 := ⟨fl - 1, by omega⟩
    obtain ⟨⟨⟨g1, g2, g3, g4, g5, g6, g7, g8, -⟩, -⟩, hS⟩ := id hP
    have c1 : ¬ (16 : Int32) ≤ Int32.ofNat i := by rw [show (16 : Int32) = Int32.ofNat 16 from rfl, kN_le (by omega) (by omega)]; omega
    have al : ∀ {K : Int32 → Option (Unit × Mem)}, aL (pt φ T I R τ) (some (φ 2)) K = K 16 := fun {K} => by
      rw [aL_pt hj (by rw [g8]; exact ⟨by decide, by decide⟩), g8]; rfl
    obtain ⟨φ1, T1, I1, R1, τ1, a1, a2, a3, a4, a5, a6, a7, a8⟩ := al_O (I := I) (R := R) (6 * i + 19) 1 hj hl
    obtain ⟨φ2, T2, I2, R2, τ2, b1, b2, b3, b4, b5, b6, b7⟩ := x_lotI (R := R1) a2 a3 a4 a5
    have E : ∀ v, (v < 6 * i + 19 ∨ 6 * i + 24 < v) → Eqv φ φ2 T T2 I I2 R R2 v := fun v y1 => (a7 v (by omega)).trans (b6 v (by omega))
    obtain ⟨R3, hR3⟩ : ∃ R3, R3 = up2 R2 2 i (some (φ2 (6 * i + 19))) := ⟨_, rfl⟩
    have E3 : ∀ v, (v < 6 * i + 19 ∨ 6 * i + 24 < v) → v ≠ 2 → Eqv φ φ2 T T2 I I2 R R3 v := fun v y1 y3 => by
      obtain ⟨z1, z2, z3, z4⟩ := E v y1
      exact ⟨z1, z2, z3, by rw [hR3, up2_row y3, z4]⟩
    have E1 := E 2 (by omega)
    have P3 : PLt φ2 T2 I2 R3 (i + 1) := by
      have base : PLt φ2 T2 I2 R3 i := hP.fr (by omega) (fun v hv => E3 v (by omega) (by omega)) (fun v hv => ⟨(E v (by omega)).1, (E v (by omega)).2.1⟩) (E3 1 (by omega) (by omega)).2.2.2 (fun j hj' => by rw [hR3, up2_k (by omega), E1.2.2.2])
      refine ⟨base.1, fun j hj' => ?_⟩
      rcases (show j < i ∨ j = i by omega) with y | y
      · exact base.2 j y
      · subst y
        refine ⟨b4.fr (fun v y1 y2 => ⟨rfl, rfl, rfl, ?_⟩), by rw [hR3, up2_at]⟩
        rw [hR3, up2_row (by omega)]
    have x2 : φ2 0 = x0 := by rw [(E 0 (by omega)).1, hx]
    obtain ⟨φ3, T3, I3, R4, τ3, c2, c3, c4, c5, c6, c7, c8⟩ := ih (i + 1) fl' φ2 T2 I2 R3 τ2 (by omega) (by omega) b2 b3 x2 P3
    refine ⟨φ3, T3, I3, R4, τ3, ?_, c3, c4, c5, c6, fun v hv => (E3 v (by omega) (by omega)).trans (c7 v hv), by omega⟩
    have W : ∀ {K : Mem → Option (Unit × Mem)}, wR 1 (pt φ2 T2 I2 R2 τ2) (some (φ 2)) (Int32.ofNat i) (some (φ1 (6 * i + 19))) K = K (pt φ2 T2 I2 R3 τ2) := fun {K} => by
      rw [← E1.1, ← b5, wRt_pt 1 b2 (by rw [E1.2.1, g8]) (kN_nn (by omega)) (tnK (by omega)) (by rw [E1.2.1, g8]; show i < 16; omega) (fun y hy => by
        cases hy
        refine Or.inl ⟨rfl, ?_⟩
        rw [mT_pt b2 (by rw [b4.1]; decide), b4.1]), hR3]
    rw [l_X4_init_114, itr_succ, b_X4_init_114, ← hx, gR_pt hj (by rw [g1]), g3, al, if_neg c1, gR_pt hj (by rw [g1]), g3, a1, ob_pt a2 (by rw [a4]), b1, cl1_s, W, nm, kN_s, hx]
    exact c2
theorem x_i144 {x0 : Nat} : ∀ d i fl (φ : Nat → Nat) (T : Nat → Nat × Nat) (I : Nat → Nat → Int32) (R : Nat → Nat → Option Nat) (τ : Mem), i + d = 3 → d + 1 ≤ fl → Inj φ T → live T φ (mZ τ) → φ 0 = x0 → PTt φ T I R i → ∃ φ' T' I' R' τ', l_X4_init_144 fl x0 (Int32.ofNat i) (pt φ T I R τ) = some ((), pt φ' T' I' R' τ') ∧ Inj φ' T' ∧ live T' φ' (mZ τ') ∧ φ' 0 = x0 ∧ PTt φ' T' I' R' 3 ∧ (∀ v, 121 ≤ v → Eqv φ φ' T T' I I' R R' v) ∧ mZ τ ≤ mZ τ' := by
  intro d
  induction d with
  | zero =>
    intro i fl φ T I R τ h1 h2 hj hl hx hP
    obtain ⟨fl', rfl⟩ : ∃ x, fl = x + 1 := ⟨fl - 1, by omega⟩
    have i4 : i = 3 := by omega
    subst i4
    obtain ⟨⟨⟨⟨g1, g2, g3, g4, g5, g6, g7, g8, g9, -⟩, -⟩, -⟩, -⟩ := id hP
    refine ⟨φ, T, I, R, τ, ?_, hj, hl, hx, hP, fun v _ => Eqv.rfl', Nat.le_refl _⟩
    have al : ∀ {K : Int32 → Option (Unit × Mem)}, aL (pt φ T I R τ) (some (φ 9)) K = K 3 := fun {K} => by
      rw [aL_pt hj (by rw [g9]; exact ⟨by decide, by decide⟩), g9]; rfl
    rw [l_X4_init_144, itr_succ, b_X4_init_144, ← hx, gR_pt hj (by rw [g1]), g5, al, if_pos (show (3 : Int32) ≤ Int32.ofNat 3 by decide)]
  | succ d ih =>
    intro i fl φ T I R τ h1 h2 hj hl hx hP
    obtain ⟨fl', rfl⟩ : ∃ x, fl = x + 1 := ⟨fl - 1, by omega⟩
    obtain ⟨⟨⟨⟨g1, g2, g3, g4, g5, g6, g7, g8, g9, -⟩, -⟩, -⟩, hS⟩ := id hP
    have c1 : ¬ (3 : Int32) ≤ Int32.ofNat i := by rw [show (3 : Int32) = Int32.ofNat 3 from rfl, kN_le (by omega) (by omega)]; omega
    have al : ∀ {K : Int32 → Option (Unit × Mem)}, aL (pt φ T I R τ) (some (φ 9)) K = K 3 := fun {K} => by
      rw [aL_pt hj (by rw [g9]; exact ⟨by decide, by decide⟩), g9]; rfl
    obtain ⟨φ2, T2, I2, R2, τ2, a1, b2, b3, b4, a5, a6, E, a8⟩ := al_O (I := I) (R := R) (i + 3) 3 hj hl
    have TI : f_X3_init (φ2 (i + 3)) (pt φ2 T2 I2 R2 τ2) = some ((), pt φ2 T2 I2 R2 τ2) := by
      have t6 : (T2 (i + 3)).1 = 3 + 1 := by rw [b4]
      rw [f_X3_init, b_X3_init_0, ob_pt b2 t6, pI_s b2 t6 (by rw [a5]), pI_s b2 t6 (by rw [a5]), pI_s b2 t6 (by rw [a5])]
    obtain ⟨R3, hR3⟩ : ∃ R3, R3 = up2 R2 9 i (some (φ2 (i + 3))) := ⟨_, rfl⟩
    have E3 : ∀ v, v ≠ i + 3 → v ≠ 9 → Eqv φ φ2 T T2 I I2 R R3 v := fun v y1 y3 => by
      obtain ⟨z1, z2, z3, z4⟩ := E v y1
      exact ⟨z1, z2, z3, by rw [hR3, up2_row y3, z4]⟩
    have E1 := E 9 (by omega)
    have P3 : PTt φ2 T2 I2 R3 (i + 1) := by
      have base : PLt φ2 T2 I2 R3 16 := hP.1.fr (by omega) (fun v hv => E3 v (by omega) (by omega)) (fun v hv => ⟨(E v (by omega)).1, (E v (by omega)).2.1⟩) (E3 1 (by omega) (by omega)).2.2.2 (fun j hj' => by rw [(E3 2 (by omega) (by omega)).2.2.2])
      refine ⟨base, fun j hj' => ?_⟩
      rcases (show j < i ∨ j = i by omega) with y | y
      · obtain ⟨y1, y2, y3⟩ := hS j y
        obtain ⟨z1, z2, z3, z4⟩ := E (j + 3) (by omega)
        refine ⟨by rw [z2]; exact y1, by rw [z3]; exact y2, ?_⟩
        rw [hR3, up2_k (by omega), E1.2.2.2, y3, z1]
      · subst y
        exact ⟨b4, a5, by rw [hR3, up2_at]⟩
    have x2 : φ2 0 = x0 := by rw [(E 0 (by omega)).1, hx]
    obtain ⟨φ3, T3, I3, R4, τ3, c2, c3, c4, c5, c6, c7, c8⟩ := ih (i + 1) fl' φ2 T2 I2 R3 τ2 (by omega) (by omega) b2 b3 x2 P3
    refine ⟨φ3, T3, I3, R4, τ3, ?_, c3, c4, c5, c6, fun v hv => (E3 v (by omega) (by omega)).trans (c7 v hv), by omega⟩
    have W : ∀ {K : Mem → Option (Unit × Mem)}, wR 3 (pt φ2 T2 I2 R2 τ2) (some (φ 9)) (Int32.ofNat i) (some (φ2 (i + 3))) K = K (pt φ2 T2 I2 R3 τ2) := fun {K} => by
      rw [← E1.1, wRt_pt 3 b2 (by rw [E1.2.1, g9]) (kN_nn (by omega)) (tnK (by omega)) (by rw [E1.2.1, g9]; show i < 3; omega) (fun y hy => by
        cases hy
        refine Or.inr (Or.inr ⟨rfl, ?_⟩)
        rw [mT_pt b2 (by rw [b4]; simp), b4]), hR3]
    rw [l_X4_init_144, itr_succ, b_X4_init_144, ← hx, gR_pt hj (by rw [g1]), g5, al, if_neg c1, gR_pt hj (by rw [g1]), g5, a1, ob_pt b2 (by rw [b4]), TI, cl1_s, W, nm, kN_s, hx]
    exact c2
/-- the garden is made -/
theorem x_gard (hj : Inj φ T) (hl : live T φ (mZ τ)) (tg : T 0 = (5, 0)) (ig : I 0 = fun _ => 0) : ∃ φ' T' I' R' τ', f_X4_init (φ 0) (pt φ T I R τ) = some ((), pt φ' T' I' R' τ') ∧ Inj φ' T' ∧ live T' φ' (mZ τ') ∧ φ' 0 = φ 0 ∧ PTt φ' T' I' R' 3 ∧ (∀ v, 121 ≤ v → Eqv φ φ' T T' I I' R R' v) ∧ mZ τ ≤ mZ τ' := by
  have t0 : (T 0).1 = 4 + 1 := by rw [tg]
  obtain ⟨φ1, T1, I1, R1, τ1, a1, a2, a3, a4, a5, a6, a7, a8⟩ := al_A (I := I) (R := R) (p := 4) (c := 4) (bd := 4) 1 2 hj hl (by decide) rfl (by decide)
  obtain ⟨p1, p2, p3, p4⟩ := a7 0 (by omega)
  have t1 : (T1 0).1 = 4 + 1 := by rw [p2, tg]
  have i1 : I1 0 = fun _ => 0 := by rw [p3, ig]
  obtain ⟨S1, hS1⟩ : ∃ S, S = up2 R1 0 0 (some (φ1 1)) := ⟨_, rfl⟩
  obtain ⟨φ2, T2, I2, R2, τ2, b1, b2, b3, b4, b5, b6, b7, b8⟩ := al_A (I := I1) (R := S1) (p := 16) (c := 16) (bd := 16) 2 1 a2 a3 (by decide) rfl (by decide)
  obtain ⟨q1, q2, q3, q4⟩ := b7 0 (by omega)
  have t2 : (T2 0).1 = 4 + 1 := by rw [q2]; exact t1
  have i2 : I2 0 = fun _ => 0 := by rw [q3, i1]
  obtain ⟨S2, hS2⟩ : ∃ S, S = up2 R2 0 3 (some (φ2 2)) := ⟨_, rfl⟩
  obtain ⟨φ3, T3, I3, R3, τ3, c1, c2, c3, c4, c5, c6, c7, c8⟩ := al_O (I := I2) (R := S2) 115 1 b2 b3
  obtain ⟨r1, r2, r3, r4⟩ := c7 0 (by omega)
  obtain ⟨φ4, T4, I4, R4, τ4, d1, d2, d3, d4, d5, d6, d7⟩ := x_lotI (R := R3) c2 c3 c4 c5
  obtain ⟨s1, s2, s3, s4⟩ := d6 0 (by omega)
  have t4 : (T4 0).1 = 4 + 1 := by rw [s2, r2]; exact t2
  have i4 : I4 0 = fun _ => 0 := by rw [s3, r3, i2]
  obtain ⟨S4, hS4⟩ : ∃ S, S = up2 R4 0 5 (some (φ4 115)) := ⟨_, rfl⟩
  obtain ⟨φ5, T5, I5, R5, τ5, e1, e2, e3, e4, e5, e6, e7, e8⟩ := al_A (I := I4) (R := S4) (p := 3) (c := 3) (bd := 3) 9 3 d2 d3 (by decide) rfl (by decide)
  obtain ⟨u1, u2, u3, u4⟩ := e7 0 (by omega)
  have t5 : (T5 0).1 = 4 + 1 := by rw [u2]; exact t4
  have i5 : I5 0 = fun _ => 0 := by rw [u3, i4]
  obtain ⟨S5, hS5⟩ : ∃ S, S = up2 R5 0 6 (some (φ5 9)) := ⟨_, rfl⟩
  obtain ⟨φ6, T6, I6, R6, τ6, f1, f2, f3, f4, f5, f6, f7, f8⟩ := al_A (I := I5) (R := S5) (p := 4) (c := 4) (bd := 4) 10 0 e2 e3 (by decide) rfl (by decide)
  obtain ⟨v1, v2, v3, v4⟩ := f7 0 (by omega)
  have t6 : (T6 0).1 = 4 + 1 := by rw [v2]; exact t5
  have i6 : I6 0 = fun _ => 0 := by rw [v3, i5]
  obtain ⟨S6, hS6⟩ : ∃ S, S = up2 R6 0 7 (some (φ6 10)) := ⟨_, rfl⟩
  have E6 : ∀ v, v ≠ 0 → v ≠ 10 → v ≠ 9 → Eqv φ4 φ6 T4 T6 I4 I6 R4 S6 v := fun v h0 h1 h2 => by
    obtain ⟨x1, x2, x3, x4⟩ := e7 v h2
    obtain ⟨y1, y2, y3, y4⟩ := f7 v h1
    exact ⟨by rw [y1, x1], by rw [y2, x2], by rw [y3, x3], by rw [hS6, up2_row h0, y4, hS5, up2_row h0, x4, hS4, up2_row h0]⟩
  have E4 : ∀ v, v ≠ 0 → v ≠ 1 → v ≠ 2 → (v < 115 ∨ 120 < v) → Eqv φ φ4 T T4 I I4 R R4 v := fun v h0 h1 h2 h3 => by
    obtain ⟨x1, x2, x3, x4⟩ := a7 v h1
    obtain ⟨y1, y2, y3, y4⟩ := b7 v h2
    obtain ⟨z1, z2, z3, z4⟩ := c7 v (by omega)
    obtain ⟨w1, w2, w3, w4⟩ := d6 v h3
    exact ⟨by rw [w1, z1, y1, x1], by rw [w2, z2, y2, x2], by rw [w3, z3, y3, x3], by rw [w4, z4, hS2, up2_row h0, y4, hS1, up2_row h0, x4]⟩
  have x0 : φ6 0 = φ 0 := by rw [v1, u1, s1, r1, q1, p1]
  have gb : GB φ6 T6 I6 S6 := by
    obtain ⟨m1, m2, m3, m4⟩ := c7 1 (by omega)
    obtain ⟨n1, n2, n3, n4⟩ := d6 1 (by omega)
    obtain ⟨o1, o2, o3, o4⟩ := b7 1 (by omega)
    obtain ⟨k1, k2, k3, k4⟩ := E6 1 (by omega) (by omega) (by omega)
    obtain ⟨l1, l2, l3, l4⟩ := c7 2 (by omega)
    obtain ⟨j1, j2, j3, j4⟩ := d6 2 (by omega)
    obtain ⟨h1, h2, h3, h4⟩ := E6 2 (by omega) (by omega) (by omega)
    obtain ⟨w1, w2, w3, w4⟩ := f7 9 (by omega)
    have r06 : ∀ k, k ≠ 7 → k ≠ 6 → S6 0 k = S4 0 k := fun k y1 y2 => by rw [hS6, up2_k y1, v4, hS5, up2_k y2, u4]
    have r04 : ∀ k, k ≠ 5 → S4 0 k = S2 0 k := fun k y => by rw [hS4, up2_k y, s4, r4]
    refine ⟨by rw [v2, u2, s2, r2, q2, p2, tg], ?_, ?_, ?_, ?_, by rw [hS6, up2_at], by rw [k2, n2, m2, o2]; exact a4, by rw [h2, j2, l2]; exact b4, by rw [w2]; exact e4, f4, i6, f5, d4.fr (fun v y1 y2 => E6 v (by omega) (by omega) (by omega))⟩
    · rw [r06 0 (by decide) (by decide), r04 0 (by decide), hS2, up2_k (by decide), q4, hS1, up2_at, k1, n1, m1, o1]
    · rw [r06 3 (by decide) (by decide), r04 3 (by decide), hS2, up2_at, h1, j1, l1]
    · rw [r06 5 (by decide) (by decide), hS4, up2_at, (E6 115 (by omega) (by omega) (by omega)).1]
    · rw [hS6, up2_k (by decide), v4, hS5, up2_at, w1]
  obtain ⟨φ7, T7, I7, R7, τ7, A1, A2, A3, A4, A5, A6, A7⟩ := x_i84 (x0 := φ6 0) 4 0 5 φ6 T6 I6 S6 τ6 (by omega) (by omega) f2 f3 rfl ⟨gb, fun j hj' => absurd hj' (Nat.not_lt_zero _)⟩
  obtain ⟨φ8, T8, I8, R8, τ8, B1, B2, B3, B4, B5, B6, B7⟩ := x_i114 (x0 := φ6 0) 16 0 17 φ7 T7 I7 R7 τ7 (by omega) (by omega) A2 A3 A4 ⟨A5, fun j hj' => absurd hj' (Nat.not_lt_zero _)⟩
  obtain ⟨φ9, T9, I9, R9, τ9, C1, C2, C3, C4, C5, C6, C7⟩ := x_i144 (x0 := φ6 0) 3 0 4 φ8 T8 I8 R8 τ8 (by omega) (by omega) B2 B3 B4 ⟨B5, fun j hj' => absurd hj' (Nat.not_lt_zero _)⟩
  refine ⟨φ9, T9, I9, R9, τ9, ?_, C2, C3, by rw [C4, x0], C5, fun v hv => (((E4 v (by omega) (by omega) (by omega) (by omega)).trans (E6 v (by omega) (by omega) (by omega))).trans (A6 v hv)).trans ((B6 v hv).trans (C6 v hv)), by omega⟩
  rw [f_X4_init, b_X4_init_0, ob_pt hj t0, a1, ← p1, pR_pt a2 t1, ← hS1, pI_s a2 t1 (by rw [i1]), pI_s a2 t1 (by rw [i1]), b1, ← q1, pR_pt b2 t2, ← hS2, pI_s b2 t2 (by rw [i2]), c1, ob_pt c2 (by rw [c4]), d1, cl1_s, ← d5, ← r1, ← s1, pR_pt d2 t4, ← hS4, e1, ← u1, pR_pt e2 t5, ← hS5, f1, ← v1, pR_pt f2 t6, ← hS6, pI_s f2 t6 (by rw [i6]), pI_s f2 t6 (by rw [i6]), pI_s f2 t6 (by rw [i6]), pI_s f2 t6 (by rw [i6])]
  exact A1.trans (B1.trans C1)
end SU
