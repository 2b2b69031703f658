/-! A FLUSH GROWN -/
section GW
variable {φ : Nat → Nat} {T : Nat → Nat × Nat} {I J : Nat → Nat → Int32} {R : Nat → Nat → Option Nat} {τ : Mem} {nS nL n z : Nat}
variable {i : Nat} {w e v : Int32}
theorem Rel.mono {n' : Nat} (h : Rel I nS nL n) (hn : n ≤ n') : Rel I nS nL n' := by
  obtain ⟨g, r1, r2, r3, r4, r5, r6, r7⟩ := h
  exact ⟨g, fun i hi => (r1 i hi).mono hn, r2, fun i hi => (r3 i hi).mono hn, r4, fun i hi => (r5 i hi).mono hn, r6, r7⟩
theorem Cx.mono {n' : Nat} (h : Cx φ T I R z nS nL n) (hn : n ≤ n') : Cx φ T I R z nS nL n' := ⟨h.1, h.2.1, h.2.2.1, h.2.2.2.1, h.2.2.2.2.mono hn⟩
theorem bo1 {β : Type} {x : Option β} : bo 1 x = x := if_pos (Or.inr rfl)
theorem x_gr132 (h : Cx φ T I R (mZ τ) nS nL n) (hn : n < 600) (iS : i < nS) (hw : 0 ≤ w ∧ w ≤ 6) (he : 0 ≤ e ∧ e ≤ 6) (hc : ¬ scF I i 2 + inc w e (scF I i 1) < 5) (hv : v.toInt = (scF I i 10).toInt + (scF I i 6).toInt) :
    ∃ J', b_L_isGrown_132 (some (φ 0)) (Int32.ofNat i) w e v (pt φ T I R τ) = some (1, pt φ T J' R τ) ∧ Cx φ T J' R (mZ τ) nS nL (n + 1) ∧ J' 0 8 = I 0 8 ∧ J' 10 = I 10 := by
  have hj := h.hj
  have hS := h.m.2.2.2.2.2.1
  have q0 : (T 0).1 = 4 + 1 := by rw [h.m.2.2.2.2.2.2.2]
  obtain ⟨J', P1, P2, P3, P4, P5⟩ := x_passF h hn hw he (D := 1) (by omega) (by omega)
  have z6 : (6 : Int32).toInt = 6 := rfl
  have z5 : (5 : Int32).toInt = 5 := rfl
  have z0 : (0 : Int32).toInt = 0 := rfl
  have w1 : 0 ≤ w.toInt ∧ w.toInt ≤ 6 := ⟨by have := leT hw.1; omega, by have := leT hw.2; omega⟩
  have e1 : 0 ≤ e.toInt ∧ e.toInt ≤ 6 := ⟨by have := leT he.1; omega, by have := leT he.2; omega⟩
  have b3 : scF I i 3 = 0 := (h.sr iS).2.2.2.1
  obtain ⟨y1, y2⟩ := day_y (h.sb iS) (by omega) w1 e1 b3 hc
  have y3 : 0 < (acD w e (scF I) nS 1).toInt := by
    have A := (acS_b (g := ctF w e (scF I) 0) (a := 0) (fun i => day_1) (by decide) (by decide) nS (by omega)).2.2 i iS
    have B : ctF w e (scF I) 0 i = (dayF w e (scF I i)).1 := rfl
    have C : acD w e (scF I) nS 1 = acS (ctF w e (scF I) 0) 0 nS := rfl
    rw [C]; rw [B] at A; omega
  have P : f_X4_pass (φ 0) w e 1 (pt φ T I R τ) = some (acD w e (scF I) nS 1, pt φ T J' R τ) := P1
  have S2 : f_X4_ofSection (φ 0) (Int32.ofNat i) 2 (pt φ T J' R τ) = some (scF J' i 2, pt φ T J' R τ) := x_ofSecC (k := 2) P2 iS (by omega)
  have S9 : f_X4_ofSection (φ 0) (Int32.ofNat i) 9 (pt φ T J' R τ) = some (scF J' i 10, pt φ T J' R τ) := x_ofSecC (k := 9) P2 iS (by omega)
  have S10 : f_X4_ofSection (φ 0) (Int32.ofNat i) 10 (pt φ T J' R τ) = some (scF J' i 6, pt φ T J' R τ) := x_ofSecC (k := 10) P2 iS (by omega)
  obtain ⟨-, -, c2, -, c7, c6⟩ := P2.sb iS
  have c10 := c7 3 (by omega)
  simp only [Nat.reduceAdd] at c10
  have n1 : ¬ acD w e (scF I) nS 1 ≤ 0 := fun y => by have := leT y; omega
  have n2 : ¬ (5 : Int32) ≤ scF J' i 2 := fun y => by have := leT y; omega
  have n3 : ¬ scF J' i 10 + scF J' i 6 < v := fun y => by
    have := ltT y
    rw [tAdd (by omega) (by omega), hv, P5 i iS 10 (by omega), P5 i iS 6 (by omega)] at this
    have g : ∀ k, stF w e (scF I) 1 i k = (dayF w e (scF I i)).2 k := fun k => rfl
    rw [g, g] at this
    omega
  refine ⟨J', ?_, P2, P4 8 (by omega), P3 10 (by omega) (Or.inl (by omega))⟩
  rw [b_L_isGrown_132, ob_pt hj q0, P, cl1_s, if_neg n1, ob_pt hj q0, S2, cl1_s, if_neg n2, ob_pt hj q0, S9, cl1_s, ob_pt hj q0, S10, cl1_s, nm, if_neg n3, b_L_isGrown_177, bo1]
theorem x_grown (h : Cx φ T I R (mZ τ) nS nL n) (hn : n < 590) (iS : i < nS) (hw : 0 ≤ w ∧ w ≤ 6) (he : 0 ≤ e ∧ e ≤ 6) :
    ∃ J', f_L_isGrown (some (φ 0)) (Int32.ofNat i) w e (pt φ T I R τ) = some (1, pt φ T J' R τ) ∧ Cx φ T J' R (mZ τ) nS nL (n + 2) ∧ J' 0 8 = I 0 8 ∧ J' 10 = I 10 := by
  have hj := h.hj
  have hS := h.m.2.2.2.2.2.1
  have q0 : (T 0).1 = 4 + 1 := by rw [h.m.2.2.2.2.2.2.2]
  have z0 : (0 : Int32).toInt = 0 := rfl
  have ip : InN (Int32.ofNat i) nS := InN.of iS (by omega)
  have it : (Int32.ofNat i).toNatClampNeg = i := tnK (by omega)
  have SS : ∀ {J : Nat → Nat → Int32} {n : Nat}, Cx φ T J R (mZ τ) nS nL n → f_X4_ofSection (φ 0) (Int32.ofNat i) 6 (pt φ T J R τ) = some (scF J i 7, pt φ T J R τ) ∧ f_X4_ofSection (φ 0) (Int32.ofNat i) 9 (pt φ T J R τ) = some (scF J i 10, pt φ T J R τ) ∧ f_X4_ofSection (φ 0) (Int32.ofNat i) 10 (pt φ T J R τ) = some (scF J i 6, pt φ T J R τ) := fun h => ⟨x_ofSecC (k := 6) h iS (by omega), x_ofSecC (k := 9) h iS (by omega), x_ofSecC (k := 10) h iS (by omega)⟩
  have FF : ∀ {J : Nat → Nat → Int32} {n : Nat}, Cx φ T J R (mZ τ) nS nL n → f_X4_flushIn (φ 0) (Int32.ofNat i) w e (pt φ T J R τ) = some (fiV w e 0 (scF J i 1) 30 0 (scF J i 2), pt φ T J R τ) := fun {J n} h => by
    have A := x_flushIn (τ := τ) h ip it hw he
    have b3 : J (2 * i + 11) 3 = 0 := (h.sr iS).2.2.2.1
    rw [FI, b3] at A
    exact A
  have b3 : scF I i 3 = 0 := (h.sr iS).2.2.2.1
  obtain ⟨-, -, c2, -, c7, c6⟩ := h.sb iS
  have c10 := c7 3 (by omega)
  simp only [Nat.reduceAdd] at c10
  have ev : (scF I i 10 + scF I i 6).toInt = (scF I i 10).toInt + (scF I i 6).toInt := tAdd (by omega) (by omega)
  obtain ⟨S6, S9, S10⟩ := SS h
  rw [f_L_isGrown, b_L_isGrown_0, ob_pt hj q0, FF h, cl1_s, ob_pt hj q0, S6, cl1_s, ob_pt hj q0, S9, cl1_s, ob_pt hj q0, S10, cl1_s, nm]
  rcases fi_c (w := w) (e := e) (shade := scF I i 1) 30 0 (scF I i 2) (by omega) with g | ⟨q, hq, g⟩
  · rw [g, if_neg (by decide)]
    have hc := fi_none (F := scF I) (i := i) (m := 30) (d := 0) (by omega) (by omega) g
    obtain ⟨d1, d2, d3⟩ := day_n (w := w) (e := e) b3 hc
    obtain ⟨J', P1, P2, P3, P4, P5⟩ := x_passF h (by omega) hw he (D := 1) (by omega) (by omega)
    have P : f_X4_pass (φ 0) w e 1 (pt φ T I R τ) = some (acD w e (scF I) nS 1, pt φ T J' R τ) := P1
    obtain ⟨T6, T9, T10⟩ := SS P2
    have k : ∀ k, (6 ≤ k ∧ k ≤ 10) → scF J' i k = scF I i k := fun k hk => by rw [P5 i iS k hk.2]; exact d3 k (by omega)
    have n1 : ¬ acD w e (scF I) nS 1 < 0 := fun y => by
      have := ltT y
      have := (acD_b (w := w) (e := e) (F := scF I) hS 1 (by omega)).1
      omega
    refine ⟨J', ?_, P2.mono (by omega), P4 8 (by omega), P3 10 (by omega) (Or.inl (by omega))⟩
    rw [ob_pt hj q0, P, cl1_s, if_neg n1, ob_pt hj q0, T6, cl1_s, k 7 (by omega), if_pos rfl, ob_pt hj q0, T9, cl1_s, ob_pt hj q0, T10, cl1_s, nm, k 10 (by omega), k 6 (by omega), if_pos rfl, b_L_isGrown_87, bo1]
  · obtain ⟨u1, u2⟩ := fi_run (F := scF I) (i := i) q 30 0 (by omega) hq b3 g
    rw [g, if_pos (show (0 : Int32) ≤ Int32.ofNat (0 + q + 1) from (kN_le (a := 0) (b := 0 + q + 1) (by omega) (by omega)).mpr (by omega))]
    by_cases c : q = 0
    · subst c
      rw [if_pos (show Int32.ofNat (0 + 0 + 1) ≤ 1 by decide)]
      obtain ⟨J', A, B, C, D⟩ := x_gr132 (τ := τ) h (by omega) iS hw he u2 ev
      exact ⟨J', A, B.mono (by omega), C, D⟩
    · have n1 : ¬ Int32.ofNat (0 + q + 1) ≤ 1 := by
        rw [show (1 : Int32) = Int32.ofNat 1 from rfl, kN_le (by omega) (by omega)]; omega
      have e1 : Int32.ofNat (0 + q + 1) - 1 = Int32.ofNat q := Int32.toInt_inj.mp (by
        have t1 : (1 : Int32).toInt = 1 := rfl
        have t2 : (Int32.ofNat (0 + q + 1)).toInt = (0 + q + 1 : Nat) := kN_t (by omega)
        have t3 : (Int32.ofNat q).toInt = q := kN_t (by omega)
        rw [tSub (by omega) (by omega)]; omega)
      rw [if_neg n1, nm, e1]
      obtain ⟨J', P1, P2, P3, P4, P5⟩ := x_passF h (by omega) hw he (D := q) (by omega) (by omega)
      have n2 : ¬ acD w e (scF I) nS q < 0 := fun y => by
        have := ltT y
        have := (acD_b (w := w) (e := e) (F := scF I) hS q (by omega)).1
        omega
      obtain ⟨T6, -, -⟩ := SS P2
      have k : ∀ k, (k = 0 ∨ k = 1 ∨ k = 3 ∨ (6 ≤ k ∧ k ≤ 10)) → scF J' i k = scF I i k := fun k hk => by rw [P5 i iS k (by omega)]; exact u1 k hk
      have hc : ¬ scF J' i 2 + inc w e (scF J' i 1) < 5 := by
        rw [k 1 (by omega), P5 i iS 2 (by omega)]; exact u2
      obtain ⟨J2, A, B, C, D⟩ := x_gr132 (v := scF I i 10 + scF I i 6) (τ := τ) P2 (by omega) iS hw he hc (by rw [k 10 (by omega), k 6 (by omega)]; exact ev)
      refine ⟨J2, ?_, B, C.trans (P4 8 (by omega)), D.trans (P3 10 (by omega) (Or.inl (by omega)))⟩
      rw [ob_pt hj q0, P1, cl1_s, if_neg n2, ob_pt hj q0, T6, cl1_s, k 7 (by omega), if_pos rfl, ob_pt hj q0, FF P2, cl1_s, fi_one (by omega) hc, if_pos rfl]
      exact A
end GW
