/-! THE START: the law ends, and says yes -/
section SV
variable {φ : Nat → Nat} {T : Nat → Nat × Nat} {I J : Nat → Nat → Int32} {R : Nat → Nat → Option Nat} {τ : Mem} {nS nL n z : Nat}
theorem law_yes {xs : Nat → Int32} {L9 b9 : Nat} {σ : Mem} (hL : L9 ≤ 260) : ∃ σ2, b_L_law_0 xs L9 b9 σ = some (1, σ2) := by
  obtain ⟨T0, hT0⟩ : ∃ T0 : Nat → Nat × Nat, T0 = fun _ => (0, 0) := ⟨_, rfl⟩
  have t0 : ∀ v, (T0 v).1 = 0 := fun v => by rw [hT0]
  have j0 : Inj (fun _ => 0) T0 := fun v w h1 h2 _ => absurd (t0 v) h1
  have l0 : live T0 (fun _ => 0) (mZ σ) := fun v h => absurd (t0 v) h
  have S0 := pt_self (φ := fun _ => 0) (T := T0) (σ := σ) j0 (fun v hv => absurd (t0 v) hv)
  obtain ⟨φ1, T1, I1, R1, τ1, a1, a2, a3, a4, a5, a6, a7, a8⟩ := al_O (I := fun v => mI σ 0) (R := fun v => mR σ 0) (τ := σ) 0 4 j0 l0
  obtain ⟨φ5, T5, I5, R5, τ5, b1, f2, f3, b4, b5, b6, b7⟩ := x_gard (R := R1) (τ := τ1) a2 a3 a4 a5
  obtain ⟨PL, TA⟩ := b5
  obtain ⟨⟨⟨g1, g2, g3, g4, g5, g6, g7, g8, g9, g10, i0, i10, g13⟩, SE⟩, LO⟩ := PL
  have LT : ∀ i, i < 17 → LotOK φ5 T5 I5 R5 (6 * i + 19) := fun i hi => by
    by_cases q : i = 16
    · subst q; exact g13
    · exact (LO i (by omega)).1
  have z0 : (0 : Int32).toInt = 0 := rfl
  have CC : Cx φ5 T5 I5 R5 (mZ τ5) 0 0 0 := by
    refine ⟨f2, f3, ⟨g1, g2, g3, g4, g5, g6, g7, g8, g9, g10, fun i hi => (SE i hi).2, fun i hi => (SE i hi).1.1, fun i hi => (SE i hi).1.2.1, fun i hi => (SE i hi).1.2.2.1, fun i hi => (LO i hi).2, fun i hi => (LT i hi).1, fun i hi => (LT i hi).2.2.2.2.2.2.1, fun i hi => (LT i hi).2.2.2.2.2.2.2.1, fun i hi => (LT i hi).2.2.2.2.2.2.2.2.1, fun i hi => (LT i hi).2.1, fun i hi => (LT i hi).2.2.1, fun i hi => (LT i hi).2.2.2.1, fun i hi => (LT i hi).2.2.2.2.2.2.2.2.2.1, fun i hi => (LT i hi).2.2.2.2.2.2.2.2.2.2.1, fun i hi => (LT i hi).2.2.2.2.1, fun i hi => (LT i hi).2.2.2.2.2.1, fun i hi => (TA i hi).2.2, fun i hi => (TA i hi).1⟩, ⟨by omega, by omega⟩, ⟨by rw [i0]; rfl, by rw [i0]; rfl⟩, fun i hi => absurd hi (Nat.not_lt_zero _), fun i _ hi => ?_, fun i hi => absurd hi (Nat.not_lt_zero _), fun i _ hi => ?_, fun i hi => ?_, ⟨by rw [(LT 16 (by omega)).2.2.2.2.2.2.2.2.2.2.2.1 9]; rfl, by rw [(LT 16 (by omega)).2.2.2.2.2.2.2.2.2.2.2.1 12]; rfl⟩, ?_⟩
    · obtain ⟨-, -, -, -, -, -, -, -, -, -, -, y1, y2⟩ := LT i (by omega)
      have a1 := y2 1 (by omega) (by omega)
      have a2 := y2 2 (by omega) (by omega)
      have a3 := y2 3 (by omega) (by omega)
      have a4 := y2 4 (by omega) (by omega)
      exact ⟨fun k _ => y1 k, fun k _ => by rw [show 6 * i + 20 = 6 * i + 19 + 1 from rfl, a1], fun k _ => by rw [show 6 * i + 21 = 6 * i + 19 + 2 from rfl, a2], by rw [show 6 * i + 22 = 6 * i + 19 + 3 from rfl, a3], fun k _ => by rw [show 6 * i + 23 = 6 * i + 19 + 4 from rfl, a4]⟩
    · obtain ⟨-, -, -, y1, y2⟩ := (SE i hi).1
      exact ⟨fun k _ => by rw [y1], fun k _ => congrFun y2 k⟩
    · have y1 : I5 (i + 3) = fun _ => 0 := (TA i hi).2.1
      unfold TasR
      rw [y1]
      exact ⟨by decide, by decide, by decide⟩
    · have d0 : dryS I5 0 = 0 := rfl
      unfold SumR
      rw [d0, i0]
      exact ⟨by decide, by decide, by decide⟩
  have MM : Mon I5 0 0 := by
    unfold Mon
    rw [i0, i10]
    exact ⟨fun k _ => by show 0 ≤ (0 : Int32).toInt ∧ (0 : Int32).toInt ≤ 200 * ((0 : Nat) : Int); decide, by decide, by decide, by decide⟩
  have q0 : (T5 0).1 = 4 + 1 := by rw [g1]
  obtain ⟨b, hb, B⟩ := bl_of (c := 4) (v := clw xs L9 0) (σ := pt φ5 T5 I5 R5 τ5) (by omega) (by omega)
  have B' : f_L_below (clw xs L9 0) 4 (pt φ5 T5 I5 R5 τ5) = some (Int32.ofNat b, pt φ5 T5 I5 R5 τ5) := B
  obtain ⟨σ2, F⟩ := x_law22 (xs := xs) (b9 := b9) (τ := τ5) hL (c := b + 1) (by omega) (b + 1) 0 6 I5 (by omega) (by omega) CC MM
  refine ⟨σ2, ?_⟩
  rw [b_L_law_0, S0, a1, ob_pt a2 (by rw [a4]), b1, cl1_s, x_cell hL (by decide), cl1_s, B', cl1_s, nm, oneN, ← b4]
  exact F
end SV
