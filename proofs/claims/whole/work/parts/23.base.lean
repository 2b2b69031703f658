theorem Agr.of {e0 x m o n : Nat} {X : Option (Int32 × Mem)} {M : Mem → Option (Int32 × Mem)} {k b : Int32} {σ1 σ2 : Mem} (hX : X = some (k, σ1)) (hM : M σ1 = some (b, σ2)) (hJ : Jn e0 x m o (n + 1) σ2) (ht : mI σ2 m 0 = k) (ho : k = 0 → mJ σ2 o 0 = b.toInt64) : Agr e0 x m o n X M := ⟨k, σ1, b, σ2, hX, hM, hJ, ht, ho⟩
theorem idx {p : Int32} {n : Nat} (hn : n ≤ 16) (h0 : ¬ p < 0) (h1 : p < Int32.ofNat n) : 0 ≤ p ∧ ¬ Int32.ofNat n ≤ p ∧ ¬ Int32.ofNat n - 1 < p ∧ p ≤ Int32.ofNat n - 1 ∧ p.toNatClampNeg < n := by
  have e : (Int32.ofNat n).toInt = n := Int32.toInt_ofNat_of_lt (by omega)
  have e1 : (1 : Int32).toInt = 1 := rfl
  rw [Int32.lt_iff_toInt_lt] at h0 h1
  rw [e] at h1
  have z : (0 : Int32).toInt = 0 := rfl
  rw [z] at h0
  have e2 : (Int32.ofNat n - 1).toInt = n - 1 := by
    rw [Int32.toInt_sub, e, e1]
    exact Int.bmod_eq_of_le (by omega) (by omega)
  simp only [Int32.le_iff_toInt_le, Int32.lt_iff_toInt_lt, e, e2, z]
  refine ⟨by omega, by omega, by omega, by omega, ?_⟩
  rw [show p.toNatClampNeg = p.toInt.toNat from rfl]; omega
theorem idx' {p : Int32} {n : Nat} (hn : n ≤ 16) (h : ¬ (¬ p < 0 ∧ p < Int32.ofNat n)) : p < 0 ∧ ¬ 0 ≤ p ∨ ¬ p < 0 ∧ 0 ≤ p ∧ ¬ p < Int32.ofNat n ∧ Int32.ofNat n ≤ p ∧ Int32.ofNat n - 1 < p ∧ ¬ p ≤ Int32.ofNat n - 1 := by
  have e : (Int32.ofNat n).toInt = n := Int32.toInt_ofNat_of_lt (by omega)
  have e1 : (1 : Int32).toInt = 1 := rfl
  have z : (0 : Int32).toInt = 0 := rfl
  have e2 : (Int32.ofNat n - 1).toInt = n - 1 := by
    rw [Int32.toInt_sub, e, e1]
    exact Int.bmod_eq_of_le (by omega) (by omega)
  simp only [Int32.le_iff_toInt_le, Int32.lt_iff_toInt_lt, e, e2, z] at h ⊢
  omega
theorem up2_row {α : Type} {f : Nat → Nat → α} {a k w : Nat} {v : α} (h : w ≠ a) : up2 f a k v w = f w := by
  funext j; exact if_neg (fun q => h q.1)
theorem up2_at {α : Type} {f : Nat → Nat → α} {a k : Nat} {v : α} : up2 f a k v a k = v := if_pos ⟨rfl, rfl⟩
theorem up2_k {α : Type} {f : Nat → Nat → α} {a k j w : Nat} {v : α} (h : j ≠ k) : up2 f a k v w j = f w j := if_neg (fun q => h q.2)
theorem tn0 : Int32.toNatClampNeg 0 = 0 := rfl
theorem tn1 : Int32.toNatClampNeg 1 = 1 := rfl
theorem tn2 : Int32.toNatClampNeg 2 = 2 := rfl
theorem tn3 : Int32.toNatClampNeg 3 = 3 := rfl
theorem tn4 : Int32.toNatClampNeg 4 = 4 := rfl
theorem tn5 : Int32.toNatClampNeg 5 = 5 := rfl
theorem tn6 : Int32.toNatClampNeg 6 = 6 := rfl
theorem mJ_sJ {σ : Mem} {a k : Nat} {v : Int64} : mJ (sJ σ a k v) a k = v := if_pos ⟨rfl, rfl⟩
theorem mZ_sJ {σ : Mem} {a k : Nat} {v : Int64} : mZ (sJ σ a k v) = mZ σ := rfl
theorem live.B {T : Nat → Nat × Nat} {φ : Nat → Nat} {z : Nat} (h : live T φ z) : live T φ (z + 1) := fun v hv => Nat.lt_succ_of_lt (h v hv)
theorem Jn.put {φ : Nat → Nat} {T : Nat → Nat × Nat} {I I' : Nat → Nat → Int32} {R : Nat → Nat → Option Nat} {τ : Mem} {e0 nS nL cS cL : Nat} {mx : Nat → Int32} {cB : Nat → Nat} {bl : Nat → List (Nat × Int32)} {n : Nat} (hj : Inj φ T) (hl : live T φ (mZ τ)) (hx : SX φ T R) (hm : SM φ T I R e0 nS nL cS cL mx cB bl) (he : ∀ v, v = 125 ∨ v = 126 ∨ (∃ i k, i < nL ∧ 3 ≤ k ∧ k < 9 ∧ v = 10 * i + 150 + k) → I' v = I v) (hr : Rel I' nS nL mx bl n) : Jn e0 (φ 0) (φ 124) (φ 132) n (pt φ T I' R τ) :=
  ⟨φ, T, I', R, τ, nS, nL, cS, cL, mx, cB, bl, rfl, ⟨rfl, rfl, rfl⟩, hj, hl, hx, hm.rows he, hr⟩
theorem itr_succ {T : Type} {z : T} {s : T → T} {n : Nat} : itr z s (n + 1) = s (itr z s n) := rfl
theorem itr_40 {T : Type} {z : T} {s : T → T} : itr z s 40 = s (itr z s 39) := rfl
theorem itr_39 {T : Type} {z : T} {s : T → T} : itr z s 39 = s (itr z s 38) := rfl
theorem itr_38 {T : Type} {z : T} {s : T → T} : itr z s 38 = s (itr z s 37) := rfl
theorem itr_37 {T : Type} {z : T} {s : T → T} : itr z s 37 = s (itr z s 36) := rfl
theorem itr_36 {T : Type} {z : T} {s : T → T} : itr z s 36 = s (itr z s 35) := rfl
theorem itr_35 {T : Type} {z : T} {s : T → T} : itr z s 35 = s (itr z s 34) := rfl
theorem itr_34 {T : Type} {z : T} {s : T → T} : itr z s 34 = s (itr z s 33) := rfl
theorem ii1 : (1 + 1 : Int32) = 2 := rfl
theorem ii2 : (2 + 1 : Int32) = 3 := rfl
theorem ii3 : (3 + 1 : Int32) = 4 := rfl
theorem ii4 : (4 + 1 : Int32) = 5 := rfl
theorem ii0 : (0 + 1 : Int32) = 1 := rfl
theorem rngI {p a b : Int32} (h : ¬ p < a) (h2 : ¬ b < p) : a ≤ p ∧ p ≤ b := ⟨Int32.not_lt.mp h, Int32.not_lt.mp h2⟩
theorem tAdd {a b : Int32} (h1 : -2147483648 ≤ a.toInt + b.toInt) (h2 : a.toInt + b.toInt < 2147483648) : (a + b).toInt = a.toInt + b.toInt := by
  rw [Int32.toInt_add]; exact Int.bmod_eq_of_le (by omega) (by omega)
theorem tSub {a b : Int32} (h1 : -2147483648 ≤ a.toInt - b.toInt) (h2 : a.toInt - b.toInt < 2147483648) : (a - b).toInt = a.toInt - b.toInt := by
  rw [Int32.toInt_sub]; exact Int.bmod_eq_of_le (by omega) (by omega)
theorem tMul {a b : Int32} (h1 : -2147483648 ≤ a.toInt * b.toInt) (h2 : a.toInt * b.toInt < 2147483648) : (a * b).toInt = a.toInt * b.toInt := by
  rw [Int32.toInt_mul]; exact Int.bmod_eq_of_le (by omega) (by omega)
theorem leT {a b : Int32} (h : a ≤ b) : a.toInt ≤ b.toInt := Int32.le_iff_toInt_le.mp h
theorem ltT {a b : Int32} (h : a < b) : a.toInt < b.toInt := Int32.lt_iff_toInt_lt.mp h
theorem addB {a b lo hi : Int32} (h0 : 0 ≤ a.toInt) (h1 : a.toInt ≤ 100000000) (h2 : lo ≤ b) (h3 : b ≤ hi) (h4 : lo.toInt = 1) (h5 : hi.toInt ≤ 100000) : 0 ≤ (a + b).toInt ∧ (a + b).toInt ≤ a.toInt + hi.toInt := by
  have e2 := leT h2
  have e3 := leT h3
  rw [tAdd (by omega) (by omega)]; omega
theorem idxL {p q q1 : Int32} {n : Nat} (hn : n ≤ 16) (hq : q = Int32.ofNat n) (hq1 : q1 = Int32.ofNat n - 1) (h0 : ¬ p < 0) (h1 : p < q) : 0 ≤ p ∧ ¬ q ≤ p ∧ ¬ q1 < p ∧ p ≤ q1 ∧ p.toNatClampNeg < n := by
  subst hq hq1; exact idx hn h0 h1
theorem idxL' {p q q1 : Int32} {n : Nat} (hn : n ≤ 16) (hq : q = Int32.ofNat n) (hq1 : q1 = Int32.ofNat n - 1) (h : ¬ (¬ p < 0 ∧ p < q)) : p < 0 ∧ ¬ 0 ≤ p ∨ ¬ p < 0 ∧ 0 ≤ p ∧ ¬ p < q ∧ q ≤ p ∧ q1 < p ∧ ¬ p ≤ q1 := by
  subst hq hq1; exact idx' hn h
section Dv
variable {β : Type} {a : Int32} {K : Int32 → Option β}
theorem dv_c {b : Int32} (h : b ≠ 0) : dv a b K = K (a / b) := if_neg h
theorem dv2 : dv a 2 K = K (a / 2) := dv_c (by decide)
theorem dv3 : dv a 3 K = K (a / 3) := dv_c (by decide)
theorem dv4 : dv a 4 K = K (a / 4) := dv_c (by decide)
theorem dv5 : dv a 5 K = K (a / 5) := dv_c (by decide)
theorem dv8 : dv a 8 K = K (a / 8) := dv_c (by decide)
theorem dv10 : dv a 10 K = K (a / 10) := dv_c (by decide)
theorem dv20 : dv a 20 K = K (a / 20) := dv_c (by decide)
theorem dv40 : dv a 40 K = K (a / 40) := dv_c (by decide)
end Dv
theorem itr_33 {T : Type} {z : T} {s : T → T} : itr z s 33 = s (itr z s 32) := rfl

/-- one section anew -/
theorem Rel.sec {I I' : Nat → Nat → Int32} {nS nL : Nat} {mx : Nat → Int32} {bl : Nat → List (Nat × Int32)} {n : Nat} (h : Rel I nS nL mx bl n) (i : Nat) (hi : i < nS) (hnL : nL ≤ 16) (hnS : nS ≤ 4)
    (e1 : ∀ v, (v < 2 * i + 11 ∨ 2 * i + 12 < v) → (v < 2 * i + 135 ∨ 2 * i + 136 < v) → v ≠ 124 → I' v = I v)
    (e2 : ∀ k, 1 ≤ k → k < 6 → I' 124 k = I 124 k)
    (hl : SecR (I' (2 * i + 11)) (I' (2 * i + 12)) (I' (2 * i + 135)) (I' (2 * i + 136)) (n + 1)) : Rel I' nS nL mx bl (n + 1) := by
  obtain ⟨⟨m1, m2, m3, m4⟩, r1, r2, r3, r4, r5, r6⟩ := h
  refine ⟨⟨?_, ?_, ?_, ?_⟩, fun j hj => ?_, fun j h1 h2 => ?_, fun j hj => ?_, fun j h1 h2 => ?_, fun j hj => ?_, ?_⟩
  · rw [e1 (0) (by omega) (by omega) (by omega)]; exact m1
  · rw [e1 (0) (by omega) (by omega) (by omega), e2 1 (by omega) (by omega), e2 2 (by omega) (by omega), e2 3 (by omega) (by omega), e2 4 (by omega) (by omega), e2 5 (by omega) (by omega)]; exact m2
  · rw [e1 (10) (by omega) (by omega) (by omega), e1 (128) (by omega) (by omega) (by omega)]; exact m3
  · rw [e1 (115) (by omega) (by omega) (by omega)]; exact m4
  · rw [e1 (6 * j + 19) (by omega) (by omega) (by omega), e1 (6 * j + 20) (by omega) (by omega) (by omega), e1 (6 * j + 21) (by omega) (by omega) (by omega), e1 (6 * j + 22) (by omega) (by omega) (by omega), e1 (6 * j + 23) (by omega) (by omega) (by omega), e1 (6 * j + 24) (by omega) (by omega) (by omega), e1 (10 * j + 150) (by omega) (by omega) (by omega), e1 (10 * j + 151) (by omega) (by omega) (by omega), e1 (10 * j + 152) (by omega) (by omega) (by omega)]
    exact (r1 j hj).mono (by omega)
  · rw [e1 (6 * j + 19) (by omega) (by omega) (by omega), e1 (6 * j + 20) (by omega) (by omega) (by omega), e1 (6 * j + 21) (by omega) (by omega) (by omega), e1 (6 * j + 22) (by omega) (by omega) (by omega), e1 (6 * j + 23) (by omega) (by omega) (by omega)]
    exact r2 j h1 h2
  · by_cases q : j = i
    · subst q; exact hl
    · rw [e1 (2 * j + 11) (by omega) (by omega) (by omega), e1 (2 * j + 12) (by omega) (by omega) (by omega), e1 (2 * j + 135) (by omega) (by omega) (by omega), e1 (2 * j + 136) (by omega) (by omega) (by omega)]
      exact (r3 j hj).mono (by omega)
  · rw [e1 (2 * j + 11) (by omega) (by omega) (by omega), e1 (2 * j + 12) (by omega) (by omega) (by omega)]
    exact r4 j h1 h2
  · rw [e1 (j + 3) (by omega) (by omega) (by omega), e1 (j + 129) (by omega) (by omega) (by omega)]
    exact (r5 j hj).mono (by omega)
  · unfold SumR
    rw [sumZ_congr (g := fun i => (I (6 * i + 19) 1).toInt)]
    · exact r6
    · intro j hj; simp only [e1 (6 * j + 19) (by omega) (by omega) (by omega)]
/-- one taster anew -/
theorem Rel.tas {I I' : Nat → Nat → Int32} {nS nL : Nat} {mx : Nat → Int32} {bl : Nat → List (Nat × Int32)} {n : Nat} (h : Rel I nS nL mx bl n) (i : Nat) (hi : i < 3) (hnL : nL ≤ 16) (hnS : nS ≤ 4)
    (e1 : ∀ v, v ≠ i + 3 → v ≠ i + 129 → v ≠ 124 → I' v = I v)
    (e2 : ∀ k, 1 ≤ k → k < 6 → I' 124 k = I 124 k)
    (hl : TasR (I' (i + 3)) (I' (i + 129)) (n + 1)) : Rel I' nS nL mx bl (n + 1) := by
  obtain ⟨⟨m1, m2, m3, m4⟩, r1, r2, r3, r4, r5, r6⟩ := h
  refine ⟨⟨?_, ?_, ?_, ?_⟩, fun j hj => ?_, fun j h1 h2 => ?_, fun j hj => ?_, fun j h1 h2 => ?_, fun j hj => ?_, ?_⟩
  · rw [e1 (0) (by omega) (by omega) (by omega)]; exact m1
  · rw [e1 (0) (by omega) (by omega) (by omega), e2 1 (by omega) (by omega), e2 2 (by omega) (by omega), e2 3 (by omega) (by omega), e2 4 (by omega) (by omega), e2 5 (by omega) (by omega)]; exact m2
  · rw [e1 (10) (by omega) (by omega) (by omega), e1 (128) (by omega) (by omega) (by omega)]; exact m3
  · rw [e1 (115) (by omega) (by omega) (by omega)]; exact m4
  · rw [e1 (6 * j + 19) (by omega) (by omega) (by omega), e1 (6 * j + 20) (by omega) (by omega) (by omega), e1 (6 * j + 21) (by omega) (by omega) (by omega), e1 (6 * j + 22) (by omega) (by omega) (by omega), e1 (6 * j + 23) (by omega) (by omega) (by omega), e1 (6 * j + 24) (by omega) (by omega) (by omega), e1 (10 * j + 150) (by omega) (by omega) (by omega), e1 (10 * j + 151) (by omega) (by omega) (by omega), e1 (10 * j + 152) (by omega) (by omega) (by omega)]
    exact (r1 j hj).mono (by omega)
  · rw [e1 (6 * j + 19) (by omega) (by omega) (by omega), e1 (6 * j + 20) (by omega) (by omega) (by omega), e1 (6 * j + 21) (by omega) (by omega) (by omega), e1 (6 * j + 22) (by omega) (by omega) (by omega), e1 (6 * j + 23) (by omega) (by omega) (by omega)]
    exact r2 j h1 h2
  · rw [e1 (2 * j + 11) (by omega) (by omega) (by omega), e1 (2 * j + 12) (by omega) (by omega) (by omega), e1 (2 * j + 135) (by omega) (by omega) (by omega), e1 (2 * j + 136) (by omega) (by omega) (by omega)]
    exact (r3 j hj).mono (by omega)
  · rw [e1 (2 * j + 11) (by omega) (by omega) (by omega), e1 (2 * j + 12) (by omega) (by omega) (by omega)]
    exact r4 j h1 h2
  · by_cases q : j = i
    · subst q; exact hl
    · rw [e1 (j + 3) (by omega) (by omega) (by omega), e1 (j + 129) (by omega) (by omega) (by omega)]
      exact (r5 j hj).mono (by omega)
  · unfold SumR
    rw [sumZ_congr (g := fun i => (I (6 * i + 19) 1).toInt)]
    · exact r6
    · intro j hj; simp only [e1 (6 * j + 19) (by omega) (by omega) (by omega)]
/-- purses anew -/
theorem Rel.pur {I I' : Nat → Nat → Int32} {nS nL : Nat} {mx : Nat → Int32} {bl : Nat → List (Nat × Int32)} {n : Nat} (h : Rel I nS nL mx bl n) (hnL : nL ≤ 16) (hnS : nS ≤ 4)
    (e1 : ∀ v, v ≠ 10 → v ≠ 128 → v ≠ 124 → I' v = I v)
    (e2 : ∀ k, 1 ≤ k → k < 6 → I' 124 k = I 124 k)
    (hl : ∀ k, k < 4 → I' 10 k = I' 128 k) : Rel I' nS nL mx bl (n + 1) := by
  obtain ⟨⟨m1, m2, m3, m4⟩, r1, r2, r3, r4, r5, r6⟩ := h
  refine ⟨⟨?_, ?_, ?_, ?_⟩, fun j hj => ?_, fun j h1 h2 => ?_, fun j hj => ?_, fun j h1 h2 => ?_, fun j hj => ?_, ?_⟩
  · rw [e1 (0) (by omega) (by omega) (by omega)]; exact m1
  · rw [e1 (0) (by omega) (by omega) (by omega), e2 1 (by omega) (by omega), e2 2 (by omega) (by omega), e2 3 (by omega) (by omega), e2 4 (by omega) (by omega), e2 5 (by omega) (by omega)]; exact m2
  · exact hl
  · rw [e1 (115) (by omega) (by omega) (by omega)]; exact m4
  · rw [e1 (6 * j + 19) (by omega) (by omega) (by omega), e1 (6 * j + 20) (by omega) (by omega) (by omega), e1 (6 * j + 21) (by omega) (by omega) (by omega), e1 (6 * j + 22) (by omega) (by omega) (by omega), e1 (6 * j + 23) (by omega) (by omega) (by omega), e1 (6 * j + 24) (by omega) (by omega) (by omega), e1 (10 * j + 150) (by omega) (by omega) (by omega), e1 (10 * j + 151) (by omega) (by omega) (by omega), e1 (10 * j + 152) (by omega) (by omega) (by omega)]
    exact (r1 j hj).mono (by omega)
  · rw [e1 (6 * j + 19) (by omega) (by omega) (by omega), e1 (6 * j + 20) (by omega) (by omega) (by omega), e1 (6 * j + 21) (by omega) (by omega) (by omega), e1 (6 * j + 22) (by omega) (by omega) (by omega), e1 (6 * j + 23) (by omega) (by omega) (by omega)]
    exact r2 j h1 h2
  · rw [e1 (2 * j + 11) (by omega) (by omega) (by omega), e1 (2 * j + 12) (by omega) (by omega) (by omega), e1 (2 * j + 135) (by omega) (by omega) (by omega), e1 (2 * j + 136) (by omega) (by omega) (by omega)]
    exact (r3 j hj).mono (by omega)
  · rw [e1 (2 * j + 11) (by omega) (by omega) (by omega), e1 (2 * j + 12) (by omega) (by omega) (by omega)]
    exact r4 j h1 h2
  · rw [e1 (j + 3) (by omega) (by omega) (by omega), e1 (j + 129) (by omega) (by omega) (by omega)]
    exact (r5 j hj).mono (by omega)
  · unfold SumR
    rw [sumZ_congr (g := fun i => (I (6 * i + 19) 1).toInt)]
    · exact r6
    · intro j hj; simp only [e1 (6 * j + 19) (by omega) (by omega) (by omega)]
/-- the trial lot anew -/
theorem Rel.tri {I I' : Nat → Nat → Int32} {nS nL : Nat} {mx : Nat → Int32} {bl : Nat → List (Nat × Int32)} {n : Nat} (h : Rel I nS nL mx bl n) (hnL : nL ≤ 16) (hnS : nS ≤ 4)
    (e1 : ∀ v, (v < 115 ∨ 120 < v) → v ≠ 124 → I' v = I v)
    (e2 : ∀ k, 1 ≤ k → k < 6 → I' 124 k = I 124 k)
    (hl : I' 115 9 = -1 ∧ I' 115 12 = 0) : Rel I' nS nL mx bl (n + 1) := by
  obtain ⟨⟨m1, m2, m3, m4⟩, r1, r2, r3, r4, r5, r6⟩ := h
  refine ⟨⟨?_, ?_, ?_, ?_⟩, fun j hj => ?_, fun j h1 h2 => ?_, fun j hj => ?_, fun j h1 h2 => ?_, fun j hj => ?_, ?_⟩
  · rw [e1 (0) (by omega) (by omega)]; exact m1
  · rw [e1 (0) (by omega) (by omega), e2 1 (by omega) (by omega), e2 2 (by omega) (by omega), e2 3 (by omega) (by omega), e2 4 (by omega) (by omega), e2 5 (by omega) (by omega)]; exact m2
  · rw [e1 (10) (by omega) (by omega), e1 (128) (by omega) (by omega)]; exact m3
  · exact hl
  · rw [e1 (6 * j + 19) (by omega) (by omega), e1 (6 * j + 20) (by omega) (by omega), e1 (6 * j + 21) (by omega) (by omega), e1 (6 * j + 22) (by omega) (by omega), e1 (6 * j + 23) (by omega) (by omega), e1 (6 * j + 24) (by omega) (by omega), e1 (10 * j + 150) (by omega) (by omega), e1 (10 * j + 151) (by omega) (by omega), e1 (10 * j + 152) (by omega) (by omega)]
    exact (r1 j hj).mono (by omega)
  · rw [e1 (6 * j + 19) (by omega) (by omega), e1 (6 * j + 20) (by omega) (by omega), e1 (6 * j + 21) (by omega) (by omega), e1 (6 * j + 22) (by omega) (by omega), e1 (6 * j + 23) (by omega) (by omega)]
    exact r2 j h1 h2
  · rw [e1 (2 * j + 11) (by omega) (by omega), e1 (2 * j + 12) (by omega) (by omega), e1 (2 * j + 135) (by omega) (by omega), e1 (2 * j + 136) (by omega) (by omega)]
    exact (r3 j hj).mono (by omega)
  · rw [e1 (2 * j + 11) (by omega) (by omega), e1 (2 * j + 12) (by omega) (by omega)]
    exact r4 j h1 h2
  · rw [e1 (j + 3) (by omega) (by omega), e1 (j + 129) (by omega) (by omega)]
    exact (r5 j hj).mono (by omega)
  · unfold SumR
    rw [sumZ_congr (g := fun i => (I (6 * i + 19) 1).toInt)]
    · exact r6
    · intro j hj; simp only [e1 (6 * j + 19) (by omega) (by omega)]

section V2
variable {β : Type} {φ : Nat → Nat} {T : Nat → Nat × Nat} {I : Nat → Nat → Int32} {R : Nat → Nat → Option Nat} {τ : Mem} {v ci k t : Nat} {x i : Int32} {r : Option Nat}
theorem gI_pt (hj : Inj φ T) {K : Int32 → Option β} (h : (T v).1 = ci + 1) : gI ci k (pt φ T I R τ) (some (φ v)) K = K (I v k) := by
  have hv : (T v).1 ≠ 0 := by omega
  simp only [gI, mT_pt hj hv, mI_pt hj hv, h, if_true]
theorem gR_pt (hj : Inj φ T) {K : Option Nat → Option β} (h : (T v).1 = ci + 1) : gR ci k (pt φ T I R τ) (some (φ v)) K = K (R v k) := by
  have hv : (T v).1 ≠ 0 := by omega
  simp only [gR, mT_pt hj hv, mR_pt hj hv, h, if_true]
theorem ob_pt (hj : Inj φ T) {K : Nat → Option β} (h : (T v).1 = ci + 1) : ob ci (pt φ T I R τ) (some (φ v)) K = K (φ v) := by
  have hv : (T v).1 ≠ 0 := by omega
  simp only [ob, mT_pt hj hv, h, if_true]
theorem ck_pt (hj : Inj φ T) {K : Option β} (h : (T v).1 = ci) (hc : ci ≠ 0) : ck ci (pt φ T I R τ) (some (φ v)) K = K := by
  have hv : (T v).1 ≠ 0 := by omega
  simp only [ck, mT_pt hj hv, h, if_true]
theorem pI_pt (hj : Inj φ T) {K : Mem → Option β} (h : (T v).1 = ci + 1) : pI ci k (pt φ T I R τ) (some (φ v)) x K = K (pt φ T (up2 I v k x) R τ) := by
  have hv : (T v).1 ≠ 0 := by omega
  simp only [pI, mT_pt hj hv, sI_pt hj hv, h, if_true]
theorem pB_pt (hj : Inj φ T) {K : Mem → Option β} (h : (T v).1 = ci + 1) (hx : x = 0 ∨ x = 1) : pB ci k (pt φ T I R τ) (some (φ v)) x K = K (pt φ T (up2 I v k x) R τ) := by
  have hv : (T v).1 ≠ 0 := by omega
  simp only [pB, mT_pt hj hv, sI_pt hj hv, h, hx, and_self, if_true]
theorem pR_pt (hj : Inj φ T) {K : Mem → Option β} (h : (T v).1 = ci + 1) : pR ci k (pt φ T I R τ) (some (φ v)) r K = K (pt φ T I (up2 R v k r) τ) := by
  have hv : (T v).1 ≠ 0 := by omega
  simp only [pR, mT_pt hj hv, sR_pt hj hv, h, if_true]
theorem aI_pt (hj : Inj φ T) {K : Int32 → Option β} (h : (T v).1 = 100) (h1 : ¬ i < 0) (h2 : i.toNatClampNeg < (T v).2) : aI (pt φ T I R τ) (some (φ v)) i K = K (I v i.toNatClampNeg) := by
  have hv : (T v).1 ≠ 0 := by omega
  simp only [aI, mT_pt hj hv, mI_pt hj hv, isA, ix, h, h1, h2, not_false_eq_true, true_or, and_self, if_true]
theorem aR_pt (hj : Inj φ T) {K : Option Nat → Option β} (h : (T v).1 = 100 + t) (h1 : ¬ i < 0) (h2 : i.toNatClampNeg < (T v).2) : aR t (pt φ T I R τ) (some (φ v)) i K = K (R v i.toNatClampNeg) := by
  have hv : (T v).1 ≠ 0 := by omega
  simp only [aR, mT_pt hj hv, mR_pt hj hv, isA, ix, h, h1, h2, not_false_eq_true, true_or, and_self, if_true]
theorem wI_pt (hj : Inj φ T) {K : Mem → Option β} (h : (T v).1 = 100) (h1 : ¬ i < 0) (h2 : i.toNatClampNeg < (T v).2) : wI (pt φ T I R τ) (some (φ v)) i x K = K (pt φ T (up2 I v i.toNatClampNeg x) R τ) := by
  have hv : (T v).1 ≠ 0 := by omega
  simp only [wI, mT_pt hj hv, sI_pt hj hv, isA, ix, h, h1, h2, not_false_eq_true, true_or, and_self, if_true]
theorem wJ_pt (hj : Inj φ T) {K : Mem → Option β} {y : Int64} (h : (T v).1 = 101) (h1 : ¬ i < 0) (h2 : i.toNatClampNeg < (T v).2) : wJ (pt φ T I R τ) (some (φ v)) i y K = K (pt φ T I R (sJ τ (φ v) i.toNatClampNeg y)) := by
  have hv : (T v).1 ≠ 0 := by omega
  simp only [wJ, mT_pt hj hv, sJ_pt, isA, ix, h, h1, h2, not_false_eq_true, true_or, and_self, if_true]
theorem aL_pt (hj : Inj φ T) {K : Int32 → Option β} (h : 100 ≤ (T v).1 ∧ (T v).1 < 107) : aL (pt φ T I R τ) (some (φ v)) K = K (Int32.ofNat (T v).2) := by
  have hv : (T v).1 ≠ 0 := by omega
  simp only [aL, mT_pt hj hv, h, and_self, true_or, if_true]
end V2

section L1
variable {φ : Nat → Nat} {T : Nat → Nat × Nat} {I : Nat → Nat → Int32} {R : Nat → Nat → Option Nat} {τ : Mem} {v w : Nat}
theorem mdry (hj : Inj φ T) (h1 : T v = (8, 0)) (h2 : R v 1 = some (φ w)) (h3 : T w = (100, 4)) : f_X5_dry (φ v) (pt φ T I R τ) = some (I w 0 + I w 1 + I w 2 + I w 3, pt φ T I R τ) := by
  simp (config := {decide := true}) only [b_X5_dry_13, b_X5_dry_0, f_X5_dry, l_X5_dry_13, itr_40, itr_39, itr_38, itr_37, itr_36, itr_35, gI_pt hj, gR_pt hj, ob_pt hj, ck_pt hj, pI_pt hj, pB_pt hj, pR_pt hj, aI_pt hj, aR_pt hj, wI_pt hj, wJ_pt hj, aL_pt hj, cl1_s, cl1_n, cl1_i, cx1_s, cx1_x, cx1_n, cx1_i, nul_n, nul_s, nm, dv2, dv3, dv4, dv5, dv8, dv10, dv20, dv40, thr, bo, mI_pt hj, mT_pt hj, sB_pt, mZ_pt, mJ_pt, mJ_sJ, mZ_sJ, tn0, tn1, tn2, tn3, tn4, tn5, tn6, h1, h2, h3, Int32.zero_add, ii0, ii1, ii2, ii3, ii4, if_true, if_false, ne_eq, not_false_eq_true, not_true_eq_false, true_and, and_true, false_and, and_false, and_self, true_or, or_true, false_or, or_false, or_self, Nat.reduceAdd, Nat.reduceLT, Nat.reduceLeDiff, Nat.succ_ne_zero, reduceIte, reduceCtorEq]
end L1
