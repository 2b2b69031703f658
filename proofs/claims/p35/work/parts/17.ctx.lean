/-! WHAT HOLDS of the garden's ints after n rounds, by rows -/
def LotR (nS : Nat) (x xu xn xa xp : Nat → Int32) (n : Nat) : Prop :=
  (x 0 = 0 ∨ x 0 = 1 ∨ x 0 = 2 ∨ x 0 = 3) ∧
  ((x 10 = 0 ∨ x 10 = 1) ∧ (x 11 = 0 ∨ x 11 = 1) ∧ (x 12 = 0 ∨ x 12 = 1)) ∧
  ((∀ k, k < 4 → 0 ≤ (xu k).toInt) ∧ (x 1).toInt = (xu 0).toInt + (xu 1).toInt + (xu 2).toInt + (xu 3).toInt ∧ ∀ k, nS ≤ k → k < 4 → xu k = 0) ∧
  ((x 0 = 3 → x 1 = 0) ∧ (x 0 ≠ 3 → 0 < (x 1).toInt)) ∧
  (0 ≤ (x 2).toInt ∧ (x 0 ≠ 3 → (x 2).toInt ≤ (x 1).toInt)) ∧
  (0 ≤ (x 3).toInt ∧ (x 3).toInt ≤ 20000) ∧
  ((0 ≤ (x 4).toInt ∧ (x 4).toInt ≤ 20 * n) ∧ (0 ≤ (x 5).toInt ∧ (x 5).toInt ≤ 5 * n) ∧ (0 ≤ (x 6).toInt ∧ (x 6).toInt ≤ 60) ∧ (0 ≤ (x 7).toInt ∧ (x 7).toInt ≤ 30 * n) ∧ (0 ≤ (x 8).toInt ∧ (x 8).toInt ≤ 150 * n)) ∧
  ((x 9 = -1 ∨ 0 ≤ (x 9).toInt) ∧ (x 0 = 0 ∨ x 0 = 1 → x 9 = -1)) ∧
  (x 12 ≠ 0 → ∀ k, k < 3 → 0 ≤ (xn k).toInt ∧ (xn k).toInt ≤ 9) ∧
  (0 ≤ (xa 0).toInt ∧ (xa 0).toInt ≤ 99 ∧ (xa 0 ≠ 0 → x 0 = 2)) ∧
  (∀ k, k < 4 → 0 ≤ (xp k).toInt ∧ (xp k).toInt ≤ 99 ∧ (xa 0 = 0 → xp k = 0))
def LotB (x xu xn xa xp : Nat → Int32) : Prop :=
  (∀ k, k < 13 → x k = if k = 9 then -1 else 0) ∧ (∀ k, k < 4 → xu k = 0) ∧ (∀ k, k < 3 → xn k = 0) ∧ xa 0 = 0 ∧ (∀ k, k < 4 → xp k = 0)
def SecR (s sh : Nat → Int32) (n : Nat) : Prop :=
  (1 ≤ (s 0).toInt ∧ (s 0).toInt ≤ 9) ∧ (0 ≤ (s 1).toInt ∧ (s 1).toInt ≤ 2) ∧ (0 ≤ (s 2).toInt ∧ (s 2).toInt ≤ 4) ∧ s 3 = 0 ∧ (0 ≤ (s 4).toInt ∧ (s 4).toInt ≤ 30 * n) ∧
  (∀ k, k < 4 → 0 ≤ (sh k).toInt ∧ (sh k).toInt ≤ 18) ∧ (0 ≤ (s 6).toInt ∧ (s 6).toInt ≤ 1080 * n)
def SecB (s sh : Nat → Int32) : Prop := (∀ k, k < 7 → s k = 0) ∧ (∀ k, k < 4 → sh k = 0)
def TasR (t : Nat → Int32) (n : Nat) : Prop := (-2 ≤ (t 0).toInt ∧ (t 0).toInt ≤ 2) ∧ (0 ≤ (t 2).toInt ∧ (t 2).toInt ≤ n) ∧ (-6 * (t 2).toInt ≤ (t 1).toInt ∧ (t 1).toInt ≤ 6 * (t 2).toInt)
abbrev LotsR (I : Nat → Nat → Int32) (nS nL n : Nat) : Prop :=
  ∀ i, i < nL → LotR nS (I (6 * i + 19)) (I (6 * i + 20)) (I (6 * i + 21)) (I (6 * i + 22)) (I (6 * i + 23)) n
abbrev LotsB (I : Nat → Nat → Int32) (nL : Nat) : Prop := ∀ i, nL ≤ i → i < 16 → LotB (I (6 * i + 19)) (I (6 * i + 20)) (I (6 * i + 21)) (I (6 * i + 22)) (I (6 * i + 23))
abbrev SecsR (I : Nat → Nat → Int32) (nS n : Nat) : Prop := ∀ i, i < nS → SecR (I (2 * i + 11)) (I (2 * i + 12)) n
abbrev SecsB (I : Nat → Nat → Int32) (nS : Nat) : Prop := ∀ i, nS ≤ i → i < 4 → SecB (I (2 * i + 11)) (I (2 * i + 12))
abbrev TassR (I : Nat → Nat → Int32) (n : Nat) : Prop := ∀ i, i < 3 → TasR (I (i + 3)) n
def dryS (I : Nat → Nat → Int32) (nL : Nat) : Int := sumZ (fun i => (I (6 * i + 19) 1).toInt) nL
abbrev SumR (I : Nat → Nat → Int32) (nL : Nat) : Prop :=
  (I 0 11).toInt = dryS I nL + (I 0 10).toInt ∧ 0 ≤ (I 0 10).toInt ∧ (I 0 11).toInt ≤ 360 * nL
def Rel (I : Nat → Nat → Int32) (nS nL n : Nat) : Prop :=
  (I 0 1 = Int32.ofNat nS ∧ I 0 4 = Int32.ofNat nL) ∧ LotsR I nS nL n ∧ LotsB I nL ∧ SecsR I nS n ∧ SecsB I nS ∧ TassR I n ∧ (I 115 9 = -1 ∧ I 115 12 = 0) ∧ SumR I nL
/-- money and purses: P is what came into the purses less the wages -/
def Mon (I : Nat → Nat → Int32) (P : Int) (n : Nat) : Prop :=
  (∀ k, k < 4 → 0 ≤ (I 10 k).toInt ∧ (I 10 k).toInt ≤ 200 * n) ∧ (I 0 8).toInt + (I 10 0).toInt + (I 10 1).toInt + (I 10 2).toInt + (I 10 3).toInt = P ∧ (-18 * (n : Int) ≤ P ∧ P ≤ 200 * n)
theorem LotR.mono {nS : Nat} {x xu xn xa xp : Nat → Int32} {n n' : Nat} (hn : n ≤ n') (h : LotR nS x xu xn xa xp n) : LotR nS x xu xn xa xp n' := by
  obtain ⟨h1, h2, h3, h4, h5, h6, ⟨h7, h8, h9, h10, h11⟩, h12⟩ := h
  exact ⟨h1, h2, h3, h4, h5, h6, ⟨⟨h7.1, by omega⟩, ⟨h8.1, by omega⟩, h9, ⟨h10.1, by omega⟩, ⟨h11.1, by omega⟩⟩, h12⟩
theorem SecR.mono {s sh : Nat → Int32} {n n' : Nat} (hn : n ≤ n') (h : SecR s sh n) : SecR s sh n' := by
  obtain ⟨h1, h2, h3, h4, h5, h6, h7⟩ := h
  exact ⟨h1, h2, h3, h4, ⟨h5.1, by omega⟩, h6, ⟨h7.1, by omega⟩⟩
theorem TasR.mono {t : Nat → Int32} {n n' : Nat} (hn : n ≤ n') (h : TasR t n) : TasR t n' := ⟨h.1, ⟨h.2.1.1, by have := h.2.1.2; omega⟩, h.2.2⟩
theorem Mon.mono {I : Nat → Nat → Int32} {P : Int} {n n' : Nat} (hn : n ≤ n') (h : Mon I P n) : Mon I P n' := by
  obtain ⟨h1, h2, h3⟩ := h
  exact ⟨fun k hk => ⟨(h1 k hk).1, by have := (h1 k hk).2; omega⟩, h2, by omega⟩
/-- a lot with other numbers, its units, fine, grade, notes the same -/
theorem LotR.chg {nS : Nat} {x y xu xn xa xp : Nat → Int32} {n n' : Nat} (h : LotR nS x xu xn xa xp n) (e1 : y 1 = x 1) (e2 : y 2 = x 2) (e9 : y 9 = x 9) (e11 : y 11 = x 11) (e12 : y 12 = x 12)
    (s : y 0 = x 0 ∨ (x 0 ≠ 3 ∧ xa 0 = 0 ∧ ((y 0 = 1 ∧ x 9 = -1) ∨ y 0 = 2))) (k : y 10 = 0 ∨ y 10 = 1) (b3 : 0 ≤ (y 3).toInt ∧ (y 3).toInt ≤ 20000)
    (b4 : 0 ≤ (y 4).toInt ∧ (y 4).toInt ≤ 20 * n') (b5 : 0 ≤ (y 5).toInt ∧ (y 5).toInt ≤ 5 * n') (b6 : 0 ≤ (y 6).toInt ∧ (y 6).toInt ≤ 60) (b7 : 0 ≤ (y 7).toInt ∧ (y 7).toInt ≤ 30 * n') (b8 : 0 ≤ (y 8).toInt ∧ (y 8).toInt ≤ 150 * n') : LotR nS y xu xn xa xp n' := by
  obtain ⟨h1, ⟨h2a, h2b, h2c⟩, h3, h4, h5, h6, h7, h8, h9, h10, h11⟩ := h
  rcases s with s | ⟨s1, s2, s3⟩
  · refine ⟨by rw [s]; exact h1, ⟨k, by rw [e11]; exact h2b, by rw [e12]; exact h2c⟩, by rw [e1]; exact h3, by rw [e1, s]; exact h4, by rw [e1, e2, s]; exact h5, b3, ⟨b4, b5, b6, b7, b8⟩, by rw [e9, s]; exact h8, by rw [e12]; exact h9, by rw [s]; exact h10, h11⟩
  · have y3 : y 0 ≠ 3 := by rcases s3 with ⟨s3, -⟩ | s3 <;> rw [s3] <;> decide
    refine ⟨by rcases s3 with ⟨s3, -⟩ | s3 <;> rw [s3] <;> simp, ⟨k, by rw [e11]; exact h2b, by rw [e12]; exact h2c⟩, by rw [e1]; exact h3, ⟨fun q => absurd q y3, fun _ => by rw [e1]; exact h4.2 s1⟩, ⟨by rw [e2]; exact h5.1, fun _ => by rw [e1, e2]; exact h5.2 s1⟩, b3, ⟨b4, b5, b6, b7, b8⟩, ⟨by rw [e9]; exact h8.1, fun q => ?_⟩, by rw [e12]; exact h9, ⟨h10.1, h10.2.1, fun q => absurd s2 q⟩, h11⟩
    rw [e9]
    rcases s3 with ⟨-, s3⟩ | s3
    · exact s3
    · rw [s3] at q; rcases q with q | q <;> exact absurd q (by decide)
/-- rows of ints that the context rests on are the same -/
theorem Rel.same {I I' : Nat → Nat → Int32} {nS nL n n' : Nat} (h : Rel I nS nL n) (hn : n ≤ n') (hS : nS ≤ 4) (hL : nL ≤ 16)
    (e0 : I' 0 1 = I 0 1 ∧ I' 0 4 = I 0 4 ∧ I' 0 10 = I 0 10 ∧ I' 0 11 = I 0 11)
    (eL : ∀ i, i < nL → LotR nS (I' (6 * i + 19)) (I' (6 * i + 20)) (I' (6 * i + 21)) (I' (6 * i + 22)) (I' (6 * i + 23)) n' ∧ I' (6 * i + 19) 1 = I (6 * i + 19) 1)
    (eB : ∀ i, nL ≤ i → i < 16 → I' (6 * i + 19) = I (6 * i + 19) ∧ I' (6 * i + 20) = I (6 * i + 20) ∧ I' (6 * i + 21) = I (6 * i + 21) ∧ I' (6 * i + 22) = I (6 * i + 22) ∧ I' (6 * i + 23) = I (6 * i + 23))
    (eS : ∀ i, i < nS → SecR (I' (2 * i + 11)) (I' (2 * i + 12)) n')
    (eT : ∀ i, nS ≤ i → i < 4 → I' (2 * i + 11) = I (2 * i + 11) ∧ I' (2 * i + 12) = I (2 * i + 12))
    (eU : ∀ i, i < 3 → TasR (I' (i + 3)) n') (e1 : I' 115 9 = I 115 9 ∧ I' 115 12 = I 115 12) : Rel I' nS nL n' := by
  obtain ⟨⟨g1, g2⟩, r1, r2, r3, r4, r5, r6, r7⟩ := h
  refine ⟨⟨e0.1.trans g1, e0.2.1.trans g2⟩, fun i hi => (eL i hi).1, fun i h1 h2 => ?_, eS, fun i h1 h2 => ?_, eU, ⟨e1.1.trans r6.1, e1.2.trans r6.2⟩, ?_⟩
  · obtain ⟨q1, q2, q3, q4, q5⟩ := eB i h1 h2
    rw [q1, q2, q3, q4, q5]; exact r2 i h1 h2
  · obtain ⟨q1, q2⟩ := eT i h1 h2
    rw [q1, q2]; exact r4 i h1 h2
  · unfold SumR dryS
    rw [e0.2.2.1, e0.2.2.2, sumZ_congr (g := fun i => (I (6 * i + 19) 1).toInt) (fun i hi => by rw [(eL i hi).2])]
    exact r7
/-- one lot anew, its dry the same -/
theorem Rel.lot {I I' : Nat → Nat → Int32} {nS nL n n' : Nat} (h : Rel I nS nL n) (hn : n ≤ n') (hS : nS ≤ 4) (hL : nL ≤ 16) (i : Nat) (hi : i < nL)
    (e : ∀ v, (v < 6 * i + 19 ∨ 6 * i + 24 < v) → I' v = I v) (hl : LotR nS (I' (6 * i + 19)) (I' (6 * i + 20)) (I' (6 * i + 21)) (I' (6 * i + 22)) (I' (6 * i + 23)) n') (hd : I' (6 * i + 19) 1 = I (6 * i + 19) 1) : Rel I' nS nL n' := by
  refine h.same hn hS hL ?_ (fun j hj => ?_) (fun j h1 h2 => ?_) (fun j hj => ?_) (fun j h1 h2 => ?_) (fun j hj => ?_) ?_
  · rw [e 0 (by omega)]; exact ⟨rfl, rfl, rfl, rfl⟩
  · by_cases q : j = i
    · subst q; exact ⟨hl, hd⟩
    · rw [e (6 * j + 19) (by omega), e (6 * j + 20) (by omega), e (6 * j + 21) (by omega), e (6 * j + 22) (by omega), e (6 * j + 23) (by omega)]
      exact ⟨(h.2.1 j hj).mono hn, rfl⟩
  · exact ⟨e _ (by omega), e _ (by omega), e _ (by omega), e _ (by omega), e _ (by omega)⟩
  · rw [e (2 * j + 11) (by omega), e (2 * j + 12) (by omega)]; exact (h.2.2.2.1 j hj).mono hn
  · exact ⟨e _ (by omega), e _ (by omega)⟩
  · rw [e (j + 3) (by omega)]; exact (h.2.2.2.2.2.1 j hj).mono hn
  · rw [e 115 (by omega)]; exact ⟨rfl, rfl⟩
/-- one section anew; one taster anew; purses alone -/
theorem Rel.sec {I I' : Nat → Nat → Int32} {nS nL n n' : Nat} (h : Rel I nS nL n) (hn : n ≤ n') (hS : nS ≤ 4) (hL : nL ≤ 16) (i : Nat) (hi : i < nS)
    (e : ∀ v, (v < 2 * i + 11 ∨ 2 * i + 12 < v) → I' v = I v) (hl : SecR (I' (2 * i + 11)) (I' (2 * i + 12)) n') : Rel I' nS nL n' := by
  refine h.same hn hS hL ?_ (fun j hj => ?_) (fun j h1 h2 => ?_) (fun j hj => ?_) (fun j h1 h2 => ?_) (fun j hj => ?_) ?_
  · rw [e 0 (by omega)]; exact ⟨rfl, rfl, rfl, rfl⟩
  · rw [e (6 * j + 19) (by omega), e (6 * j + 20) (by omega), e (6 * j + 21) (by omega), e (6 * j + 22) (by omega), e (6 * j + 23) (by omega)]
    exact ⟨(h.2.1 j hj).mono hn, rfl⟩
  · exact ⟨e _ (by omega), e _ (by omega), e _ (by omega), e _ (by omega), e _ (by omega)⟩
  · by_cases q : j = i
    · subst q; exact hl
    · rw [e (2 * j + 11) (by omega), e (2 * j + 12) (by omega)]; exact (h.2.2.2.1 j hj).mono hn
  · exact ⟨e _ (by omega), e _ (by omega)⟩
  · rw [e (j + 3) (by omega)]; exact (h.2.2.2.2.2.1 j hj).mono hn
  · rw [e 115 (by omega)]; exact ⟨rfl, rfl⟩
theorem Rel.tas {I I' : Nat → Nat → Int32} {nS nL n n' : Nat} (h : Rel I nS nL n) (hn : n ≤ n') (hS : nS ≤ 4) (hL : nL ≤ 16) (i : Nat) (hi : i < 3)
    (e : ∀ v, v ≠ i + 3 → I' v = I v) (hl : TasR (I' (i + 3)) n') : Rel I' nS nL n' := by
  refine h.same hn hS hL ?_ (fun j hj => ?_) (fun j h1 h2 => ?_) (fun j hj => ?_) (fun j h1 h2 => ?_) (fun j hj => ?_) ?_
  · rw [e 0 (by omega)]; exact ⟨rfl, rfl, rfl, rfl⟩
  · rw [e (6 * j + 19) (by omega), e (6 * j + 20) (by omega), e (6 * j + 21) (by omega), e (6 * j + 22) (by omega), e (6 * j + 23) (by omega)]
    exact ⟨(h.2.1 j hj).mono hn, rfl⟩
  · exact ⟨e _ (by omega), e _ (by omega), e _ (by omega), e _ (by omega), e _ (by omega)⟩
  · rw [e (2 * j + 11) (by omega), e (2 * j + 12) (by omega)]; exact (h.2.2.2.1 j hj).mono hn
  · exact ⟨e _ (by omega), e _ (by omega)⟩
  · by_cases q : j = i
    · subst q; exact hl
    · rw [e (j + 3) (by omega)]; exact (h.2.2.2.2.2.1 j hj).mono hn
  · rw [e 115 (by omega)]; exact ⟨rfl, rfl⟩
theorem Rel.pur {I I' : Nat → Nat → Int32} {nS nL n n' : Nat} (h : Rel I nS nL n) (hn : n ≤ n') (hS : nS ≤ 4) (hL : nL ≤ 16)
    (e : ∀ v, v ≠ 10 → v ≠ 0 → v ≠ 115 → I' v = I v) (e0 : I' 0 1 = I 0 1 ∧ I' 0 4 = I 0 4 ∧ I' 0 10 = I 0 10 ∧ I' 0 11 = I 0 11) (e1 : I' 115 9 = I 115 9 ∧ I' 115 12 = I 115 12) : Rel I' nS nL n' := by
  refine h.same hn hS hL e0 (fun j hj => ?_) (fun j h1 h2 => ?_) (fun j hj => ?_) (fun j h1 h2 => ?_) (fun j hj => ?_) e1
  · rw [e (6 * j + 19) (by omega) (by omega) (by omega), e (6 * j + 20) (by omega) (by omega) (by omega), e (6 * j + 21) (by omega) (by omega) (by omega), e (6 * j + 22) (by omega) (by omega) (by omega), e (6 * j + 23) (by omega) (by omega) (by omega)]
    exact ⟨(h.2.1 j hj).mono hn, rfl⟩
  · exact ⟨e _ (by omega) (by omega) (by omega), e _ (by omega) (by omega) (by omega), e _ (by omega) (by omega) (by omega), e _ (by omega) (by omega) (by omega), e _ (by omega) (by omega) (by omega)⟩
  · rw [e (2 * j + 11) (by omega) (by omega) (by omega), e (2 * j + 12) (by omega) (by omega) (by omega)]; exact (h.2.2.2.1 j hj).mono hn
  · exact ⟨e _ (by omega) (by omega) (by omega), e _ (by omega) (by omega) (by omega)⟩
  · rw [e (j + 3) (by omega) (by omega) (by omega)]; exact (h.2.2.2.2.2.1 j hj).mono hn
theorem sumZ_nn {f : Nat → Int} {n : Nat} (h : ∀ j, j < n → 0 ≤ f j) : 0 ≤ sumZ f n := by
  induction n with
  | zero => exact Int.le_refl _
  | succ n ih =>
    have h1 := ih (fun j hj => h j (by omega))
    have h2 := h n (by omega)
    simp only [sumZ]; omega
theorem sumZ_le {f : Nat → Int} {n i : Nat} (h : ∀ j, j < n → 0 ≤ f j) (hi : i < n) : f i ≤ sumZ f n := by
  induction n with
  | zero => omega
  | succ n ih =>
    have hn := h n (by omega)
    simp only [sumZ]
    by_cases q : i = n
    · subst q
      have := sumZ_nn (n := i) (fun j hj => h j (by omega))
      omega
    · have := ih (fun j hj => h j (by omega)) (by omega)
      omega
/-! THE CONTEXT in one word -/
section B2
variable {φ : Nat → Nat} {T : Nat → Nat × Nat} {I J : Nat → Nat → Int32} {R : Nat → Nat → Option Nat} {τ : Mem} {nS nL n z : Nat}
variable {p : Int32} {i k : Nat}
def Cx (φ : Nat → Nat) (T : Nat → Nat × Nat) (I : Nat → Nat → Int32) (R : Nat → Nat → Option Nat) (z nS nL n : Nat) : Prop :=
  Inj φ T ∧ live T φ z ∧ SX φ T R ∧ (nS ≤ 4 ∧ nL ≤ 16) ∧ Rel I nS nL n
abbrev InN (p : Int32) (k : Nat) : Prop := ¬ p < 0 ∧ p < Int32.ofNat k
theorem InN.of {k n : Nat} (h : k < n) (hn : n < 1000000) : InN (Int32.ofNat k) n := ⟨kN_nn (by omega), (kN_lt (by omega) hn).mpr h⟩
theorem Cx.hj (h : Cx φ T I R z nS nL n) : Inj φ T := h.1
theorem Cx.hl (h : Cx φ T I R (mZ τ) nS nL n) : live T φ (mZ τ) := h.2.1
theorem Cx.up {z' : Nat} (h : Cx φ T I R z nS nL n) (hz : z ≤ z') : Cx φ T I R z' nS nL n := ⟨h.1, fun v hv => Nat.lt_of_lt_of_le (h.2.1 v hv) hz, h.2.2⟩
theorem Cx.m (h : Cx φ T I R z nS nL n) : True ∧ True ∧ True ∧ True ∧ nL ≤ 16 ∧ nS ≤ 4 ∧ True ∧ T 0 = (5, 0) := by
  obtain ⟨hj, hl, hx, ⟨hm22, hm23⟩, hr⟩ := h; obtain ⟨hx0, hx1, hx2, hx3, hx4, hx5, hx6, hx7, hx8, hx9, hx10, hx11, hx12, hx13, hx14, hx15, hx16, hx17, hx18, hx19, hx20, hx21, hx22, hx23, hx24, hx25, hx26, hx27⟩ := hx; obtain ⟨⟨g1, g2⟩, r1, r2, r3, r4, r5, r6, r7⟩ := hr
  exact ⟨trivial, trivial, trivial, trivial, hm23, hm22, trivial, hx0⟩
theorem Cx.of (h : Cx φ T I R z nS nL n) {n' z' : Nat} {I' : Nat → Nat → Int32} (hz : z ≤ z') (hr : Rel I' nS nL n') : Cx φ T I' R z' nS nL n' := ⟨h.1, fun v hv => Nat.lt_of_lt_of_le (h.2.1 v hv) hz, h.2.2.1, h.2.2.2.1, hr⟩
theorem Cx.lot {J' : Nat → Nat → Int32} (h : Cx φ T I R z nS nL n) {n' : Nat} (hn : n ≤ n') (iL : i < nL) (e : ∀ v, (v < 6 * i + 19 ∨ 6 * i + 24 < v) → J' v = I v) (hl : LotR nS (J' (6 * i + 19)) (J' (6 * i + 20)) (J' (6 * i + 21)) (J' (6 * i + 22)) (J' (6 * i + 23)) n') (hd : J' (6 * i + 19) 1 = I (6 * i + 19) 1) : Cx φ T J' R z nS nL n' :=
  h.of (Nat.le_refl _) (h.2.2.2.2.lot hn h.m.2.2.2.2.2.1 h.m.2.2.2.2.1 i iL e hl hd)
theorem Mon.same {J' : Nat → Nat → Int32} {P : Int} {n' : Nat} (h : Mon I P n) (hn : n ≤ n') (e1 : J' 0 8 = I 0 8) (e2 : J' 10 = I 10) : Mon J' P n' := by
  have := h.mono hn
  unfold Mon at this ⊢
  rw [e1, e2]; exact this
/-! the checks -/
theorem x_req (σ : Mem) {a b : Int32} (h1 : a ≤ p) (h2 : p ≤ b) : f_X4_requireArgument p a b σ = some ((), σ) := by
  simp (config := {decide := true}) only [b_X4_requireArgument_10, b_X4_requireArgument_0, f_X4_requireArgument, Int32.not_lt.mpr h1, h2, ii0, ii1, ii2, ii3, ii4, if_true, if_false, ne_eq, not_false_eq_true, not_true_eq_false, true_and, and_true, false_and, and_false, and_self, true_or, or_true, false_or, or_false, or_self, Nat.reduceAdd, Nat.reduceLT, Nat.reduceLeDiff, Nat.succ_ne_zero, reduceIte, reduceCtorEq]
theorem x_st1 (σ : Mem) : f_X4_requireState 1 σ = some ((), σ) := by simp (config := {decide := true}) only [b_X4_requireState_0, f_X4_requireState, ii0, ii1, ii2, ii3, ii4, if_true, if_false, ne_eq, not_false_eq_true, not_true_eq_false, true_and, and_true, false_and, and_false, and_self, true_or, or_true, false_or, or_false, or_self, Nat.reduceAdd, Nat.reduceLT, Nat.reduceLeDiff, Nat.succ_ne_zero, reduceIte, reduceCtorEq]
theorem x_lotAt (h : Cx φ T I R (mZ τ) nS nL n) (hp : InN p nL) (hi : p.toNatClampNeg = i) : f_X4_lotAt (φ 0) p (pt φ T I R τ) = some (some (φ (6 * i + 19)), pt φ T I R τ) := by
  obtain ⟨hj, hl, hx, ⟨hm22, hm23⟩, hr⟩ := h; obtain ⟨hx0, hx1, hx2, hx3, hx4, hx5, hx6, hx7, hx8, hx9, hx10, hx11, hx12, hx13, hx14, hx15, hx16, hx17, hx18, hx19, hx20, hx21, hx22, hx23, hx24, hx25, hx26, hx27⟩ := hx; obtain ⟨⟨g1, g2⟩, r1, r2, r3, r4, r5, r6, r7⟩ := hr
  obtain ⟨w1, w2⟩ := hp
  obtain ⟨w3, w4, w5, w6, w7⟩ := idx hm23 w1 w2
  rw [hi] at w7
  have h16 : i < 16 := by omega
  simp (config := {decide := true}) only [b_X4_lotAt_0, f_X4_lotAt, b_X4_requireIndex_9, b_X4_requireIndex_0, f_X4_requireIndex, gI_pt hj, gR_pt hj, ob_pt hj, pI_pt hj, pB_pt hj, pR_pt hj, aI_pt hj, aR_pt hj, wI_pt hj, aL_pt hj, cl1_s, cl1_n, cl1_i, nul_n, nul_s, nm, dv2, dv3, dv4, dv5, dv8, dv10, dv20, dv40, bo, mI_pt hj, mT_pt hj, mZ_pt, tn0, tn1, tn2, tn3, tn4, tn5, tn6, hx0, hx2, hx7, hx14 i h16, g2, w1, w2, hi, h16, ii0, ii1, ii2, ii3, ii4, if_true, if_false, ne_eq, not_false_eq_true, not_true_eq_false, true_and, and_true, false_and, and_false, and_self, true_or, or_true, false_or, or_false, or_self, Nat.reduceAdd, Nat.reduceLT, Nat.reduceLeDiff, Nat.succ_ne_zero, reduceIte, reduceCtorEq]
theorem x_secAt (h : Cx φ T I R (mZ τ) nS nL n) (hp : InN p nS) (hi : p.toNatClampNeg = i) : f_X4_sectionAt (φ 0) p (pt φ T I R τ) = some (some (φ (2 * i + 11)), pt φ T I R τ) := by
  obtain ⟨hj, hl, hx, ⟨hm22, hm23⟩, hr⟩ := h; obtain ⟨hx0, hx1, hx2, hx3, hx4, hx5, hx6, hx7, hx8, hx9, hx10, hx11, hx12, hx13, hx14, hx15, hx16, hx17, hx18, hx19, hx20, hx21, hx22, hx23, hx24, hx25, hx26, hx27⟩ := hx; obtain ⟨⟨g1, g2⟩, r1, r2, r3, r4, r5, r6, r7⟩ := hr
  obtain ⟨w1, w2⟩ := hp
  obtain ⟨w3, w4, w5, w6, w7⟩ := idx (show nS ≤ 16 by omega) w1 w2
  rw [hi] at w7
  have h4 : i < 4 := by omega
  simp (config := {decide := true}) only [b_X4_sectionAt_0, f_X4_sectionAt, b_X4_requireIndex_9, b_X4_requireIndex_0, f_X4_requireIndex, gI_pt hj, gR_pt hj, ob_pt hj, pI_pt hj, pB_pt hj, pR_pt hj, aI_pt hj, aR_pt hj, wI_pt hj, aL_pt hj, cl1_s, cl1_n, cl1_i, nul_n, nul_s, nm, dv2, dv3, dv4, dv5, dv8, dv10, dv20, dv40, bo, mI_pt hj, mT_pt hj, mZ_pt, tn0, tn1, tn2, tn3, tn4, tn5, tn6, hx0, hx1, hx6, hx10 i h4, g1, w1, w2, hi, h4, ii0, ii1, ii2, ii3, ii4, if_true, if_false, ne_eq, not_false_eq_true, not_true_eq_false, true_and, and_true, false_and, and_false, and_self, true_or, or_true, false_or, or_false, or_self, Nat.reduceAdd, Nat.reduceLT, Nat.reduceLeDiff, Nat.succ_ne_zero, reduceIte, reduceCtorEq]
theorem x_tasAt (h : Cx φ T I R (mZ τ) nS nL n) (hp : InN p 3) (hi : p.toNatClampNeg = i) : f_X4_tasterAt (φ 0) p (pt φ T I R τ) = some (some (φ (i + 3)), pt φ T I R τ) := by
  obtain ⟨hj, hl, hx, ⟨hm22, hm23⟩, hr⟩ := h; obtain ⟨hx0, hx1, hx2, hx3, hx4, hx5, hx6, hx7, hx8, hx9, hx10, hx11, hx12, hx13, hx14, hx15, hx16, hx17, hx18, hx19, hx20, hx21, hx22, hx23, hx24, hx25, hx26, hx27⟩ := hx; obtain ⟨⟨g1, g2⟩, r1, r2, r3, r4, r5, r6, r7⟩ := hr
  obtain ⟨w1, w2⟩ := hp
  obtain ⟨w3, w4, w5, w6, w7⟩ := idx (show 3 ≤ 16 by omega) w1 w2
  rw [hi] at w7
  have w2' : p < 3 := w2
  simp (config := {decide := true}) only [b_X4_tasterAt_0, f_X4_tasterAt, b_X4_requireIndex_9, b_X4_requireIndex_0, f_X4_requireIndex, gI_pt hj, gR_pt hj, ob_pt hj, pI_pt hj, pB_pt hj, pR_pt hj, aI_pt hj, aR_pt hj, wI_pt hj, aL_pt hj, cl1_s, cl1_n, cl1_i, nul_n, nul_s, nm, dv2, dv3, dv4, dv5, dv8, dv10, dv20, dv40, bo, mI_pt hj, mT_pt hj, mZ_pt, tn0, tn1, tn2, tn3, tn4, tn5, tn6, hx0, hx4, hx8, hx26 i w7, w1, w2', hi, w7, ii0, ii1, ii2, ii3, ii4, if_true, if_false, ne_eq, not_false_eq_true, not_true_eq_false, true_and, and_true, false_and, and_false, and_self, true_or, or_true, false_or, or_false, or_self, Nat.reduceAdd, Nat.reduceLT, Nat.reduceLeDiff, Nat.succ_ne_zero, reduceIte, reduceCtorEq]
theorem Cx.t4 (h : Cx φ T I R z nS nL n) (hi : i < 17) : T (6 * i + 19) = (2, 0) := by
  obtain ⟨hj, hl, hx, ⟨hm22, hm23⟩, hr⟩ := h; obtain ⟨hx0, hx1, hx2, hx3, hx4, hx5, hx6, hx7, hx8, hx9, hx10, hx11, hx12, hx13, hx14, hx15, hx16, hx17, hx18, hx19, hx20, hx21, hx22, hx23, hx24, hx25, hx26, hx27⟩ := hx; obtain ⟨⟨g1, g2⟩, r1, r2, r3, r4, r5, r6, r7⟩ := hr
  exact hx15 i hi
theorem Cx.t5 (h : Cx φ T I R z nS nL n) (hi : i < 4) : T (2 * i + 11) = (3, 0) := by
  obtain ⟨hj, hl, hx, ⟨hm22, hm23⟩, hr⟩ := h; obtain ⟨hx0, hx1, hx2, hx3, hx4, hx5, hx6, hx7, hx8, hx9, hx10, hx11, hx12, hx13, hx14, hx15, hx16, hx17, hx18, hx19, hx20, hx21, hx22, hx23, hx24, hx25, hx26, hx27⟩ := hx; obtain ⟨⟨g1, g2⟩, r1, r2, r3, r4, r5, r6, r7⟩ := hr
  exact hx11 i hi
theorem Cx.lr (h : Cx φ T I R z nS nL n) (hi : i < nL) : LotR nS (I (6 * i + 19)) (I (6 * i + 20)) (I (6 * i + 21)) (I (6 * i + 22)) (I (6 * i + 23)) n := h.2.2.2.2.2.1 i hi
theorem Cx.sr (h : Cx φ T I R z nS nL n) (hi : i < nS) : SecR (I (2 * i + 11)) (I (2 * i + 12)) n := h.2.2.2.2.2.2.2.1 i hi
theorem Cx.tr (h : Cx φ T I R z nS nL n) (hi : i < 3) : TasR (I (i + 3)) n := h.2.2.2.2.2.2.2.2.2.1 i hi
theorem Cx.dry (h : Cx φ T I R z nS nL n) (hi : i < nL) : 0 ≤ (I (6 * i + 19) 1).toInt ∧ (I (6 * i + 19) 1).toInt ≤ 5760 := by
  obtain ⟨hj, hl, hx, ⟨hm22, hm23⟩, hr⟩ := h; obtain ⟨hx0, hx1, hx2, hx3, hx4, hx5, hx6, hx7, hx8, hx9, hx10, hx11, hx12, hx13, hx14, hx15, hx16, hx17, hx18, hx19, hx20, hx21, hx22, hx23, hx24, hx25, hx26, hx27⟩ := hx; obtain ⟨⟨g1, g2⟩, r1, r2, r3, r4, r5, r6, r7⟩ := hr
  have h0 : ∀ j, j < nL → 0 ≤ (I (6 * j + 19) 1).toInt := fun j hj => by
    obtain ⟨-, -, ⟨q1, q2, -⟩, -⟩ := r1 j hj
    have := q1 0 (by omega); have := q1 1 (by omega); have := q1 2 (by omega); have := q1 3 (by omega)
    omega
  have h1 := sumZ_le (f := fun i => (I (6 * i + 19) 1).toInt) h0 hi
  obtain ⟨q1, q2, q3⟩ := r7
  unfold dryS at q1
  exact ⟨h0 i hi, by omega⟩
end B2
