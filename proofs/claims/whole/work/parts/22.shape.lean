/-! THE SHAPE of the garden: it never changes -/
def SX (φ : Nat → Nat) (T : Nat → Nat × Nat) (R : Nat → Nat → Option Nat) : Prop :=
  T 0 = (7, 0) ∧
  R 0 0 = some (φ 1) ∧
  R 0 3 = some (φ 2) ∧
  R 0 5 = some (φ 115) ∧
  R 0 6 = some (φ 9) ∧
  R 0 7 = some (φ 10) ∧
  T 1 = (103, 4) ∧
  T 2 = (102, 16) ∧
  T 9 = (104, 3) ∧
  T 10 = (100, 4) ∧
  (∀ i : Nat, i < 4 → R 1 i = some (φ (2 * i + 11))) ∧
  (∀ i : Nat, i < 4 → T (2 * i + 11) = (5, 0)) ∧
  (∀ i : Nat, i < 4 → R (2 * i + 11) 7 = some (φ (2 * i + 12))) ∧
  (∀ i : Nat, i < 4 → T (2 * i + 12) = (100, 4)) ∧
  (∀ i : Nat, i < 16 → R 2 i = some (φ (6 * i + 19))) ∧
  (∀ i : Nat, i < 17 → T (6 * i + 19) = (4, 0)) ∧
  (∀ i : Nat, i < 17 → R (6 * i + 19) 13 = some (φ (6 * i + 20))) ∧
  (∀ i : Nat, i < 17 → R (6 * i + 19) 14 = some (φ (6 * i + 21))) ∧
  (∀ i : Nat, i < 17 → R (6 * i + 19) 15 = some (φ (6 * i + 22))) ∧
  (∀ i : Nat, i < 17 → T (6 * i + 20) = (100, 4)) ∧
  (∀ i : Nat, i < 17 → T (6 * i + 21) = (100, 3)) ∧
  (∀ i : Nat, i < 17 → T (6 * i + 22) = (3, 0)) ∧
  (∀ i : Nat, i < 17 → R (6 * i + 22) 2 = some (φ (6 * i + 23))) ∧
  (∀ i : Nat, i < 17 → R (6 * i + 22) 3 = some (φ (6 * i + 24))) ∧
  (∀ i : Nat, i < 17 → T (6 * i + 23) = (100, 4)) ∧
  (∀ i : Nat, i < 17 → T (6 * i + 24) = (100, 4)) ∧
  (∀ i : Nat, i < 3 → R 9 i = some (φ (i + 3))) ∧
  (∀ i : Nat, i < 3 → T (i + 3) = (6, 0))
/-! THE SHAPE of the reference: nS sections, nL lots, the lists and how long their arrays are, whether a lot is mixed, its bids -/
def SM (φ : Nat → Nat) (T : Nat → Nat × Nat) (I : Nat → Nat → Int32) (R : Nat → Nat → Option Nat) (e0 nS nL cS cL : Nat) (mx : Nat → Int32) (cB : Nat → Nat) (bl : Nat → List (Nat × Int32)) : Prop :=
  T 124 = (11, 0) ∧
  R 124 6 = some (φ 125) ∧
  R 124 7 = some (φ 126) ∧
  R 124 8 = some (φ 127) ∧
  R 124 9 = some (φ 128) ∧
  T 125 = (2, 0) ∧
  T 126 = (2, 0) ∧
  T 127 = (105, 3) ∧
  T 128 = (100, 4) ∧
  T 132 = (101, 1) ∧
  (∀ i : Nat, i < 3 → R 127 i = some (φ (i + 129))) ∧
  (∀ i : Nat, i < 3 → T (i + 129) = (10, 0)) ∧
  I 125 2 = Int32.ofNat nS ∧
  I 126 2 = Int32.ofNat nL ∧
  R 125 1 = some (if nS = 0 then e0 else φ 133) ∧
  R 126 1 = some (if nL = 0 then e0 else φ 134) ∧
  (0 < nS → T 133 = (106, cS)) ∧
  (0 < nL → T 134 = (106, cL)) ∧
  nS ≤ cS ∧
  cS ≤ 22 ∧
  nL ≤ cL ∧
  cL ≤ 22 ∧
  nS ≤ 4 ∧
  nL ≤ 16 ∧
  (∀ i : Nat, i < nS → R 133 i = some (φ (2 * i + 135))) ∧
  (∀ i : Nat, i < nS → T (2 * i + 135) = (9, 0)) ∧
  (∀ i : Nat, i < nS → R (2 * i + 135) 6 = some (φ (2 * i + 136))) ∧
  (∀ i : Nat, i < nS → T (2 * i + 136) = (100, 5)) ∧
  (∀ i : Nat, i < nL → R 134 i = some (φ (10 * i + 150))) ∧
  (∀ i : Nat, i < nL → T (10 * i + 150) = (8, 0)) ∧
  (∀ i : Nat, i < nL → R (10 * i + 150) 1 = some (φ (10 * i + 151))) ∧
  (∀ i : Nat, i < nL → T (10 * i + 151) = (100, 4)) ∧
  (∀ i : Nat, i < nL → R (10 * i + 150) 12 = if mx i = 0 then none else some (φ (10 * i + 152))) ∧
  (∀ i : Nat, i < nL → (mx i ≠ 0 → T (10 * i + 152) = (100, 3))) ∧
  (∀ i : Nat, i < nL → R (10 * i + 150) 14 = some (φ (10 * i + 153))) ∧
  (∀ i : Nat, i < nL → T (10 * i + 153) = (2, 0)) ∧
  (∀ i : Nat, i < nL → I (10 * i + 153) 2 = Int32.ofNat (bl i).length) ∧
  (∀ i : Nat, i < nL → R (10 * i + 153) 1 = some (if cB i = 0 then e0 else φ (10 * i + 154))) ∧
  (∀ i : Nat, i < nL → (cB i ≠ 0 → T (10 * i + 154) = (106, cB i))) ∧
  (∀ i : Nat, i < nL → (bl i).length ≤ cB i) ∧
  (∀ i : Nat, i < nL → (∀ (k : Nat) (b : Nat × Int32), (bl i)[k]? = some b → b.1 < 4 ∧ R (10 * i + 154) k = some (φ (10 * i + 155 + b.1)) ∧ T (10 * i + 155 + b.1) = (100, 2) ∧ I (10 * i + 155 + b.1) 0 = Int32.ofNat b.1 ∧ I (10 * i + 155 + b.1) 1 = b.2)) ∧
  T 123 = (300, 0) ∧
  φ 123 = e0 ∧
  (∀ i : Nat, i < nL → cB i ≤ 22) ∧
  (∀ i : Nat, nL ≤ i → i < cL → R 134 i = none)

/-! WHAT IS THE SAME on both sides, and the bounds, by rows -/
def BidR (xa xp xt : Nat → Int32) (b : List (Nat × Int32)) (n : Nat) : Prop :=
  (0 ≤ (xa 1).toInt ∧ (xa 1).toInt ≤ n) ∧
  (∀ e ∈ b, e.1 < 4 ∧ 1 ≤ e.2.toInt ∧ e.2.toInt ≤ 99 ∧ xp e.1 = e.2 ∧ (xt e.1).toInt ≤ (xa 1).toInt) ∧
  (∀ q, q < 4 → (∀ e ∈ b, e.1 ≠ q) → xp q = 0) ∧
  b.Pairwise (fun e f => e.1 ≠ f.1 ∧ (xt e.1).toInt < (xt f.1).toInt)
def LotR (x xu xn xa xp xt m mu mn : Nat → Int32) (mx : Int32) (b : List (Nat × Int32)) (n : Nat) : Prop :=
  (x 0 = m 0 ∧ x 2 = m 2 ∧ x 3 = m 3 ∧ x 4 = m 4 ∧ x 5 = m 5 ∧ x 6 = m 6 ∧ x 7 = m 7 ∧ x 8 = m 8 ∧ x 9 = m 9 ∧ x 10 = m 10 ∧ x 11 = m 11 ∧ x 12 = mx ∧ xa 0 = m 13) ∧
  (xu 0 = mu 0 ∧ xu 1 = mu 1 ∧ xu 2 = mu 2 ∧ xu 3 = mu 3) ∧
  (x 1 = mu 0 + mu 1 + mu 2 + mu 3 ∧ 0 ≤ (mu 0).toInt ∧ 0 ≤ (mu 1).toInt ∧ 0 ≤ (mu 2).toInt ∧ 0 ≤ (mu 3).toInt ∧ (x 1).toInt = (mu 0).toInt + (mu 1).toInt + (mu 2).toInt + (mu 3).toInt) ∧
  ((mx = 0 ∨ mx = 1) ∧ (mx ≠ 0 → ∀ k, k < 3 → xn k = mn k ∧ 0 ≤ (mn k).toInt ∧ (mn k).toInt ≤ 9)) ∧
  ((x 10 = 0 ∨ x 10 = 1) ∧ (x 11 = 0 ∨ x 11 = 1) ∧ (x 0 = 0 ∨ x 0 = 1 ∨ x 0 = 2 ∨ x 0 = 3)) ∧
  ((x 0 = 3 → mu 0 = 0 ∧ mu 1 = 0 ∧ mu 2 = 0 ∧ mu 3 = 0) ∧ (x 0 ≠ 3 → 0 < (x 1).toInt) ∧ (x 0 = 0 ∨ x 0 = 1 → x 9 = -1)) ∧
  (0 ≤ (x 5).toInt ∧ (x 5).toInt ≤ 5 * n) ∧
  (0 ≤ (xa 0).toInt ∧ (xa 0).toInt ≤ 99 ∧ (xa 0 ≠ 0 → x 0 = 2) ∧ (b ≠ [] → xa 0 ≠ 0)) ∧
  BidR xa xp xt b n
def LotB (x xu xn xa xp : Nat → Int32) : Prop :=
  (∀ k, k < 13 → x k = if k = 9 then -1 else 0) ∧ (∀ k, k < 4 → xu k = 0) ∧ (∀ k, k < 3 → xn k = 0) ∧ xa 0 = 0 ∧ xa 1 = 0 ∧ (∀ k, k < 4 → xp k = 0)
def SecR (s sh m mh : Nat → Int32) (n : Nat) : Prop :=
  (s 0 = m 0 ∧ s 1 = m 1 ∧ s 2 = m 2 ∧ s 3 = m 3 ∧ s 4 = m 4 ∧ s 5 = m 5 ∧ s 6 = mh 4) ∧
  (sh 0 = mh 0 ∧ sh 1 = mh 1 ∧ sh 2 = mh 2 ∧ sh 3 = mh 3) ∧
  (1 ≤ (s 0).toInt ∧ (s 0).toInt ≤ 9 ∧ 0 ≤ (s 1).toInt ∧ (s 1).toInt ≤ 2 ∧ 0 ≤ (s 2).toInt ∧ (s 2).toInt ≤ 4 ∧ 0 ≤ (s 3).toInt ∧ (s 3).toInt ≤ 4) ∧
  (∀ k, k < 4 → 0 ≤ (sh k).toInt ∧ (sh k).toInt ≤ 18) ∧ (0 ≤ (s 6).toInt ∧ (s 6).toInt ≤ 1080 * n)
def SecB (s sh : Nat → Int32) : Prop := (∀ k, k < 7 → s k = 0) ∧ (∀ k, k < 4 → sh k = 0)
def TasR (t m : Nat → Int32) (n : Nat) : Prop := t 0 = m 0 ∧ t 1 = m 1 ∧ t 2 = m 2 ∧ 0 ≤ (t 2).toInt ∧ (t 2).toInt ≤ n
def sumZ (f : Nat → Int) : Nat → Int
  | 0 => 0
  | n + 1 => sumZ f n + f n
def MisR (I : Nat → Nat → Int32) (nS nL : Nat) : Prop :=
  (I 0 1 = Int32.ofNat nS ∧ I 0 4 = Int32.ofNat nL) ∧ (I 0 2 = I 124 1 ∧ I 0 8 = I 124 2 ∧ I 0 9 = I 124 3 ∧ I 0 11 = I 124 4 ∧ I 0 10 = I 124 5) ∧
  (∀ k, k < 4 → I 10 k = I 128 k) ∧ (I 115 9 = -1 ∧ I 115 12 = 0)
abbrev LotsR (I : Nat → Nat → Int32) (nL : Nat) (mx : Nat → Int32) (bl : Nat → List (Nat × Int32)) (n : Nat) : Prop :=
  ∀ i, i < nL → LotR (I (6 * i + 19)) (I (6 * i + 20)) (I (6 * i + 21)) (I (6 * i + 22)) (I (6 * i + 23)) (I (6 * i + 24)) (I (10 * i + 150)) (I (10 * i + 151)) (I (10 * i + 152)) (mx i) (bl i) n
abbrev LotsB (I : Nat → Nat → Int32) (nL : Nat) : Prop := ∀ i, nL ≤ i → i < 16 → LotB (I (6 * i + 19)) (I (6 * i + 20)) (I (6 * i + 21)) (I (6 * i + 22)) (I (6 * i + 23))
abbrev SecsR (I : Nat → Nat → Int32) (nS : Nat) (n : Nat) : Prop := ∀ i, i < nS → SecR (I (2 * i + 11)) (I (2 * i + 12)) (I (2 * i + 135)) (I (2 * i + 136)) n
abbrev SecsB (I : Nat → Nat → Int32) (nS : Nat) : Prop := ∀ i, nS ≤ i → i < 4 → SecB (I (2 * i + 11)) (I (2 * i + 12))
abbrev TassR (I : Nat → Nat → Int32) (n : Nat) : Prop := ∀ i, i < 3 → TasR (I (i + 3)) (I (i + 129)) n
abbrev SumR (I : Nat → Nat → Int32) (nL : Nat) : Prop := sumZ (fun i => (I (6 * i + 19) 1).toInt) nL ≤ 360 * nL
def Rel (I : Nat → Nat → Int32) (nS nL : Nat) (mx : Nat → Int32) (bl : Nat → List (Nat × Int32)) (n : Nat) : Prop :=
  MisR I nS nL ∧ LotsR I nL mx bl n ∧ LotsB I nL ∧ SecsR I nS n ∧ SecsB I nS ∧ TassR I n ∧ SumR I nL
theorem BidR.mono {xa xp xt : Nat → Int32} {b : List (Nat × Int32)} {n n' : Nat} (hn : n ≤ n') (h : BidR xa xp xt b n) : BidR xa xp xt b n' :=
  ⟨⟨h.1.1, by have := h.1.2; omega⟩, h.2⟩
theorem LotR.mono {x xu xn xa xp xt m mu mn : Nat → Int32} {mx : Int32} {b : List (Nat × Int32)} {n n' : Nat} (hn : n ≤ n') (h : LotR x xu xn xa xp xt m mu mn mx b n) : LotR x xu xn xa xp xt m mu mn mx b n' := by
  obtain ⟨h1, h2, h3, h4, h5, h6, h7, h8, h9⟩ := h
  exact ⟨h1, h2, h3, h4, h5, h6, ⟨h7.1, by omega⟩, h8, h9.mono hn⟩
theorem SecR.mono {s sh m mh : Nat → Int32} {n n' : Nat} (hn : n ≤ n') (h : SecR s sh m mh n) : SecR s sh m mh n' := by
  obtain ⟨h1, h2, h3, h4, h5⟩ := h
  exact ⟨h1, h2, h3, h4, h5.1, by omega⟩
theorem TasR.mono {t m : Nat → Int32} {n n' : Nat} (hn : n ≤ n') (h : TasR t m n) : TasR t m n' := ⟨h.1, h.2.1, h.2.2.1, h.2.2.2.1, by have := h.2.2.2.2; omega⟩
theorem sumZ_congr {f g : Nat → Int} {n : Nat} (h : ∀ i, i < n → f i = g i) : sumZ f n = sumZ g n := by
  induction n with
  | zero => rfl
  | succ n ih => simp only [sumZ]; rw [ih (fun i hi => h i (by omega)), h n (by omega)]
/-- one lot anew -/
theorem Rel.lot {I I' : Nat → Nat → Int32} {nS nL : Nat} {mx : Nat → Int32} {bl : Nat → List (Nat × Int32)} {n : Nat} (h : Rel I nS nL mx bl n) (i : Nat) (hi : i < nL) (hnL : nL ≤ 16) (hnS : nS ≤ 4)
    (e1 : ∀ v, (v < 6 * i + 19 ∨ 6 * i + 24 < v) → (v < 10 * i + 150 ∨ 10 * i + 152 < v) → v ≠ 124 → I' v = I v)
    (e2 : ∀ k, 1 ≤ k → k < 6 → I' 124 k = I 124 k)
    (hl : LotR (I' (6 * i + 19)) (I' (6 * i + 20)) (I' (6 * i + 21)) (I' (6 * i + 22)) (I' (6 * i + 23)) (I' (6 * i + 24)) (I' (10 * i + 150)) (I' (10 * i + 151)) (I' (10 * i + 152)) (mx i) (bl i) (n + 1))
    (hs : I' (6 * i + 19) 1 = I (6 * i + 19) 1) : Rel I' nS nL mx bl (n + 1) := by
  obtain ⟨⟨m1, m2, m3, m4⟩, r1, r2, r3, r4, r5, r6⟩ := h
  refine ⟨⟨?_, ?_, ?_, ?_⟩, fun j hj => ?_, fun j h1 h2 => ?_, fun j hj => ?_, fun j h1 h2 => ?_, fun j hj => ?_, ?_⟩
  · rw [e1 0 (by omega) (by omega) (by omega)]; exact m1
  · rw [e1 0 (by omega) (by omega) (by omega), e2 1 (by omega) (by omega), e2 2 (by omega) (by omega), e2 3 (by omega) (by omega), e2 4 (by omega) (by omega), e2 5 (by omega) (by omega)]; exact m2
  · rw [e1 10 (by omega) (by omega) (by omega), e1 128 (by omega) (by omega) (by omega)]; exact m3
  · rw [e1 115 (by omega) (by omega) (by omega)]; exact m4
  · by_cases q : j = i
    · subst q; exact hl
    · rw [e1 (6 * j + 19) (by omega) (by omega) (by omega), e1 (6 * j + 20) (by omega) (by omega) (by omega), e1 (6 * j + 21) (by omega) (by omega) (by omega), e1 (6 * j + 22) (by omega) (by omega) (by omega), e1 (6 * j + 23) (by omega) (by omega) (by omega), e1 (6 * j + 24) (by omega) (by omega) (by omega), e1 (10 * j + 150) (by omega) (by omega) (by omega), e1 (10 * j + 151) (by omega) (by omega) (by omega), e1 (10 * j + 152) (by omega) (by omega) (by omega)]
      exact (r1 j hj).mono (by omega)
  · rw [e1 (6 * j + 19) (by omega) (by omega) (by omega), e1 (6 * j + 20) (by omega) (by omega) (by omega), e1 (6 * j + 21) (by omega) (by omega) (by omega), e1 (6 * j + 22) (by omega) (by omega) (by omega), e1 (6 * j + 23) (by omega) (by omega) (by omega)]
    exact r2 j h1 h2
  · rw [e1 (2 * j + 11) (by omega) (by omega) (by omega), e1 (2 * j + 12) (by omega) (by omega) (by omega), e1 (2 * j + 135) (by omega) (by omega) (by omega), e1 (2 * j + 136) (by omega) (by omega) (by omega)]
    exact (r3 j hj).mono (by omega)
  · rw [e1 (2 * j + 11) (by omega) (by omega) (by omega), e1 (2 * j + 12) (by omega) (by omega) (by omega)]
    exact r4 j h1 h2
  · rw [e1 (j + 3) (by omega) (by omega) (by omega), e1 (j + 129) (by omega) (by omega) (by omega)]
    exact (r5 j hj).mono (by omega)
  · unfold SumR
    rw [sumZ_congr (g := fun i => (I (6 * i + 19) 1).toInt)]
    · exact r6
    · intro j hj
      by_cases q : j = i
      · subst q; simp only [hs]
      · simp only [e1 (6 * j + 19) (by omega) (by omega) (by omega)]
/-- only what was thrown -/
theorem Rel.thr {I I' : Nat → Nat → Int32} {nS nL : Nat} {mx : Nat → Int32} {bl : Nat → List (Nat × Int32)} {n : Nat} (h : Rel I nS nL mx bl n) (hnL : nL ≤ 16) (hnS : nS ≤ 4)
    (e1 : ∀ v, v ≠ 124 → I' v = I v) (e2 : ∀ k, 1 ≤ k → k < 6 → I' 124 k = I 124 k) : Rel I' nS nL mx bl (n + 1) := by
  obtain ⟨⟨m1, m2, m3, m4⟩, r1, r2, r3, r4, r5, r6⟩ := h
  refine ⟨⟨?_, ?_, ?_, ?_⟩, fun j hj => ?_, fun j h1 h2 => ?_, fun j hj => ?_, fun j h1 h2 => ?_, fun j hj => ?_, ?_⟩
  · rw [e1 0 (by omega)]; exact m1
  · rw [e1 0 (by omega), e2 1 (by omega) (by omega), e2 2 (by omega) (by omega), e2 3 (by omega) (by omega), e2 4 (by omega) (by omega), e2 5 (by omega) (by omega)]; exact m2
  · rw [e1 10 (by omega), e1 128 (by omega)]; exact m3
  · rw [e1 115 (by omega)]; exact m4
  · rw [e1 (6 * j + 19) (by omega), e1 (6 * j + 20) (by omega), e1 (6 * j + 21) (by omega), e1 (6 * j + 22) (by omega), e1 (6 * j + 23) (by omega), e1 (6 * j + 24) (by omega), e1 (10 * j + 150) (by omega), e1 (10 * j + 151) (by omega), e1 (10 * j + 152) (by omega)]
    exact (r1 j hj).mono (by omega)
  · rw [e1 (6 * j + 19) (by omega), e1 (6 * j + 20) (by omega), e1 (6 * j + 21) (by omega), e1 (6 * j + 22) (by omega), e1 (6 * j + 23) (by omega)]
    exact r2 j h1 h2
  · rw [e1 (2 * j + 11) (by omega), e1 (2 * j + 12) (by omega), e1 (2 * j + 135) (by omega), e1 (2 * j + 136) (by omega)]
    exact (r3 j hj).mono (by omega)
  · rw [e1 (2 * j + 11) (by omega), e1 (2 * j + 12) (by omega)]
    exact r4 j h1 h2
  · rw [e1 (j + 3) (by omega), e1 (j + 129) (by omega)]
    exact (r5 j hj).mono (by omega)
  · unfold SumR
    rw [sumZ_congr (g := fun i => (I (6 * i + 19) 1).toInt)]
    · exact r6
    · intro j hj; simp only [e1 (6 * j + 19) (by omega)]
/-- the reference's shape rests on few rows of ints -/
theorem SM.rows {φ : Nat → Nat} {T : Nat → Nat × Nat} {I I' : Nat → Nat → Int32} {R : Nat → Nat → Option Nat} {e0 nS nL cS cL : Nat} {mx : Nat → Int32} {cB : Nat → Nat} {bl : Nat → List (Nat × Int32)} (h : SM φ T I R e0 nS nL cS cL mx cB bl)
    (e : ∀ v, v = 125 ∨ v = 126 ∨ (∃ i k, i < nL ∧ 3 ≤ k ∧ k < 9 ∧ v = 10 * i + 150 + k) → I' v = I v) : SM φ T I' R e0 nS nL cS cL mx cB bl := by
  obtain ⟨hm0, hm1, hm2, hm3, hm4, hm5, hm6, hm7, hm8, hm9, hm10, hm11, hm12, hm13, hm14, hm15, hm16, hm17, hm18, hm19, hm20, hm21, hm22, hm23, hm24, hm25, hm26, hm27, hm28, hm29, hm30, hm31, hm32, hm33, hm34, hm35, hm36, hm37, hm38, hm39, hm40, hm41, hm42, hm43, hm44⟩ := h
  refine ⟨hm0, hm1, hm2, hm3, hm4, hm5, hm6, hm7, hm8, hm9, hm10, hm11, ?_, ?_, hm14, hm15, hm16, hm17, hm18, hm19, hm20, hm21, hm22, hm23, hm24, hm25, hm26, hm27, hm28, hm29, hm30, hm31, hm32, hm33, hm34, hm35, ?_, hm37, hm38, hm39, ?_, hm41, hm42, hm43, hm44⟩
  · rw [e 125 (Or.inl rfl)]; exact hm12
  · rw [e 126 (Or.inr (Or.inl rfl))]; exact hm13
  · intro i hi; rw [e (10 * i + 153) (Or.inr (Or.inr ⟨i, 3, hi, by omega, by omega, by omega⟩))]; exact hm36 i hi
  · intro i hi k b hb
    have hb4 := (hm40 i hi k b hb).1
    rw [e (10 * i + 155 + b.1) (Or.inr (Or.inr ⟨i, 5 + b.1, hi, by omega, by omega, by omega⟩))]; exact hm40 i hi k b hb
/-- the two, side by side, after n calls -/
def live (T : Nat → Nat × Nat) (φ : Nat → Nat) (z : Nat) : Prop := ∀ v, (T v).1 ≠ 0 → φ v < z
def Js (φ : Nat → Nat) (T : Nat → Nat × Nat) (I : Nat → Nat → Int32) (R : Nat → Nat → Option Nat) (σ : Mem) (e0 nS nL cS cL : Nat) (mx : Nat → Int32) (cB : Nat → Nat) (bl : Nat → List (Nat × Int32)) (x m o n : Nat) : Prop :=
  (φ 0 = x ∧ φ 124 = m ∧ φ 132 = o) ∧ Inj φ T ∧ live T φ (mZ σ) ∧ SX φ T R ∧ SM φ T I R e0 nS nL cS cL mx cB bl ∧ Rel I nS nL mx bl n
def Jn (e0 x m o n : Nat) (σ : Mem) : Prop := ∃ φ T I R τ nS nL cS cL mx cB bl, σ = pt φ T I R τ ∧ Js φ T I R τ e0 nS nL cS cL mx cB bl x m o n
/-- a call on both: the same code, the same answer -/
def Agr (e0 x m o n : Nat) (X : Option (Int32 × Mem)) (M : Mem → Option (Int32 × Mem)) : Prop :=
  ∃ (k : Int32) (σ1 : Mem) (b : Int32) (σ2 : Mem), X = some (k, σ1) ∧ M σ1 = some (b, σ2) ∧ Jn e0 x m o (n + 1) σ2 ∧ mI σ2 m 0 = k ∧ (k = 0 → mJ σ2 o 0 = b.toInt64)
