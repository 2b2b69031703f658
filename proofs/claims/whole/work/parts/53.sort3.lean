/-! the shape with some lots more; with the same ones -/
section S5
variable {φ : Nat → Nat} {T : Nat → Nat × Nat} {I : Nat → Nat → Int32} {R : Nat → Nat → Option Nat} {τ : Mem} {e0 nS nL cS cL n z : Nat} {mx : Nat → Int32} {cB : Nat → Nat} {bl : Nat → List (Nat × Int32)}
variable {φ' : Nat → Nat} {T' : Nat → Nat × Nat} {I' : Nat → Nat → Int32} {R' : Nat → Nat → Option Nat} {c' : Nat}
theorem SM.addM {m : Nat} (hm : SM φ T I R e0 nS nL cS cL mx cB bl) (hn : nL + m ≤ 16) (n0 : 0 < nL) (fP : ∀ v, v < 10 * nL + 150 → v ≠ 134 → φ' v = φ v) (fT : ∀ v, v < 10 * nL + 150 → v ≠ 134 → T' v = T v) (fR : ∀ v, v < 10 * nL + 150 → v ≠ 134 → v ≠ 126 → R' v = R v) (fI : ∀ v, v < 10 * nL + 150 → v = 125 ∨ (∃ i k, i < nL ∧ 3 ≤ k ∧ k < 9 ∧ v = 10 * i + 150 + k) → I' v = I v)
    (c1 : nL + m ≤ c') (c2 : c' ≤ 22) (a13 : I' 126 2 = Int32.ofNat (nL + m)) (a15 : R' 126 1 = some (φ' 134)) (a17 : T' 134 = (106, c')) (a28' : ∀ k, k < nL → R' 134 k = R 134 k) (aN : ∀ i, nL ≤ i → i < nL + m → R' 134 i = some (φ' (10 * i + 150)) ∧ T' (10 * i + 150) = (8, 0) ∧ R' (10 * i + 150) 1 = some (φ' (10 * i + 151)) ∧ T' (10 * i + 151) = (100, 4) ∧ R' (10 * i + 150) 12 = none ∧ R' (10 * i + 150) 14 = some (φ' (10 * i + 153)) ∧ T' (10 * i + 153) = (2, 0) ∧ I' (10 * i + 153) 2 = 0 ∧ R' (10 * i + 153) 1 = some e0) (a44 : ∀ k, nL + m ≤ k → k < c' → R' 134 k = none) :
    SM φ' T' I' R' e0 nS (nL + m) cS c' (fun k => if k < nL then mx k else 0) (fun k => if k < nL then cB k else 0) (fun k => if k < nL then bl k else []) := by
  obtain ⟨hm0, hm1, hm2, hm3, hm4, hm5, hm6, hm7, hm8, hm9, hm10, hm11, hm12, hm13, hm14, hm15, hm16, hm17, hm18, hm19, hm20, hm21, hm22, hm23, hm24, hm25, hm26, hm27, hm28, hm29, hm30, hm31, hm32, hm33, hm34, hm35, hm36, hm37, hm38, hm39, hm40, hm41, hm42, hm43, hm44⟩ := hm
  unfold SM
  refine ⟨?_, ?_, ?_, ?_, ?_, ?_, ?_, ?_, ?_, ?_, ?_, ?_, ?_, ?_, ?_, ?_, ?_, ?_, ?_, ?_, ?_, ?_, ?_, ?_, ?_, ?_, ?_, ?_, ?_, ?_, ?_, ?_, ?_, ?_, ?_, ?_, ?_, ?_, ?_, ?_, ?_, ?_, ?_, ?_, ?_⟩
  · (try simp (disch := omega) only [fP, fT, fR, fI]); exact hm0
  · (try simp (disch := omega) only [fP, fT, fR, fI]); exact hm1
  · (try simp (disch := omega) only [fP, fT, fR, fI]); exact hm2
  · (try simp (disch := omega) only [fP, fT, fR, fI]); exact hm3
  · (try simp (disch := omega) only [fP, fT, fR, fI]); exact hm4
  · (try simp (disch := omega) only [fP, fT, fR, fI]); exact hm5
  · (try simp (disch := omega) only [fP, fT, fR, fI]); exact hm6
  · (try simp (disch := omega) only [fP, fT, fR, fI]); exact hm7
  · (try simp (disch := omega) only [fP, fT, fR, fI]); exact hm8
  · (try simp (disch := omega) only [fP, fT, fR, fI]); exact hm9
  · intro i hi; (try simp (disch := omega) only [fP, fT, fR, fI]); exact hm10 i hi
  · intro i hi; (try simp (disch := omega) only [fP, fT, fR, fI]); exact hm11 i hi
  · rw [fI 125 (by omega) (Or.inl rfl)]; exact hm12
  · exact a13
  · (try simp (disch := omega) only [fP, fT, fR, fI]); exact hm14
  · rw [if_neg (by omega)]; exact a15
  · intro hi; (try simp (disch := omega) only [fP, fT, fR, fI]); exact hm16 hi
  · intro _; exact a17
  · exact hm18
  · exact hm19
  · omega
  · omega
  · exact hm22
  · omega
  · intro i hi; (try simp (disch := omega) only [fP, fT, fR, fI]); exact hm24 i hi
  · intro i hi; (try simp (disch := omega) only [fP, fT, fR, fI]); exact hm25 i hi
  · intro i hi; (try simp (disch := omega) only [fP, fT, fR, fI]); exact hm26 i hi
  · intro i hi; (try simp (disch := omega) only [fP, fT, fR, fI]); exact hm27 i hi
  · intro i hi
    by_cases hi' : i < nL
    · rw [a28' i hi', fP (10 * i + 150) (by omega) (by omega)]; exact hm28 i hi'
    · exact (aN i (by omega) hi).1
  · intro i hi
    by_cases hi' : i < nL
    · simp (disch := omega) only [fP, fT, fR, fI]; exact hm29 i hi'
    · exact (aN i (by omega) hi).2.1
  · intro i hi
    by_cases hi' : i < nL
    · simp (disch := omega) only [fP, fT, fR, fI]; exact hm30 i hi'
    · exact (aN i (by omega) hi).2.2.1
  · intro i hi
    by_cases hi' : i < nL
    · simp (disch := omega) only [fP, fT, fR, fI]; exact hm31 i hi'
    · exact (aN i (by omega) hi).2.2.2.1
  · intro i hi
    by_cases hi' : i < nL
    · simp (disch := omega) only [if_pos hi', fP, fT, fR, fI]; exact hm32 i hi'
    · simp only [if_neg hi', if_true]; exact (aN i (by omega) hi).2.2.2.2.1
  · intro i hi
    by_cases hi' : i < nL
    · simp (disch := omega) only [if_pos hi', fP, fT, fR, fI]; exact hm33 i hi'
    · simp only [if_neg hi']; exact fun q => absurd rfl q
  · intro i hi
    by_cases hi' : i < nL
    · simp (disch := omega) only [fP, fT, fR, fI]; exact hm34 i hi'
    · exact (aN i (by omega) hi).2.2.2.2.2.1
  · intro i hi
    by_cases hi' : i < nL
    · simp (disch := omega) only [fP, fT, fR, fI]; exact hm35 i hi'
    · exact (aN i (by omega) hi).2.2.2.2.2.2.1
  · intro i hi
    by_cases hi' : i < nL
    · simp only [if_pos hi']; rw [fI (10 * i + 153) (by omega) (Or.inr ⟨i, 3, hi', by omega, by omega, rfl⟩)]; exact hm36 i hi'
    · simp only [if_neg hi']; exact (aN i (by omega) hi).2.2.2.2.2.2.2.1
  · intro i hi
    by_cases hi' : i < nL
    · simp (disch := omega) only [if_pos hi', fP, fT, fR, fI]; exact hm37 i hi'
    · simp only [if_neg hi', if_true]; exact (aN i (by omega) hi).2.2.2.2.2.2.2.2
  · intro i hi
    by_cases hi' : i < nL
    · simp (disch := omega) only [if_pos hi', fP, fT, fR, fI]; exact hm38 i hi'
    · simp only [if_neg hi']; exact fun q => absurd rfl q
  · intro i hi
    by_cases hi' : i < nL
    · simp only [if_pos hi']; exact hm39 i hi'
    · simp only [if_neg hi']; exact Nat.le_refl _
  · intro i hi k b hb
    by_cases hi' : i < nL
    · simp only [if_pos hi'] at hb
      have hb4 := (hm40 i hi' k b hb).1
      rw [fP (10 * i + 155 + b.1) (by omega) (by omega), fT (10 * i + 155 + b.1) (by omega) (by omega), fR (10 * i + 154) (by omega) (by omega) (by omega), fI (10 * i + 155 + b.1) (by omega) (Or.inr ⟨i, 5 + b.1, hi', by omega, by omega, by omega⟩)]
      exact hm40 i hi' k b hb
    · simp only [if_neg hi'] at hb; simp at hb
  · (try simp (disch := omega) only [fP, fT, fR, fI]); exact hm41
  · (try simp (disch := omega) only [fP, fT, fR, fI]); exact hm42
  · intro i hi
    by_cases hi' : i < nL
    · simp only [if_pos hi']; exact hm43 i hi'
    · simp only [if_neg hi']; exact Nat.zero_le _
  · exact a44
theorem SM.same (hm : SM φ T I R e0 nS nL cS cL mx cB bl) (fP : ∀ v, v < 10 * nL + 150 → φ' v = φ v) (fT : ∀ v, v < 10 * nL + 150 → T' v = T v) (fR : ∀ v, v < 10 * nL + 150 → R' v = R v) (fI : ∀ v, v < 10 * nL + 150 → 125 ≤ v → I' v = I v) : SM φ' T' I' R' e0 nS nL cS cL mx cB bl := by
  obtain ⟨hm0, hm1, hm2, hm3, hm4, hm5, hm6, hm7, hm8, hm9, hm10, hm11, hm12, hm13, hm14, hm15, hm16, hm17, hm18, hm19, hm20, hm21, hm22, hm23, hm24, hm25, hm26, hm27, hm28, hm29, hm30, hm31, hm32, hm33, hm34, hm35, hm36, hm37, hm38, hm39, hm40, hm41, hm42, hm43, hm44⟩ := hm
  unfold SM
  refine ⟨?_, ?_, ?_, ?_, ?_, ?_, ?_, ?_, ?_, ?_, ?_, ?_, ?_, ?_, ?_, ?_, ?_, ?_, ?_, ?_, ?_, ?_, ?_, ?_, ?_, ?_, ?_, ?_, ?_, ?_, ?_, ?_, ?_, ?_, ?_, ?_, ?_, ?_, ?_, ?_, ?_, ?_, ?_, ?_, ?_⟩
  · simp (disch := omega) only [fP, fT, fR, fI]; exact hm0
  · simp (disch := omega) only [fP, fT, fR, fI]; exact hm1
  · simp (disch := omega) only [fP, fT, fR, fI]; exact hm2
  · simp (disch := omega) only [fP, fT, fR, fI]; exact hm3
  · simp (disch := omega) only [fP, fT, fR, fI]; exact hm4
  · simp (disch := omega) only [fP, fT, fR, fI]; exact hm5
  · simp (disch := omega) only [fP, fT, fR, fI]; exact hm6
  · simp (disch := omega) only [fP, fT, fR, fI]; exact hm7
  · simp (disch := omega) only [fP, fT, fR, fI]; exact hm8
  · simp (disch := omega) only [fP, fT, fR, fI]; exact hm9
  · intro i hi; simp (disch := omega) only [fP, fT, fR, fI]; exact hm10 i hi
  · intro i hi; simp (disch := omega) only [fP, fT, fR, fI]; exact hm11 i hi
  · simp (disch := omega) only [fP, fT, fR, fI]; exact hm12
  · simp (disch := omega) only [fP, fT, fR, fI]; exact hm13
  · simp (disch := omega) only [fP, fT, fR, fI]; exact hm14
  · simp (disch := omega) only [fP, fT, fR, fI]; exact hm15
  · intro hi; simp (disch := omega) only [fP, fT, fR, fI]; exact hm16 hi
  · intro hi; simp (disch := omega) only [fP, fT, fR, fI]; exact hm17 hi
  · exact hm18
  · exact hm19
  · exact hm20
  · exact hm21
  · exact hm22
  · exact hm23
  · intro i hi; simp (disch := omega) only [fP, fT, fR, fI]; exact hm24 i hi
  · intro i hi; simp (disch := omega) only [fP, fT, fR, fI]; exact hm25 i hi
  · intro i hi; simp (disch := omega) only [fP, fT, fR, fI]; exact hm26 i hi
  · intro i hi; simp (disch := omega) only [fP, fT, fR, fI]; exact hm27 i hi
  · intro i hi; simp (disch := omega) only [fP, fT, fR, fI]; exact hm28 i hi
  · intro i hi; simp (disch := omega) only [fP, fT, fR, fI]; exact hm29 i hi
  · intro i hi; simp (disch := omega) only [fP, fT, fR, fI]; exact hm30 i hi
  · intro i hi; simp (disch := omega) only [fP, fT, fR, fI]; exact hm31 i hi
  · intro i hi; simp (disch := omega) only [fP, fT, fR, fI]; exact hm32 i hi
  · intro i hi; simp (disch := omega) only [fP, fT, fR, fI]; exact hm33 i hi
  · intro i hi; simp (disch := omega) only [fP, fT, fR, fI]; exact hm34 i hi
  · intro i hi; simp (disch := omega) only [fP, fT, fR, fI]; exact hm35 i hi
  · intro i hi; simp (disch := omega) only [fP, fT, fR, fI]; exact hm36 i hi
  · intro i hi; simp (disch := omega) only [fP, fT, fR, fI]; exact hm37 i hi
  · intro i hi; simp (disch := omega) only [fP, fT, fR, fI]; exact hm38 i hi
  · intro i hi; exact hm39 i hi
  · intro i hi k b hb; have hb4 := (hm40 i hi k b hb).1; simp (disch := omega) only [fP, fT, fR, fI]; exact hm40 i hi k b hb
  · simp (disch := omega) only [fP, fT, fR, fI]; exact hm41
  · simp (disch := omega) only [fP, fT, fR, fI]; exact hm42
  · intro i hi; exact hm43 i hi
  · intro i h1 h2; simp (disch := omega) only [fP, fT, fR, fI]; exact hm44 i h1 h2
end S5

/-! SORT: bounds, both runs -/
section S6
variable {φ : Nat → Nat} {T : Nat → Nat × Nat} {I : Nat → Nat → Int32} {R : Nat → Nat → Option Nat} {τ : Mem} {e0 nS nL cS cL n z : Nat} {mx : Nat → Int32} {cB : Nat → Nat} {bl : Nat → List (Nat × Int32)}
variable {mi a b w q g k i j t c : Nat} {J J' JX : Nat → Nat → Int32} {p r d : Int32} {x y u : Nat → Int32} {τ1 : Mem} {f : Nat → Int32}
theorem bq_b {v : Int32} (h : 0 ≤ v.toInt) : 0 ≤ (bq v).toInt ∧ (bq v).toInt ≤ 10 := by
  have z : (10 : Int32).toInt = 10 := rfl
  unfold bq
  by_cases c : v < 10
  · rw [if_pos c]; have := ltT c; omega
  · rw [if_neg c]; omega
theorem divP {v : Int32} {z : Int} (c : Int32) (hz : c.toInt = z) (h0 : 0 < z) (h1 : 0 ≤ v.toInt) : (v / c).toInt = v.toInt / z := by
  have h2 := Int32.toInt_lt v
  rw [Int32.toInt_div, hz, Int.tdiv_eq_ediv_of_nonneg h1]
  have h3 : 0 ≤ v.toInt / z := Int.ediv_nonneg h1 (by omega)
  have h4 : v.toInt / z ≤ v.toInt := Int.ediv_le_self z h1
  rw [Int.bmod_eq_of_le (by omega) (by omega)]
theorem sh_b {b w : Int32} (hb : 0 ≤ b.toInt ∧ b.toInt ≤ 10) (hw : 0 ≤ w.toInt ∧ w.toInt ≤ 5760) : (∀ g, g < 3 → 0 ≤ (shV b w g).toInt ∧ (shV b w g).toInt ≤ w.toInt) ∧ (shV b w 0).toInt + (shV b w 1).toInt + (shV b w 2).toInt = w.toInt := by
  have m1 : 0 ≤ w.toInt * b.toInt := Int.mul_nonneg hw.1 hb.1
  have m2 : w.toInt * b.toInt ≤ w.toInt * 10 := Int.mul_le_mul_of_nonneg_left hb.2 hw.1
  have e0 : (w * b).toInt = w.toInt * b.toInt := tMul (by omega) (by omega)
  have e4 : (w * b / 40).toInt = w.toInt * b.toInt / 40 := by rw [divP (z := 40) 40 rfl (by decide) (by omega), e0]
  have e2 : (w * b / 20).toInt = w.toInt * b.toInt / 20 := by rw [divP (z := 20) 20 rfl (by decide) (by omega), e0]
  obtain ⟨P, hP⟩ : ∃ P, P = w.toInt * b.toInt := ⟨_, rfl⟩
  rw [← hP] at m1 m2 e4 e2
  have s2 : (shV b w 2).toInt = P / 40 := e4
  have s1 : (shV b w 1).toInt = P / 20 := e2
  have s0 : (shV b w 0).toInt = w.toInt - P / 20 - P / 40 := by
    show (w - w * b / 20 - w * b / 40).toInt = _
    have e5 : (w - w * b / 20).toInt = w.toInt - P / 20 := by rw [tSub (by omega) (by omega), e2]
    rw [tSub (by omega) (by omega), e5, e4]
  refine ⟨fun g hg => ?_, by omega⟩
  rcases lt3 hg with rfl | rfl | rfl <;> omega
theorem dG_b {b : Int32} (hb : 0 ≤ b.toInt ∧ b.toInt ≤ 10) (h0 : 0 ≤ (u 0).toInt) (h1 : 0 ≤ (u 1).toInt) (h2 : 0 ≤ (u 2).toInt) (h3 : 0 ≤ (u 3).toInt) (hs : (u 0).toInt + (u 1).toInt + (u 2).toInt + (u 3).toInt ≤ 5760) : (∀ g, g < 3 → (dG b u g).toInt = (shV b (u 0) g).toInt + (shV b (u 1) g).toInt + (shV b (u 2) g).toInt + (shV b (u 3) g).toInt ∧ 0 ≤ (shV b (u 0) g).toInt ∧ 0 ≤ (shV b (u 1) g).toInt ∧ 0 ≤ (shV b (u 2) g).toInt ∧ 0 ≤ (shV b (u 3) g).toInt) ∧ (dG b u 0).toInt + (dG b u 1).toInt + (dG b u 2).toInt = (u 0).toInt + (u 1).toInt + (u 2).toInt + (u 3).toInt := by
  obtain ⟨a0, b0⟩ := sh_b (w := u 0) hb ⟨h0, by omega⟩
  obtain ⟨a1, b1⟩ := sh_b (w := u 1) hb ⟨h1, by omega⟩
  obtain ⟨a2, b2⟩ := sh_b (w := u 2) hb ⟨h2, by omega⟩
  obtain ⟨a3, b3⟩ := sh_b (w := u 3) hb ⟨h3, by omega⟩
  have key : ∀ g, g < 3 → (dG b u g).toInt = (shV b (u 0) g).toInt + (shV b (u 1) g).toInt + (shV b (u 2) g).toInt + (shV b (u 3) g).toInt ∧ 0 ≤ (shV b (u 0) g).toInt ∧ 0 ≤ (shV b (u 1) g).toInt ∧ 0 ≤ (shV b (u 2) g).toInt ∧ 0 ≤ (shV b (u 3) g).toInt := by
    intro g hg
    have y0 := a0 g hg
    have y1 := a1 g hg
    have y2 := a2 g hg
    have y3 := a3 g hg
    have e1 : (shV b (u 0) g + shV b (u 1) g).toInt = (shV b (u 0) g).toInt + (shV b (u 1) g).toInt := tAdd (by omega) (by omega)
    have e2 : (shV b (u 0) g + shV b (u 1) g + shV b (u 2) g).toInt = (shV b (u 0) g).toInt + (shV b (u 1) g).toInt + (shV b (u 2) g).toInt := by rw [tAdd (by omega) (by omega), e1]
    refine ⟨?_, y0.1, y1.1, y2.1, y3.1⟩
    unfold dG
    rw [tAdd (by omega) (by omega), e2]
  refine ⟨key, ?_⟩
  have k0 := (key 0 (by decide)).1
  have k1 := (key 1 (by decide)).1
  have k2 := (key 2 (by decide)).1
  omega
abbrev sortOK (I : Nat → Nat → Int32) (i : Nat) : Prop := (I (6 * i + 19) 0 = 2 ∧ I (6 * i + 22) 0 ≤ 0) ∧ I (6 * i + 19) 9 = -1 ∧ I (6 * i + 19) 12 = 0
theorem x_sortG (h : Cx φ T I R (mZ τ) e0 nS nL cS cL mx cB bl n) (hp : InN p nL) (hi : p.toNatClampNeg = i) (iL : i < nL) (hc : sortOK I i) : f_X4_sort (φ 0) p (pt φ T I R τ) = if 16 < nL + cN (dgF I i) 3 then b_X4_sort_81 (φ 0) (some (φ (6 * i + 19))) (Int32.ofNat (cN (dgF I i) 3)) 0 (pt φ T I R τ) else b_X4_sort_81 (φ 0) (some (φ (6 * i + 19))) (Int32.ofNat (cN (dgF I i) 3)) 1 (pt φ T I R τ) := by
  have hj := h.hj
  have hN := h.m.2.2.2.2.1
  have hx0 := h.m.2.2.2.2.2.2.2
  obtain ⟨⟨c1, c2⟩, c3, c4⟩ := hc
  have t4 := h.t4 (show i < 17 by omega)
  have XF : f_X1_isFreeMade (φ (6 * i + 19)) (pt φ T I R τ) = some (1, pt φ T I R τ) := by
    rcases x_free (τ := τ) h (show i < 17 by omega) with ⟨-, -, y⟩ | ⟨y, -⟩
    · exact y
    · exact absurd ⟨c1, c2⟩ y
  have C := x_sortC h iL 3 0 40 (by omega) (by omega)
  rw [f_X4_sort, b_X4_sort_0, ob_pt hj (by rw [hx0]), x_lotAt h hp hi, cx1_s, ob_pt hj (by rw [t4]), XF, cl1_s, if_neg (by decide), gI_pt hj (by rw [t4]), if_pos c3, gI_pt hj (by rw [t4]), if_pos c4, b_X4_sort_33, x_st1, cx1_s]
  exact C
theorem x_sortN (h : Cx φ T I R (mZ τ) e0 nS nL cS cL mx cB bl n) (hp : InN p nL) (hi : p.toNatClampNeg = i) (iL : i < nL) (hc : ¬ sortOK I i) : f_X4_sort (φ 0) p (pt φ T I R τ) = some (.inr 2, pt φ T I R (sB τ)) := by
  have hj := h.hj
  have hN := h.m.2.2.2.2.1
  have hx0 := h.m.2.2.2.2.2.2.2
  have t4 := h.t4 (show i < 17 by omega)
  have BAD : b_X4_sort_32 (φ 0) (some (φ (6 * i + 19))) (pt φ T I R τ) = some (.inr 2, pt φ T I R (sB τ)) := by
    rw [b_X4_sort_32, b_X4_sort_33, x_st0, cx1_x, sB_pt]; rfl
  rw [f_X4_sort, b_X4_sort_0, ob_pt hj (by rw [hx0]), x_lotAt h hp hi, cx1_s, ob_pt hj (by rw [t4])]
  rcases x_free (τ := τ) h (show i < 17 by omega) with ⟨f1, f2, f3⟩ | ⟨f1, f3⟩
  · rw [f3, cl1_s, if_neg (by decide), gI_pt hj (by rw [t4])]
    by_cases c3 : I (6 * i + 19) 9 = -1
    · rw [if_pos c3, gI_pt hj (by rw [t4])]
      by_cases c4 : I (6 * i + 19) 12 = 0
      · exact absurd ⟨⟨f1, f2⟩, c3, c4⟩ hc
      · rw [if_neg c4]; exact BAD
    · rw [if_neg c3]; exact BAD
  · rw [f3, cl1_s, if_pos rfl]; exact BAD
theorem m_refJ0 (hj : Inj φ T) (h : T 124 = (11, 0)) (h0 : J 124 0 = 0) (w : Int32) : f_X8_refuse (φ 124) 0 w (pt φ T J R τ) = some (0, pt φ T J R τ) := by
  simp (config := {decide := true}) only [b_X8_refuse_28, b_X8_refuse_16, b_X8_refuse_0, f_X8_refuse, gI_pt hj, gR_pt hj, ob_pt hj, ck_pt hj, pI_pt hj, pB_pt hj, pR_pt hj, aI_pt hj, aR_pt hj, wI_pt hj, wJ_pt hj, aL_pt hj, cl1_s, cl1_n, cl1_i, cx1_s, cx1_x, cx1_n, cx1_i, nul_n, nul_s, nm, dv2, dv3, dv4, dv5, dv8, dv10, dv20, dv40, thr, bo, mI_pt hj, mT_pt hj, sB_pt, mZ_pt, mJ_pt, mJ_sJ, mZ_sJ, tn0, tn1, tn2, tn3, tn4, tn5, tn6, h, h0, ii0, ii1, ii2, ii3, ii4, if_true, if_false, ne_eq, not_false_eq_true, not_true_eq_false, true_and, and_true, false_and, and_false, and_self, true_or, or_true, false_or, or_false, or_self, Nat.reduceAdd, Nat.reduceLT, Nat.reduceLeDiff, Nat.succ_ne_zero, reduceIte, reduceCtorEq]
theorem m_refJ1 (hj : Inj φ T) (h : T 124 = (11, 0)) (h0 : J 124 0 = 0) {w : Int32} (hw : ¬ w ≤ 0) : f_X8_refuse (φ 124) 1 w (pt φ T J R τ) = some (1, pt φ T (up2 J 124 0 w) R τ) := by
  simp (config := {decide := true}) only [b_X8_refuse_28, b_X8_refuse_16, b_X8_refuse_0, f_X8_refuse, gI_pt hj, gR_pt hj, ob_pt hj, ck_pt hj, pI_pt hj, pB_pt hj, pR_pt hj, aI_pt hj, aR_pt hj, wI_pt hj, wJ_pt hj, aL_pt hj, cl1_s, cl1_n, cl1_i, cx1_s, cx1_x, cx1_n, cx1_i, nul_n, nul_s, nm, dv2, dv3, dv4, dv5, dv8, dv10, dv20, dv40, thr, bo, mI_pt hj, mT_pt hj, sB_pt, mZ_pt, mJ_pt, mJ_sJ, mZ_sJ, tn0, tn1, tn2, tn3, tn4, tn5, tn6, h, h0, up2_at, hw, ii0, ii1, ii2, ii3, ii4, if_true, if_false, ne_eq, not_false_eq_true, not_true_eq_false, true_and, and_true, false_and, and_false, and_self, true_or, or_true, false_or, or_false, or_self, Nat.reduceAdd, Nat.reduceLT, Nat.reduceLeDiff, Nat.succ_ne_zero, reduceIte, reduceCtorEq]
theorem m_sortN (h : Cx φ T I R (mZ τ) e0 nS nL cS cL mx cB bl n) (hp : InN p nL) (hi : p.toNatClampNeg = i) (iL : i < nL) (hc : ¬ sortOK I i) (hz : mZ τ ≤ mZ τ1) : f_X8_sort e0 mi (φ 124) p (pt φ T I R τ1) = some (0, pt φ T (up2 I 124 0 2) R τ1) := by
  have hj := h.hj
  have h0 := h.m.1
  have h6 := h.m.2.2.1
  have h7 := h.m.2.2.2.1
  have t8 := h.t8 iL
  have h1 : Cx φ T I R (mZ τ1) e0 nS nL cS cL mx cB bl n := h.up hz
  have J6 : up2 I 124 0 0 126 = I 126 := up2_row (by omega)
  have Jq : up2 I 124 0 0 (10 * i + 150) = I (10 * i + 150) := up2_row (by omega)
  have G := m_getJ (J := up2 I 124 0 0) (τ := τ1) h J6 hp hi
  obtain ⟨⟨E0, E2, E3, E4, E5, E6, E7, E8, E9, E10, E11, E12, E13⟩, -⟩ := h.lr iL
  have R12 : R (10 * i + 150) 12 = if mx i = 0 then none else some (φ (10 * i + 152)) := by
    obtain ⟨hj, hl, hx, hm, hr⟩ := h; obtain ⟨hx0, hx1, hx2, hx3, hx4, hx5, hx6, hx7, hx8, hx9, hx10, hx11, hx12, hx13, hx14, hx15, hx16, hx17, hx18, hx19, hx20, hx21, hx22, hx23, hx24, hx25, hx26, hx27⟩ := hx; obtain ⟨hm0, hm1, hm2, hm3, hm4, hm5, hm6, hm7, hm8, hm9, hm10, hm11, hm12, hm13, hm14, hm15, hm16, hm17, hm18, hm19, hm20, hm21, hm22, hm23, hm24, hm25, hm26, hm27, hm28, hm29, hm30, hm31, hm32, hm33, hm34, hm35, hm36, hm37, hm38, hm39, hm40, hm41, hm42, hm43, hm44⟩ := hm; obtain ⟨⟨⟨g1, g2⟩, ⟨g3, g4, g5, g6, g7⟩, g8, g9, g10⟩, r1, r2, r3, r4, r5, r6⟩ := hr
    exact hm32 i iL
  have BAD : b_X8_sort_58 e0 mi (φ 124) (some (φ (10 * i + 150))) (some (φ 124)) (pt φ T (up2 I 124 0 0) R τ1) = some (0, pt φ T (up2 I 124 0 2) R τ1) := by
    rw [b_X8_sort_58, b_X8_sort_63, ob_pt hj (by rw [h0]), m_ref1 hj h0 (show ¬ (2 : Int32) ≤ 0 by decide), cl1_s, if_neg (by decide)]
  have ISO := m_isOff (I := up2 I 124 0 0) (R := R) (τ := τ1) hj t8
  rw [Jq] at ISO
  rw [f_X8_sort, b_X8_sort_0, ob_pt hj (by rw [h0]), m_noLot h1 hp, cl1_s, ob_pt hj (by rw [h0]), m_start0 hj h0, cl1_s, if_pos rfl, gR_pt hj (by rw [h0]), h7, ob_pt hj (by rw [h6]), G, cl1_s, ck_pt hj (by rw [t8]) (by decide), gI_pt hj (by rw [t8]), Jq, ← E0]
  by_cases c1 : I (6 * i + 19) 0 = 2
  · rw [if_pos c1, gI_pt hj (by rw [t8]), Jq, ← E9]
    by_cases c3 : I (6 * i + 19) 9 = -1
    · rw [if_pos c3, gR_pt hj (by rw [t8]), R12, ← E12]
      by_cases c4 : I (6 * i + 19) 12 = 0
      · rw [if_pos c4, nul_n, ob_pt hj (by rw [t8]), ISO, cl1_s, ← E13]
        by_cases c2 : I (6 * i + 22) 0 ≤ 0
        · exact absurd ⟨⟨c1, c2⟩, c3, c4⟩ hc
        · rw [if_neg c2, if_neg (by decide)]; exact BAD
      · rw [if_neg c4, nul_s]; exact BAD
    · rw [if_neg c3]; exact BAD
  · rw [if_neg c1]; exact BAD
theorem dgF_eq (h : Cx φ T I R z e0 nS nL cS cL mx cB bl n) (iL : i < nL) (hJ : ∀ v, 125 ≤ v → J v = I v) (g : Nat) : dgF I i g = dG (bq (J (10 * i + 150) 5)) (J (10 * i + 151)) g := by
  obtain ⟨⟨E0, E2, E3, E4, E5, -⟩, ⟨u0, u1, u2, u3⟩, -⟩ := h.lr iL
  rw [hJ _ (by omega), hJ _ (by omega), dgF, E5]
  exact dG_congr (fun k hk => by
    rcases (show k = 0 ∨ k = 1 ∨ k = 2 ∨ k = 3 by omega) with rfl | rfl | rfl | rfl <;> assumption)
theorem m_sortG (h : Cx φ T I R (mZ τ) e0 nS nL cS cL mx cB bl n) (hJ : ∀ v, 125 ≤ v → JX v = I v) (hz : mZ τ ≤ mZ τ1) (hp : InN p nL) (hi : p.toNatClampNeg = i) (iL : i < nL) (hc : sortOK I i) : ∃ φ2 T2 J2 R2 τ2 c2, f_X8_sort e0 mi (φ 124) p (pt φ T JX R τ1) = (if nL + cN (dgF I i) 3 ≤ 16 then b_X8_sort_100 e0 mi (φ2 124) (some (φ2 (10 * i + 150))) (some (φ2 400)) 0 (some (φ2 124)) (pt φ2 T2 J2 R2 τ2) else b_X8_sort_100 e0 mi (φ2 124) (some (φ2 (10 * i + 150))) (some (φ2 400)) 1 (some (φ2 124)) (pt φ2 T2 J2 R2 τ2)) ∧ Inj φ2 T2 ∧ live T2 φ2 (mZ τ2) ∧ MI e0 φ φ2 T T2 (up2 JX 124 0 0) J2 R R2 i nL (dgF I i) 3 c2 ∧ KJ τ1 τ2 := by
  have hj := h.hj
  have hN := h.m.2.2.2.2.1
  have h0 := h.m.1
  have h2 := h.m.2.1
  have h6 := h.m.2.2.1
  have h7 := h.m.2.2.2.1
  have t8 := h.t8 iL
  have hl1 : live T φ (mZ τ1) := fun v hv => Nat.lt_of_lt_of_le (h.hl v hv) hz
  obtain ⟨⟨c1, c2⟩, c3, c4⟩ := hc
  have JJ : ∀ v, 125 ≤ v → up2 JX 124 0 0 v = I v := fun v hv => by rw [up2_row (by omega), hJ v hv]
  have Jq : up2 JX 124 0 0 (10 * i + 150) = I (10 * i + 150) := JJ _ (by omega)
  have G := m_getJ (J := up2 JX 124 0 0) (τ := τ1) h (JJ 126 (by omega)) hp hi
  obtain ⟨⟨E0, E2, E3, E4, E5, E6, E7, E8, E9, E10, E11, E12, E13⟩, -, -, -, ⟨b10, b11, -⟩, -⟩ := h.lr iL
  obtain ⟨R12, R1, T1, m41, m42⟩ : (R (10 * i + 150) 12 = if mx i = 0 then none else some (φ (10 * i + 152))) ∧ R (10 * i + 150) 1 = some (φ (10 * i + 151)) ∧ T (10 * i + 151) = (100, 4) ∧ T 123 = (300, 0) ∧ φ 123 = e0 := by
    obtain ⟨hj, hl, hx, hm, hr⟩ := h; obtain ⟨hx0, hx1, hx2, hx3, hx4, hx5, hx6, hx7, hx8, hx9, hx10, hx11, hx12, hx13, hx14, hx15, hx16, hx17, hx18, hx19, hx20, hx21, hx22, hx23, hx24, hx25, hx26, hx27⟩ := hx; obtain ⟨hm0, hm1, hm2, hm3, hm4, hm5, hm6, hm7, hm8, hm9, hm10, hm11, hm12, hm13, hm14, hm15, hm16, hm17, hm18, hm19, hm20, hm21, hm22, hm23, hm24, hm25, hm26, hm27, hm28, hm29, hm30, hm31, hm32, hm33, hm34, hm35, hm36, hm37, hm38, hm39, hm40, hm41, hm42, hm43, hm44⟩ := hm; obtain ⟨⟨⟨g1, g2⟩, ⟨g3, g4, g5, g6, g7⟩, g8, g9, g10⟩, r1, r2, r3, r4, r5, r6⟩ := hr
    exact ⟨hm32 i iL, hm30 i iL, hm31 i iL, hm41, hm42⟩
  have ISO := m_isOff (I := up2 JX 124 0 0) (R := R) (τ := τ1) hj t8
  rw [Jq, ← E13, if_pos c2] at ISO
  obtain ⟨φ2, T2, J2, R2, τ2, d2, e1, e2, e3, e4, e5⟩ := m_graded (e0 := e0) (mi := mi) (f := dgF I i) (J := up2 JX 124 0 0) (R := R) (τ := τ1) hj hl1 hN iL t8 R1 T1 (by rw [Jq, ← E10]; exact b10) (by rw [Jq, ← E11]; exact b11) m41 m42 (dgF_eq h iL JJ)
  refine ⟨φ2, T2, J2, R2, τ2, d2, ?_, e2, e3, e4, e5⟩
  obtain ⟨V, L1, L2, -⟩ := e4
  obtain ⟨p1, p2, p3, p4⟩ := V 124 (by omega)
  obtain ⟨q1, q2, q3, q4⟩ := V 126 (by omega)
  obtain ⟨r1, r2, r3, r4⟩ := V (10 * i + 150) (by omega)
  have tt0 : (T2 124).1 = 10 + 1 := by rw [p2, h0]
  have tt6 : (T2 126).1 = 1 + 1 := by rw [q2, h6]
  have tt4 : (T2 400).1 = 1 + 1 := by rw [L1]
  have s6 : J2 126 2 = Int32.ofNat nL := by rw [q3, JJ 126 (by omega)]; exact h2
  have c3' := cN_le (dgF I i) 3
  have NL : f_X8_isNoLot (φ 124) p (pt φ T JX R τ1) = some (0, pt φ T JX R τ1) := m_noLotJ h (hJ 126 (by omega)) hp
  rw [f_X8_sort, b_X8_sort_0, ob_pt hj (by rw [h0]), NL, cl1_s, ob_pt hj (by rw [h0]), m_start0 hj h0, cl1_s, if_pos rfl, gR_pt hj (by rw [h0]), h7, ob_pt hj (by rw [h6]), G, cl1_s, ck_pt hj (by rw [t8]) (by decide), gI_pt hj (by rw [t8]), Jq, ← E0, if_pos c1, gI_pt hj (by rw [t8]), Jq, ← E9, if_pos c3, gR_pt hj (by rw [t8]), R12, ← E12, if_pos c4, nul_n, ob_pt hj (by rw [t8]), ISO, cl1_s, if_pos rfl, b_X8_sort_63, ob_pt hj (by rw [h0]), m_ref0 hj h0, cl1_s, if_pos rfl, e1, cl1_s, ← p1, gR_pt e2 tt0, p4, h7, ← q1, ob_pt e2 tt6, f_Jx4a65c_size_8abf5, b_Jx4a65c_size_8abf5_0, gI_pt e2 tt6, s6, cl1_s, ob_pt e2 tt4, f_Jx4a65c_size_8abf5, b_Jx4a65c_size_8abf5_0, gI_pt e2 tt4, L2, cl1_s, nm, ← Int32.ofNat_add, ← r1]
  by_cases c : nL + cN (dgF I i) 3 ≤ 16
  · have cc : Int32.ofNat (nL + cN (dgF I i) 3) ≤ 16 := (kN_le (b := 16) (by omega) (by omega)).mpr c
    rw [if_pos c, if_pos cc]
  · have cc : ¬ Int32.ofNat (nL + cN (dgF I i) 3) ≤ 16 := fun y => c ((kN_le (b := 16) (by omega) (by omega)).mp y)
    rw [if_neg c, if_neg cc]
end S6
