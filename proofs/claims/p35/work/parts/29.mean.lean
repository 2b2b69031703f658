/-! MEANNOTES -/
section MNo
variable {φ : Nat → Nat} {T : Nat → Nat × Nat} {I J : Nat → Nat → Int32} {R : Nat → Nat → Option Nat} {τ : Mem} {nS nL n z : Nat}
variable {a b w q k i j t c : Nat} {p r d : Int32}
theorem fp_t : FP.Core.b64.tails = 4503599627370496 := by decide
theorem fp_e : FP.Core.b64.exps = 2048 := by decide
theorem fp_qm : FP.Core.b64.qmin = -1074 := by decide
theorem fp_qM : FP.Core.b64.qmax = 971 := by decide
theorem fp_fin (s : Bool) (c : Nat) (q : Int) (hc : c < 9007199254740992) (hq : q ≤ 971) : FP.Core.encode FP.Core.b64 (.fin s c q) % 2 ^ 63 ≤ 9218868437227405312 := by
  have hs : s.toNat = 0 ∨ s.toNat = 1 := by cases s <;> simp
  simp only [FP.Core.encode, FP.Core.assemble, fp_t, fp_e, fp_qm]
  split <;> rcases hs with hs | hs <;> rw [hs] <;> omega
theorem fp_inf (s : Bool) : FP.Core.encode FP.Core.b64 (.inf s) % 2 ^ 63 ≤ 9218868437227405312 := by
  cases s <;> decide
theorem fp_bound (s : Bool) (c : Nat) (q : Int) (hc : c < 9007199254740992) : FP.Core.encode FP.Core.b64 (FP.Core.bound FP.Core.b64 s c q) % 2 ^ 63 ≤ 9218868437227405312 := by
  unfold FP.Core.bound
  rw [fp_qM]
  by_cases h : q ≤ 971
  · rw [if_pos h]; exact fp_fin s c q hc h
  · rw [if_neg h]; exact fp_inf s
theorem fp_rr (s : Bool) (a b : Nat) (e : Int) : FP.Core.encode FP.Core.b64 (FP.Core.roundRatio FP.Core.b64 s a b e) % 2 ^ 63 ≤ 9218868437227405312 := by
  unfold FP.Core.roundRatio
  by_cases h : a = 0
  · rw [if_pos h, fp_qm]; exact fp_fin s 0 _ (by decide) (by decide)
  · rw [if_neg h]
    unfold FP.Core.roundAt
    generalize FP.Core.nearest _ _ = c
    generalize FP.Core.quantum _ _ _ _ = q
    unfold FP.Core.settle
    by_cases h2 : c < 2 ^ FP.Core.b64.p
    · rw [if_pos h2]; exact fp_bound s c q (by have : 2 ^ FP.Core.b64.p = 9007199254740992 := by decide
                                               omega)
    · rw [if_neg h2, fp_t]; exact fp_bound s _ _ (by decide)
theorem fp_mod (n : Nat) : (UInt64.ofNat n).toNat % 2 ^ 63 = n % 2 ^ 63 := by
  rw [UInt64.toNat_ofNat']
  show n % 2 ^ 64 % 2 ^ 63 = _
  omega

theorem fp_p : 2 ^ FP.Core.b64.p = 9007199254740992 := by decide
theorem fp_pp : (FP.Core.b64.p : Int) = 53 := by decide
/-- what fits comes back as it was -/
theorem fp_dec {c : Nat} {q : Int} (h1 : 4503599627370496 ≤ c) (h2 : c < 9007199254740992) (h3 : -1074 ≤ q) (h4 : q ≤ 900) : FP.Core.decode FP.Core.b64 (UInt64.ofNat (FP.Core.encode FP.Core.b64 (.fin false c q))).toNat = .fin false c q := by
  obtain ⟨e, he⟩ : ∃ e : Nat, (e : Int) = q + 1074 := ⟨(q + 1074).toNat, by omega⟩
  obtain ⟨t, rfl⟩ : ∃ t, c = 4503599627370496 + t := ⟨c - 4503599627370496, by omega⟩
  have hE : FP.Core.encode FP.Core.b64 (.fin false (4503599627370496 + t) q) = (e + 1) * 4503599627370496 + t := by
    simp only [FP.Core.encode, FP.Core.assemble, fp_t, fp_e, fp_qm]
    rw [if_neg (by omega), show (q - -1074).toNat = e by omega, show (false : Bool).toNat = 0 from rfl]
    omega
  rw [hE, UInt64.toNat_ofNat', Nat.mod_eq_of_lt (by omega)]
  have d1 : ((e + 1) * 4503599627370496 + t) / 4503599627370496 = e + 1 := by omega
  have d2 : ((e + 1) * 4503599627370496 + t) % 4503599627370496 = t := by omega
  unfold FP.Core.decode FP.Core.fieldE FP.Core.fieldT FP.Core.fieldS
  rw [fp_t, fp_e, fp_qm, d1, d2, if_neg (by omega), if_neg (by omega)]
  have s0 : ((e + 1) / 2048 % 2 == 1) = false := by rw [beq_eq_false_iff_ne]; omega
  rw [s0]
  congr 1
  omega
theorem fp_dz : FP.Core.decode FP.Core.b64 (UInt64.ofNat (FP.Core.encode FP.Core.b64 (.fin false 0 (-1074)))).toNat = .fin false 0 (-1074) := by decide
theorem fp_d0 : FP.Core.decode FP.Core.b64 (0 : UInt64).toNat = .fin false 0 (-1074) := by decide
theorem fp_d27 : FP.Core.decode FP.Core.b64 (4628293042053316608 : UInt64).toNat = .fin false 7599824371187712 (-48) := by decide
/-- rounding the quotient of two of 53 digits -/
theorem fp_near {n d K : Nat} (hd : 0 < d) (h : n ≤ K * d) : FP.Core.nearest n d ≤ K := by
  have e1 := Nat.div_add_mod n d
  have e2 := Nat.mod_lt n hd
  have e3 : n / d ≤ K := Nat.div_le_of_le_mul (by rw [Nat.mul_comm]; exact h)
  unfold FP.Core.nearest
  by_cases hK : n / d = K
  · have : n % d = 0 := by rw [hK, Nat.mul_comm d K] at e1; omega
    rw [this, if_pos (by omega)]; omega
  · split
    · omega
    · split
      · omega
      · omega
theorem fp_nearG {n d K : Nat} (hd : 0 < d) (h : K * d ≤ n) : K ≤ FP.Core.nearest n d := by
  have e3 : K ≤ n / d := (Nat.le_div_iff_mul_le hd).mpr h
  unfold FP.Core.nearest
  split
  · omega
  · split <;> omega
theorem fp_set {c : Nat} {q : Int} (h1 : 4503599627370496 ≤ c) (h2 : c ≤ 9007199254740992) (h4 : q ≤ 800) : (c < 9007199254740992 ∧ FP.Core.settle FP.Core.b64 false c q = .fin false c q) ∨ (c = 9007199254740992 ∧ FP.Core.settle FP.Core.b64 false c q = .fin false 4503599627370496 (q + 1)) := by
  unfold FP.Core.settle FP.Core.bound
  rw [fp_p, fp_t, fp_qM]
  by_cases h : c < 9007199254740992
  · exact Or.inl ⟨h, by rw [if_pos h, if_pos (by omega)]⟩
  · exact Or.inr ⟨by omega, by rw [if_neg h, if_pos (by omega)]⟩
/-- a small whole number is kept as it is -/
theorem fp_i2d {k l : Nat} (h1 : 2 ^ l ≤ k) (h2 : k < 2 ^ (l + 1)) (hl : l ≤ 30) {x : Int32} (hx : x.toInt = k) : FP.Core.decode FP.Core.b64 (FP.i2d x).toNat = .fin false (k * 2 ^ (52 - l)) ((l : Int) - 52) ∧ 4503599627370496 ≤ k * 2 ^ (52 - l) ∧ k * 2 ^ (52 - l) < 9007199254740992 := by
  have k0 : k ≠ 0 := by have := Nat.two_pow_pos l; omega
  have lg : Nat.log2 k = l := (Nat.log2_eq_iff k0).mpr ⟨h1, h2⟩
  have p52 : (2 : Nat) ^ l * 2 ^ (52 - l) = 4503599627370496 := by rw [← Nat.pow_add, show l + (52 - l) = 52 by omega]
  have c1 : 4503599627370496 ≤ k * 2 ^ (52 - l) := by rw [← p52]; exact Nat.mul_le_mul_right _ h1
  have c2 : k * 2 ^ (52 - l) < 9007199254740992 := by
    have : (2 : Nat) ^ (l + 1) * 2 ^ (52 - l) = 9007199254740992 := by rw [← Nat.pow_add, show l + 1 + (52 - l) = 53 by omega]
    rw [← this]; exact Nat.mul_lt_mul_of_pos_right h2 (Nat.two_pow_pos _)
  refine ⟨?_, c1, c2⟩
  have hL : FP.Core.leading k 1 = l := by
    unfold FP.Core.leading
    simp only [lg, show Nat.log2 1 = 0 by decide]
    rw [show ((l : Int) - (0 : Nat)).toNat = l by omega, show (-((l : Int) - (0 : Nat))).toNat = 0 by omega, Nat.one_mul, Nat.pow_zero, Nat.mul_one, if_pos h1]
    omega
  have hQ : FP.Core.quantum FP.Core.b64 k 1 0 = (l : Int) - 52 := by
    unfold FP.Core.quantum
    rw [hL, fp_qm, fp_pp]; omega
  have hR : FP.Core.roundRatio FP.Core.b64 false k 1 0 = .fin false (k * 2 ^ (52 - l)) ((l : Int) - 52) := by
    unfold FP.Core.roundRatio FP.Core.roundAt FP.Core.unitsNum FP.Core.unitsDen
    rw [if_neg k0, hQ, show ((0 : Int) - ((l : Int) - 52)).toNat = 52 - l by omega, show (((l : Int) - 52) - 0).toNat = 0 by omega, Nat.pow_zero, Nat.one_mul]
    have hn : FP.Core.nearest (k * 2 ^ (52 - l)) 1 = k * 2 ^ (52 - l) := Nat.le_antisymm (fp_near (by omega) (by omega)) (fp_nearG (by omega) (by omega))
    rw [hn]
    rcases fp_set c1 (by omega) (q := (l : Int) - 52) (by omega) with ⟨-, h⟩ | ⟨h, -⟩
    · exact h
    · omega
  have hI : FP.i2d x = UInt64.ofNat (FP.Core.encode FP.Core.b64 (FP.Core.roundRatio FP.Core.b64 false k 1 0)) := by
    show UInt64.ofNat (FP.Core.encode FP.Core.b64 (FP.Core.roundRatio FP.Core.b64 (decide (x.toInt < 0)) x.toInt.natAbs 1 0)) = _
    rw [hx, show decide ((k : Int) < 0) = false by rw [decide_eq_false_iff_not]; omega, Int.natAbs_natCast]
  rw [hI, hR]
  exact fp_dec c1 c2 (by omega) (by omega)
theorem fp_i0 {x : Int32} (hx : x.toInt = 0) : FP.Core.decode FP.Core.b64 (FP.i2d x).toNat = .fin false 0 (-1074) := by
  have : x = 0 := Int32.toInt_inj.mp hx
  subst this
  decide
/-- what lies between nought and 27 -/
def fpB : FP.Core.Datum → Prop
  | .fin s c q => s = false ∧ ((c = 0 ∧ q = -1074) ∨ (4503599627370496 ≤ c ∧ c < 9007199254740992 ∧ -1000 ≤ q ∧ (q ≤ -49 ∨ (q = -48 ∧ c ≤ 7599824371187712))))
  | _ => False
/-- the quotient of two whole numbers, the first at most 27 times the second -/
theorem fp_quo {s d l1 l2 : Nat} (h1 : 2 ^ l1 ≤ s) (h2 : s < 2 ^ (l1 + 1)) (h3 : 2 ^ l2 ≤ d) (h4 : d < 2 ^ (l2 + 1)) (hl1 : l1 ≤ 30) (hl2 : l2 ≤ 30) (h : s ≤ 27 * d) : fpB (FP.Core.roundRatio FP.Core.b64 false (s * 2 ^ (52 - l1)) (d * 2 ^ (52 - l2)) (((l1 : Int) - 52) - ((l2 : Int) - 52))) := by
  obtain ⟨c1, hc1⟩ : ∃ c1, c1 = s * 2 ^ (52 - l1) := ⟨_, rfl⟩
  obtain ⟨c2, hc2⟩ : ∃ c2, c2 = d * 2 ^ (52 - l2) := ⟨_, rfl⟩
  have B : ∀ {k l c : Nat}, 2 ^ l ≤ k → k < 2 ^ (l + 1) → l ≤ 30 → c = k * 2 ^ (52 - l) → 4503599627370496 ≤ c ∧ c < 9007199254740992 := by
    intro k l c h1 h2 hl hc
    have p52 : (2 : Nat) ^ l * 2 ^ (52 - l) = 4503599627370496 := by rw [← Nat.pow_add, show l + (52 - l) = 52 by omega]
    have p53 : (2 : Nat) ^ (l + 1) * 2 ^ (52 - l) = 9007199254740992 := by rw [← Nat.pow_add, show l + 1 + (52 - l) = 53 by omega]
    rw [hc]
    exact ⟨by rw [← p52]; exact Nat.mul_le_mul_right _ h1, by rw [← p53]; exact Nat.mul_lt_mul_of_pos_right h2 (Nat.two_pow_pos _)⟩
  obtain ⟨a1, a2⟩ := B h1 h2 hl1 hc1
  obtain ⟨b1, b2⟩ := B h3 h4 hl2 hc2
  rw [← hc1, ← hc2]
  obtain ⟨e, he⟩ : ∃ e : Int, e = ((l1 : Int) - 52) - ((l2 : Int) - 52) := ⟨_, rfl⟩
  rw [← he]
  -- the ratio in the digits
  have key : c1 * 2 ^ l1 ≤ 27 * (c2 * 2 ^ l2) := by
    have t1 : c1 * 2 ^ l1 = s * 4503599627370496 := by rw [hc1, Nat.mul_assoc, ← Nat.pow_add, show 52 - l1 + l1 = 52 by omega]
    have t2 : c2 * 2 ^ l2 = d * 4503599627370496 := by rw [hc2, Nat.mul_assoc, ← Nat.pow_add, show 52 - l2 + l2 = 52 by omega]
    omega
  have lg : ∀ {c : Nat}, 4503599627370496 ≤ c → c < 9007199254740992 → Nat.log2 c = 52 := fun {c} x y => (Nat.log2_eq_iff (by omega)).mpr ⟨x, y⟩
  have hL : FP.Core.leading c1 c2 = if c2 ≤ c1 then 0 else -1 := by
    unfold FP.Core.leading
    simp only [lg a1 a2, lg b1 b2]
    simp
  have eb : -30 ≤ e ∧ e ≤ 30 := by omega
  -- the two cases of e's size
  have pw : ∀ {m : Nat}, e = m → c1 * 2 ^ m ≤ 27 * c2 := by
    intro m hm
    have : l1 = l2 + m := by omega
    subst this
    have t : c1 * 2 ^ (l2 + m) = c1 * 2 ^ m * 2 ^ l2 := by rw [Nat.pow_add, Nat.mul_comm (2 ^ l2), Nat.mul_assoc]
    rw [t, ← Nat.mul_assoc] at key
    exact Nat.le_of_mul_le_mul_right key (Nat.two_pow_pos _)
  have pg : ∀ {m r : Nat}, e = (m + r : Nat) → c1 * 2 ^ m ≤ 27 * c2 := by
    intro m r hm
    have h := pw hm
    rw [Nat.pow_add, ← Nat.mul_assoc] at h
    have := Nat.two_pow_pos r
    exact Nat.le_trans (Nat.le_mul_of_pos_right _ this) h
  unfold FP.Core.roundRatio FP.Core.roundAt FP.Core.quantum FP.Core.unitsNum FP.Core.unitsDen
  rw [if_neg (by omega), hL, fp_qm, fp_pp]
  by_cases c : c2 ≤ c1
  · rw [if_pos c, show max (-1074) (0 + e - ((53 : Int) - 1)) = e - 52 by omega, show (e - (e - 52)).toNat = 52 by omega, show (e - 52 - e).toNat = 0 by omega, Nat.pow_zero, Nat.mul_one, show (2 : Nat) ^ 52 = 4503599627370496 by decide]
    have e4 : e ≤ 4 := by
      refine Int.not_lt.mp (fun y => ?_)
      have := pg (m := 5) (r := (e - 5).toNat) (by omega)
      omega
    have n1 : 4503599627370496 ≤ FP.Core.nearest (c1 * 4503599627370496) c2 := fp_nearG (by omega) (by rw [Nat.mul_comm]; exact Nat.mul_le_mul_right _ c)
    have n2 : FP.Core.nearest (c1 * 4503599627370496) c2 ≤ 9007199254740992 := fp_near (by omega) (by omega)
    have n3 : e = 4 → FP.Core.nearest (c1 * 4503599627370496) c2 ≤ 7599824371187712 := by
      intro y
      have := pw (m := 4) (by omega)
      exact fp_near (by omega) (by omega)
    rcases fp_set n1 n2 (q := e - 52) (by omega) with ⟨g1, g2⟩ | ⟨g1, g2⟩
    · rw [g2]; exact ⟨rfl, Or.inr ⟨n1, g1, by omega, by omega⟩⟩
    · rw [g2]; exact ⟨rfl, Or.inr ⟨by omega, by omega, by omega, by omega⟩⟩
  · rw [if_neg c, show max (-1074) (-1 + e - ((53 : Int) - 1)) = e - 53 by omega, show (e - (e - 53)).toNat = 53 by omega, show (e - 53 - e).toNat = 0 by omega, Nat.pow_zero, Nat.mul_one, show (2 : Nat) ^ 53 = 9007199254740992 by decide]
    have e4 : e ≤ 5 := by
      refine Int.not_lt.mp (fun y => ?_)
      have := pg (m := 6) (r := (e - 6).toNat) (by omega)
      omega
    have n1 : 4503599627370496 ≤ FP.Core.nearest (c1 * 9007199254740992) c2 := fp_nearG (by omega) (by omega)
    have n2 : FP.Core.nearest (c1 * 9007199254740992) c2 ≤ 9007199254740992 := fp_near (by omega) (by omega)
    have n3 : e = 5 → FP.Core.nearest (c1 * 9007199254740992) c2 ≤ 7599824371187712 := by
      intro y
      have := pw (m := 5) (by omega)
      exact fp_near (by omega) (by omega)
    rcases fp_set n1 n2 (q := e - 53) (by omega) with ⟨g1, g2⟩ | ⟨g1, g2⟩
    · rw [g2]; exact ⟨rfl, Or.inr ⟨n1, g1, by omega, by omega⟩⟩
    · rw [g2]; exact ⟨rfl, Or.inr ⟨by omega, by omega, by omega, by omega⟩⟩
theorem fpB_dec {D : FP.Core.Datum} (h : fpB D) : FP.Core.decode FP.Core.b64 (UInt64.ofNat (FP.Core.encode FP.Core.b64 D)).toNat = D := by
  cases D with
  | nan => exact h.elim
  | inf s => exact h.elim
  | fin s c q =>
    obtain ⟨rfl, ⟨rfl, rfl⟩ | ⟨h1, h2, h3, h4⟩⟩ := h
    · exact fp_dz
    · exact fp_dec h1 h2 (by omega) (by omega)
theorem fp_lg {k : Nat} (h : 0 < k) (h2 : k < 1073741824) : ∃ l, 2 ^ l ≤ k ∧ k < 2 ^ (l + 1) ∧ l ≤ 30 := by
  refine ⟨Nat.log2 k, (Nat.log2_eq_iff (by omega)).mp rfl |>.1, (Nat.log2_eq_iff (by omega)).mp rfl |>.2, ?_⟩
  have h3 := ((Nat.log2_eq_iff (by omega : k ≠ 0)).mp rfl).1
  refine Nat.not_lt.mp (fun y => ?_)
  have := Nat.pow_le_pow_right (show 0 < 2 by decide) (show 30 ≤ Nat.log2 k by omega)
  have e : (2 : Nat) ^ 30 = 1073741824 := by decide
  omega
/-- the mean of the notes lies where it must -/
def inB (v : UInt64) : Prop := fpB (FP.Core.decode FP.Core.b64 v.toNat)
theorem fp_div {s d : Int32} (h0 : 0 < d.toInt) (h1 : d.toInt ≤ 5760) (h2 : 0 ≤ s.toInt) (h3 : s.toInt ≤ 27 * d.toInt) : inB (FP.ddiv (FP.i2d s) (FP.i2d d)) := by
  obtain ⟨k2, hk2⟩ : ∃ k : Nat, d.toInt = k := ⟨d.toInt.toNat, by omega⟩
  obtain ⟨k1, hk1⟩ : ∃ k : Nat, s.toInt = k := ⟨s.toInt.toNat, by omega⟩
  obtain ⟨l2, g1, g2, g3⟩ := fp_lg (k := k2) (by omega) (by omega)
  obtain ⟨A2, A3, A4⟩ := fp_i2d g1 g2 g3 hk2
  have D : FP.ddiv (FP.i2d s) (FP.i2d d) = UInt64.ofNat (FP.Core.encode FP.Core.b64 (FP.Core.quotient FP.Core.b64 (FP.Core.decode FP.Core.b64 (FP.i2d s).toNat) (FP.Core.decode FP.Core.b64 (FP.i2d d).toNat))) := rfl
  unfold inB
  by_cases hz : k1 = 0
  · subst hz
    rw [D, A2, fp_i0 (by omega)]
    have : FP.Core.quotient FP.Core.b64 (.fin false 0 (-1074)) (.fin false (k2 * 2 ^ (52 - l2)) ((l2 : Int) - 52)) = .fin false 0 (-1074) := by
      simp only [FP.Core.quotient]
      rw [if_neg (by omega), FP.Core.roundRatio, if_pos rfl, fp_qm]; rfl
    rw [this, fpB_dec (D := .fin false 0 (-1074)) ⟨rfl, Or.inl ⟨rfl, rfl⟩⟩]
    exact ⟨rfl, Or.inl ⟨rfl, rfl⟩⟩
  · obtain ⟨l1, f1, f2, f3⟩ := fp_lg (k := k1) (by omega) (by omega)
    obtain ⟨B2, B3, B4⟩ := fp_i2d f1 f2 f3 hk1
    have Q := fp_quo f1 f2 g1 g2 f3 g3 (by omega)
    rw [D, A2, B2]
    have : FP.Core.quotient FP.Core.b64 (.fin false (k1 * 2 ^ (52 - l1)) ((l1 : Int) - 52)) (.fin false (k2 * 2 ^ (52 - l2)) ((l2 : Int) - 52)) = FP.Core.roundRatio FP.Core.b64 false (k1 * 2 ^ (52 - l1)) (k2 * 2 ^ (52 - l2)) (((l1 : Int) - 52) - ((l2 : Int) - 52)) := by
      simp only [FP.Core.quotient]
      rw [if_neg (by omega)]; rfl
    rw [this, fpB_dec Q]
    exact Q
theorem inB_0 : inB 0 := by
  unfold inB
  rw [fp_d0]; exact ⟨rfl, Or.inl ⟨rfl, rfl⟩⟩
theorem inB_lo {v : UInt64} (h : inB v) : ¬ Op.cmpValue (FP.dcmp v 0) .g < 0 := by
  unfold inB at h
  have D : FP.dcmp v 0 = FP.Core.order (FP.Core.decode FP.Core.b64 v.toNat) (FP.Core.decode FP.Core.b64 (0 : UInt64).toNat) := rfl
  rw [D, fp_d0]
  cases hd : FP.Core.decode FP.Core.b64 v.toNat with
  | nan => rw [hd] at h; exact h.elim
  | inf s => rw [hd] at h; exact h.elim
  | fin s c q =>
    rw [hd] at h
    obtain ⟨rfl, -⟩ := h
    simp only [FP.Core.order]
    have e : FP.Core.signed false (FP.Core.inUnits 0 (-1074) (min q (-1074))) = 0 := by
      unfold FP.Core.signed FP.Core.inUnits
      simp
    rw [e]
    have g : 0 ≤ FP.Core.signed false (FP.Core.inUnits c q (min q (-1074))) := by
      unfold FP.Core.signed
      simp
    generalize FP.Core.signed false (FP.Core.inUnits c q (min q (-1074))) = X at g
    cases hc : compare X 0 with
    | lt => exact absurd ((Int.compare_eq_lt).mp hc) (by omega)
    | eq => show ¬ (0 : Int32) < 0; decide
    | gt => show ¬ (1 : Int32) < 0; decide
theorem inB_hi {v : UInt64} (h : inB v) : Op.cmpValue (FP.dcmp v 4628293042053316608) .l ≤ 0 := by
  unfold inB at h
  have D : FP.dcmp v 4628293042053316608 = FP.Core.order (FP.Core.decode FP.Core.b64 v.toNat) (FP.Core.decode FP.Core.b64 (4628293042053316608 : UInt64).toNat) := rfl
  rw [D, fp_d27]
  cases hd : FP.Core.decode FP.Core.b64 v.toNat with
  | nan => rw [hd] at h; exact h.elim
  | inf s => rw [hd] at h; exact h.elim
  | fin s c q =>
    rw [hd] at h
    obtain ⟨rfl, h⟩ := h
    simp only [FP.Core.order]
    have g : FP.Core.signed false (FP.Core.inUnits c q (min q (-48))) ≤ FP.Core.signed false (FP.Core.inUnits 7599824371187712 (-48) (min q (-48))) := by
      unfold FP.Core.signed FP.Core.inUnits
      rw [if_neg (by decide), if_neg (by decide)]
      have hq : q ≤ -48 := by omega
      have hm : min q (-48) = q := by omega
      rw [hm, show (q - q).toNat = 0 by omega, Nat.pow_zero, Nat.mul_one]
      rcases h with ⟨rfl, rfl⟩ | ⟨h1, h2, h3, h4 | ⟨h4, h5⟩⟩
      · have := Nat.two_pow_pos (-48 - (-1074) : Int).toNat
        omega
      · obtain ⟨m, hm⟩ : ∃ m, (-48 - q).toNat = m + 1 := ⟨(-48 - q).toNat - 1, by omega⟩
        rw [hm, Nat.pow_succ]
        have := Nat.two_pow_pos m
        omega
      · rw [h4, show ((-48 : Int) - -48).toNat = 0 by omega, Nat.pow_zero, Nat.mul_one]; omega
    generalize FP.Core.signed false (FP.Core.inUnits c q (min q (-48))) = X at g
    generalize FP.Core.signed false (FP.Core.inUnits 7599824371187712 (-48) (min q (-48))) = Y at g
    cases hc : compare X Y with
    | lt => show (-1 : Int32) ≤ 0; decide
    | eq => show (0 : Int32) ≤ 0; decide
    | gt => exact absurd ((Int.compare_eq_gt).mp hc) (by omega)
theorem ddv_ok {β : Type} {s d : Int32} (h0 : 0 < d.toInt) (h1 : d.toInt ≤ 5760) (h2 : 0 ≤ s.toInt) (h3 : s.toInt ≤ 27 * d.toInt) {K : UInt64 → Option β} : ddv (FP.i2d s) (FP.i2d d) K = K (FP.ddiv (FP.i2d s) (FP.i2d d)) := by
  have hb := fp_div h0 h1 h2 h3
  unfold ddv
  rw [if_pos]
  rw [UInt64.le_iff_toNat_le, UInt64.toNat_and, show (0x7fffffffffffffff : UInt64).toNat = 2 ^ 63 - 1 from rfl, Nat.and_two_pow_sub_one_eq_mod]
  show (UInt64.ofNat (FP.Core.encode FP.Core.b64 (FP.Core.quotient FP.Core.b64 (FP.Core.decode FP.Core.b64 (FP.i2d s).toNat) (FP.Core.decode FP.Core.b64 (FP.i2d d).toNat)))).toNat % 2 ^ 63 ≤ 0x7ff0000000000000
  rw [fp_mod]
  obtain ⟨k2, hk2⟩ : ∃ k : Nat, d.toInt = k := ⟨d.toInt.toNat, by omega⟩
  obtain ⟨k1, hk1⟩ : ∃ k : Nat, s.toInt = k := ⟨s.toInt.toNat, by omega⟩
  obtain ⟨l2, g1, g2, g3⟩ := fp_lg (k := k2) (by omega) (by omega)
  obtain ⟨A2, A3, A4⟩ := fp_i2d g1 g2 g3 hk2
  rw [A2]
  by_cases hz : k1 = 0
  · subst hz
    rw [fp_i0 (by omega)]
    simp only [FP.Core.quotient]
    rw [if_neg (by omega)]; exact fp_rr _ _ _ _
  · obtain ⟨l1, f1, f2, f3⟩ := fp_lg (k := k1) (by omega) (by omega)
    obtain ⟨B2, B3, B4⟩ := fp_i2d f1 f2 f3 hk1
    rw [B2]
    simp only [FP.Core.quotient]
    rw [if_neg (by omega)]; exact fp_rr _ _ _ _
def mnD (I : Nat → Nat → Int32) (k : Nat) : Int32 := if I (6 * k + 19) 0 = 2 then I (6 * k + 19) 1 else 0
def mnS (I : Nat → Nat → Int32) (k : Nat) : Int32 := if I (6 * k + 19) 0 = 2 then I (6 * k + 19) 1 * (NV I k 0 + NV I k 1 + NV I k 2) else 0
def MNV (I : Nat → Nat → Int32) (nL : Nat) : UInt64 := if sm (mnD I) nL = 0 then 0 else FP.ddiv (FP.i2d (sm (mnS I) nL)) (FP.i2d (sm (mnD I) nL))
theorem tot7 (h : SumR I nL) : sumZ (fun k => (I (6 * k + 19) 1).toInt) nL ≤ 360 * nL := by
  obtain ⟨h1, h2, h3⟩ := h
  unfold dryS at h1
  omega
theorem mnD_b (h : Cx φ T I R z nS nL n) : ∀ k, k ≤ nL → 0 ≤ (sm (mnD I) k).toInt ∧ (sm (mnD I) k).toInt ≤ sumZ (fun k => (I (6 * k + 19) 1).toInt) k := by
  have hN := h.m.2.2.2.2.1
  have z0 : (0 : Int32).toInt = 0 := rfl
  have tot : sumZ (fun k => (I (6 * k + 19) 1).toInt) nL ≤ 360 * nL := by
    obtain ⟨hj, hl, hx, ⟨hm22, hm23⟩, hr⟩ := h; obtain ⟨hx0, hx1, hx2, hx3, hx4, hx5, hx6, hx7, hx8, hx9, hx10, hx11, hx12, hx13, hx14, hx15, hx16, hx17, hx18, hx19, hx20, hx21, hx22, hx23, hx24, hx25, hx26, hx27⟩ := hx; obtain ⟨⟨g1, g2⟩, r1, r2, r3, r4, r5, r6, r7⟩ := hr
    exact tot7 r7
  have nn : ∀ k, k < nL → 0 ≤ (I (6 * k + 19) 1).toInt := fun k hk => (h.dry hk).1
  have mono : ∀ d k, k + d = nL → sumZ (fun k => (I (6 * k + 19) 1).toInt) k ≤ sumZ (fun k => (I (6 * k + 19) 1).toInt) nL := by
    intro d
    induction d with
    | zero => intro k hk; rw [show k = nL by omega]; exact Int.le_refl _
    | succ d ih =>
      intro k hk
      have h1 := ih (k + 1) (by omega)
      have h2 := nn k (by omega)
      have h3 : sumZ (fun k => (I (6 * k + 19) 1).toInt) (k + 1) = sumZ (fun k => (I (6 * k + 19) 1).toInt) k + (I (6 * k + 19) 1).toInt := rfl
      omega
  intro k
  induction k with
  | zero => intro _; exact ⟨by show 0 ≤ (0 : Int32).toInt; decide, by show (0 : Int32).toInt ≤ 0; decide⟩
  | succ k ih =>
    intro hk
    have h1 := ih (by omega)
    have h2 := nn k (by omega)
    have h4 := (h.dry (show k < nL by omega)).2
    have h5 := mono (nL - k) k (by omega)
    have h3 : sumZ (fun k => (I (6 * k + 19) 1).toInt) (k + 1) = sumZ (fun k => (I (6 * k + 19) 1).toInt) k + (I (6 * k + 19) 1).toInt := rfl
    have h6 : (mnD I k).toInt = 0 ∨ (mnD I k).toInt = (I (6 * k + 19) 1).toInt := by
      unfold mnD; split
      · exact Or.inr rfl
      · exact Or.inl rfl
    show 0 ≤ (sm (mnD I) k + mnD I k).toInt ∧ (sm (mnD I) k + mnD I k).toInt ≤ _
    rw [tAdd (by omega) (by omega)]
    omega
theorem mn_pos (h : Cx φ T I R z nS nL n) : (sm (mnD I) nL ≤ 0) ↔ sm (mnD I) nL = 0 := by
  have h1 := (mnD_b h nL (Nat.le_refl _)).1
  have z0 : (0 : Int32).toInt = 0 := rfl
  refine ⟨fun y => Int32.toInt_inj.mp (by have := leT y; omega), fun y => by rw [y]; exact Int32.le_refl _⟩
theorem mn_rng (h : Cx φ T I R z nS nL n) (hc : sm (mnD I) nL ≠ 0) : 0 < (sm (mnD I) nL).toInt ∧ (sm (mnD I) nL).toInt ≤ 5760 := by
  have h1 := mnD_b h nL (Nat.le_refl _)
  have hN := h.m.2.2.2.2.1
  have z0 : (0 : Int32).toInt = 0 := rfl
  have tot : sumZ (fun k => (I (6 * k + 19) 1).toInt) nL ≤ 360 * nL := by
    obtain ⟨hj, hl, hx, ⟨hm22, hm23⟩, hr⟩ := h; obtain ⟨hx0, hx1, hx2, hx3, hx4, hx5, hx6, hx7, hx8, hx9, hx10, hx11, hx12, hx13, hx14, hx15, hx16, hx17, hx18, hx19, hx20, hx21, hx22, hx23, hx24, hx25, hx26, hx27⟩ := hx; obtain ⟨⟨g1, g2⟩, r1, r2, r3, r4, r5, r6, r7⟩ := hr
    exact tot7 r7
  have : (sm (mnD I) nL).toInt ≠ 0 := fun y => hc (Int32.toInt_inj.mp (by rw [y]; rfl))
  omega
theorem mnS_b (h : Cx φ T I R z nS nL n) : ∀ k, k ≤ nL → 0 ≤ (sm (mnS I) k).toInt ∧ (sm (mnS I) k).toInt ≤ 27 * (sm (mnD I) k).toInt := by
  have hN := h.m.2.2.2.2.1
  have z0 : (0 : Int32).toInt = 0 := rfl
  have tot : sumZ (fun k => (I (6 * k + 19) 1).toInt) nL ≤ 360 * nL := by
    obtain ⟨hj, hl, hx, ⟨hm22, hm23⟩, hr⟩ := h; obtain ⟨hx0, hx1, hx2, hx3, hx4, hx5, hx6, hx7, hx8, hx9, hx10, hx11, hx12, hx13, hx14, hx15, hx16, hx17, hx18, hx19, hx20, hx21, hx22, hx23, hx24, hx25, hx26, hx27⟩ := hx; obtain ⟨⟨g1, g2⟩, r1, r2, r3, r4, r5, r6, r7⟩ := hr
    exact tot7 r7
  have nn : ∀ k, k < nL → 0 ≤ (I (6 * k + 19) 1).toInt := fun k hk => (h.dry hk).1
  have mono : ∀ d k, k + d = nL → sumZ (fun k => (I (6 * k + 19) 1).toInt) k ≤ sumZ (fun k => (I (6 * k + 19) 1).toInt) nL := by
    intro d
    induction d with
    | zero => intro k hk; rw [show k = nL by omega]; exact Int.le_refl _
    | succ d ih =>
      intro k hk
      have h1 := ih (k + 1) (by omega)
      have h2 := nn k (by omega)
      have h3 : sumZ (fun k => (I (6 * k + 19) 1).toInt) (k + 1) = sumZ (fun k => (I (6 * k + 19) 1).toInt) k + (I (6 * k + 19) 1).toInt := rfl
      omega
  intro k
  induction k with
  | zero => intro _; exact ⟨by show 0 ≤ (0 : Int32).toInt; decide, by show (0 : Int32).toInt ≤ 27 * (0 : Int32).toInt; decide⟩
  | succ k ih =>
    intro hk
    have h1 := ih (by omega)
    have hk' : k < nL := by omega
    have h2 := nn k hk'
    have D0 := mnD_b h k (by omega)
    have D1 := mnD_b h (k + 1) hk
    have h5 := mono (nL - k) k (by omega)
    have h6 := mono (nL - (k + 1)) (k + 1) (by omega)
    have eD : (sm (mnD I) (k + 1)).toInt = (sm (mnD I) k).toInt + (mnD I k).toInt := by
      have h4 := (h.dry hk').2
      have h7 : (mnD I k).toInt = 0 ∨ (mnD I k).toInt = (I (6 * k + 19) 1).toInt := by
        unfold mnD; split
        · exact Or.inr rfl
        · exact Or.inl rfl
      exact tAdd (by omega) (by omega)
    have hs : 0 ≤ (mnS I k).toInt ∧ (mnS I k).toInt ≤ 27 * (mnD I k).toInt := by
      unfold mnS mnD
      by_cases c : I (6 * k + 19) 0 = 2
      · rw [if_pos c, if_pos c]
        have n0 := NV_b h hk' (k := 0) (by decide)
        have n1 := NV_b h hk' (k := 1) (by decide)
        have n2 := NV_b h hk' (k := 2) (by decide)
        have h4 := (h.dry hk').2
        have e1 : (NV I k 0 + NV I k 1).toInt = (NV I k 0).toInt + (NV I k 1).toInt := tAdd (by omega) (by omega)
        have e2 : (NV I k 0 + NV I k 1 + NV I k 2).toInt = (NV I k 0).toInt + (NV I k 1).toInt + (NV I k 2).toInt := by rw [tAdd (by omega) (by omega), e1]
        have m1 := Int.mul_le_mul_of_nonneg_left (show (NV I k 0 + NV I k 1 + NV I k 2).toInt ≤ 27 by omega) h2
        have m2 := Int.mul_nonneg h2 (show 0 ≤ (NV I k 0 + NV I k 1 + NV I k 2).toInt by omega)
        rw [tMul (by omega) (by omega)]
        omega
      · rw [if_neg c, if_neg c]; exact ⟨by decide, by decide⟩
    show 0 ≤ (sm (mnS I) k + mnS I k).toInt ∧ (sm (mnS I) k + mnS I k).toInt ≤ _
    rw [tAdd (by omega) (by omega), eD]
    omega
theorem x_meanNotes (h : Cx φ T I R (mZ τ) nS nL n) : f_X4_meanNotes (φ 0) (pt φ T I R τ) = some (MNV I nL, pt φ T I R τ) := by
  have hj := h.hj
  have hN := h.m.2.2.2.2.1
  obtain ⟨t0, r3, t2, m4, rl, rw', -⟩ := h.lots
  have q0 : (T 0).1 = 4 + 1 := by rw [t0]
  have L := itr_loop (fun n (s' : Int32 × Int32 × Int32) => l_X4_meanNotes_6 n (φ 0) s'.1 s'.2.1 s'.2.2 (pt φ T I R τ)) (fun k s' => s' = (sm (mnD I) k, sm (mnS I) k, Int32.ofNat k)) nL (by
    rintro n k s' hk rfl
    refine ⟨(sm (mnD I) (k + 1), sm (mnS I) (k + 1), Int32.ofNat (k + 1)), rfl, ?_⟩
    have c1 : ¬ Int32.ofNat nL ≤ Int32.ofNat k := by rw [kN_le (by omega) (by omega)]; omega
    obtain ⟨-, -, ta⟩ := rw' k (by omega)
    have qa : (T (6 * k + 19)).1 = 1 + 1 := by rw [ta]
    have GL : ∀ {K : Option Nat → Option (UInt64 × Mem)}, aR 1 (pt φ T I R τ) (some (φ 2)) (Int32.ofNat k) K = K (some (φ (6 * k + 19))) := by
      intro K
      rw [aR_pt hj (by rw [t2]) (kN_nn (by omega)) (by rw [t2, tnK (by omega)]; show k < 16; omega), tnK (by omega), rl k (by omega)]
    have S : f_X1_sumOfNotes (φ (6 * k + 19)) (pt φ T I R τ) = some (NV I k 0 + NV I k 1 + NV I k 2, pt φ T I R τ) := by
      refine x_sum (w := 6 * k + 21) hj ta (fun _ => ?_)
      obtain ⟨hj, hl, hx, ⟨hm22, hm23⟩, hr⟩ := h; obtain ⟨hx0, hx1, hx2, hx3, hx4, hx5, hx6, hx7, hx8, hx9, hx10, hx11, hx12, hx13, hx14, hx15, hx16, hx17, hx18, hx19, hx20, hx21, hx22, hx23, hx24, hx25, hx26, hx27⟩ := hx; obtain ⟨⟨g1, g2⟩, r1, r2, r3, r4, r5, r6, r7⟩ := hr
      exact ⟨hx17 k (by omega), hx20 k (by omega)⟩
    show l_X4_meanNotes_6 (n + 1) (φ 0) (sm (mnD I) k) (sm (mnS I) k) (Int32.ofNat k) _ = l_X4_meanNotes_6 n (φ 0) (sm (mnD I) k + mnD I k) (sm (mnS I) k + mnS I k) (Int32.ofNat (k + 1)) _
    rw [l_X4_meanNotes_6, itr_succ, b_X4_meanNotes_6, gI_pt hj q0, m4, if_neg c1, gR_pt hj q0, r3, GL, gI_pt hj qa, mnD, mnS]
    by_cases c2 : I (6 * k + 19) 0 = 2
    · rw [if_pos c2, if_pos c2, if_pos c2, gR_pt hj q0, r3, GL, gI_pt hj qa, nm, gR_pt hj q0, r3, GL, gI_pt hj qa, gR_pt hj q0, r3, GL, ob_pt hj qa, S, cl1_s, nm, nm, b_X4_meanNotes_61, nm, kN_s]; rfl
    · rw [if_neg c2, if_neg c2, if_neg c2, b_X4_meanNotes_61, nm, kN_s, Int32.add_zero, Int32.add_zero]; rfl)
  obtain ⟨s', rfl, h5⟩ := L nL 0 40 (0, 0, 0) (by omega) (by omega) rfl
  obtain ⟨m, hm⟩ : ∃ m, 40 - nL = m + 1 := ⟨39 - nL, by omega⟩
  simp only [hm] at h5
  have c1 : Int32.ofNat nL ≤ Int32.ofNat nL := Int32.le_refl _
  rw [f_X4_meanNotes, b_X4_meanNotes_0, h5, l_X4_meanNotes_6, itr_succ, b_X4_meanNotes_6, gI_pt hj q0, m4, if_pos c1, MNV]
  by_cases c2 : sm (mnD I) nL = 0
  · rw [if_pos ((mn_pos h).mpr c2), if_pos c2, b_X4_meanNotes_80]
  · rw [if_neg (fun y => c2 ((mn_pos h).mp y)), if_neg c2, nm, nm, ddv_ok (mn_rng h c2).1 (mn_rng h c2).2 (mnS_b h nL (Nat.le_refl _)).1 (mnS_b h nL (Nat.le_refl _)).2, b_X4_meanNotes_80]
theorem MNV_b (h : Cx φ T I R z nS nL n) : inB (MNV I nL) := by
  unfold MNV
  by_cases c : sm (mnD I) nL = 0
  · rw [if_pos c]; exact inB_0
  · rw [if_neg c]
    have h1 := mn_rng h c
    have h2 := mnS_b h nL (Nat.le_refl _)
    exact fp_div h1.1 h1.2 h2.1 h2.2
end MNo
