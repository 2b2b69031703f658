/-! THE SHAPE of the garden: it never changes -/
def SX (φ : Nat → Nat) (T : Nat → Nat × Nat) (R : Nat → Nat → Option Nat) : Prop :=
  T 0 = (5, 0) ∧
  R 0 0 = some (φ 1) ∧
  R 0 3 = some (φ 2) ∧
  R 0 5 = some (φ 115) ∧
  R 0 6 = some (φ 9) ∧
  R 0 7 = some (φ 10) ∧
  T 1 = (102, 4) ∧
  T 2 = (101, 16) ∧
  T 9 = (103, 3) ∧
  T 10 = (100, 4) ∧
  (∀ i : Nat, i < 4 → R 1 i = some (φ (2 * i + 11))) ∧
  (∀ i : Nat, i < 4 → T (2 * i + 11) = (3, 0)) ∧
  (∀ i : Nat, i < 4 → R (2 * i + 11) 7 = some (φ (2 * i + 12))) ∧
  (∀ i : Nat, i < 4 → T (2 * i + 12) = (100, 4)) ∧
  (∀ i : Nat, i < 16 → R 2 i = some (φ (6 * i + 19))) ∧
  (∀ i : Nat, i < 17 → T (6 * i + 19) = (2, 0)) ∧
  (∀ i : Nat, i < 17 → R (6 * i + 19) 13 = some (φ (6 * i + 20))) ∧
  (∀ i : Nat, i < 17 → R (6 * i + 19) 14 = some (φ (6 * i + 21))) ∧
  (∀ i : Nat, i < 17 → R (6 * i + 19) 15 = some (φ (6 * i + 22))) ∧
  (∀ i : Nat, i < 17 → T (6 * i + 20) = (100, 4)) ∧
  (∀ i : Nat, i < 17 → T (6 * i + 21) = (100, 3)) ∧
  (∀ i : Nat, i < 17 → T (6 * i + 22) = (1, 0)) ∧
  (∀ i : Nat, i < 17 → R (6 * i + 22) 2 = some (φ (6 * i + 23))) ∧
  (∀ i : Nat, i < 17 → R (6 * i + 22) 3 = some (φ (6 * i + 24))) ∧
  (∀ i : Nat, i < 17 → T (6 * i + 23) = (100, 4)) ∧
  (∀ i : Nat, i < 17 → T (6 * i + 24) = (100, 4)) ∧
  (∀ i : Nat, i < 3 → R 9 i = some (φ (i + 3))) ∧
  (∀ i : Nat, i < 3 → T (i + 3) = (4, 0))
def Sh (φ : Nat → Nat) (T : Nat → Nat × Nat) (R : Nat → Nat → Option Nat) : Prop := Inj φ T ∧ SX φ T R
def sumZ (f : Nat → Int) : Nat → Int
  | 0 => 0
  | n + 1 => sumZ f n + f n
theorem sumZ_congr {f g : Nat → Int} {n : Nat} (h : ∀ i, i < n → f i = g i) : sumZ f n = sumZ g n := by
  induction n with
  | zero => rfl
  | succ n ih => simp only [sumZ]; rw [ih (fun i hi => h i (by omega)), h n (by omega)]
/-- the two, side by side, after n calls -/
def live (T : Nat → Nat × Nat) (φ : Nat → Nat) (z : Nat) : Prop := ∀ v, (T v).1 ≠ 0 → φ v < z
theorem up2_up2 {α : Type} {f : Nat → Nat → α} {a k : Nat} {v w : α} : up2 (up2 f a k v) a k w = up2 f a k w := by
  funext x y; simp only [up2]; split <;> rfl
theorem idx {p : Int32} {n : Nat} (hn : n ≤ 16) (h0 : ¬ p < 0) (h1 : p < Int32.ofNat n) : 0 ≤ p ∧ ¬ Int32.ofNat n ≤ p ∧ ¬ Int32.ofNat n - 1 < p ∧ p ≤ Int32.ofNat n - 1 ∧ p.toNatClampNeg < n := by
  have e : (Int32.ofNat n).toInt = n := Int32.toInt_ofNat_of_lt (by omega)
  have e1 : (1 : Int32).toInt = 1 := rfl
  rw [Int32.lt_iff_toInt_lt] at h0 h1
  rw [e] at h1
  have z : (0 : Int32).toInt = 0 := rfl
  rw [z] at h0
  have e2 : (Int32.ofNat n - 1).toInt = n - 1 := by
    rw [Int32.toInt_sub, e, e1]
    exact Int.bmod_eq_of_le (by omega) (by omega)
  simp only [Int32.le_iff_toInt_le, Int32.lt_iff_toInt_lt, e, e2, z]
  refine ⟨by omega, by omega, by omega, by omega, ?_⟩
  rw [show p.toNatClampNeg = p.toInt.toNat from rfl]; omega
theorem idx' {p : Int32} {n : Nat} (hn : n ≤ 16) (h : ¬ (¬ p < 0 ∧ p < Int32.ofNat n)) : p < 0 ∧ ¬ 0 ≤ p ∨ ¬ p < 0 ∧ 0 ≤ p ∧ ¬ p < Int32.ofNat n ∧ Int32.ofNat n ≤ p ∧ Int32.ofNat n - 1 < p ∧ ¬ p ≤ Int32.ofNat n - 1 := by
  have e : (Int32.ofNat n).toInt = n := Int32.toInt_ofNat_of_lt (by omega)
  have e1 : (1 : Int32).toInt = 1 := rfl
  have z : (0 : Int32).toInt = 0 := rfl
  have e2 : (Int32.ofNat n - 1).toInt = n - 1 := by
    rw [Int32.toInt_sub, e, e1]
    exact Int.bmod_eq_of_le (by omega) (by omega)
  simp only [Int32.le_iff_toInt_le, Int32.lt_iff_toInt_lt, e, e2, z] at h ⊢
  omega
theorem up2_row {α : Type} {f : Nat → Nat → α} {a k w : Nat} {v : α} (h : w ≠ a) : up2 f a k v w = f w := by
  funext j; exact if_neg (fun q => h q.1)
theorem up2_at {α : Type} {f : Nat → Nat → α} {a k : Nat} {v : α} : up2 f a k v a k = v := if_pos ⟨rfl, rfl⟩
theorem up2_k {α : Type} {f : Nat → Nat → α} {a k j w : Nat} {v : α} (h : j ≠ k) : up2 f a k v w j = f w j := if_neg (fun q => h q.2)
theorem tn0 : Int32.toNatClampNeg 0 = 0 := rfl
theorem tn1 : Int32.toNatClampNeg 1 = 1 := rfl
theorem tn2 : Int32.toNatClampNeg 2 = 2 := rfl
theorem tn3 : Int32.toNatClampNeg 3 = 3 := rfl
theorem tn4 : Int32.toNatClampNeg 4 = 4 := rfl
theorem tn5 : Int32.toNatClampNeg 5 = 5 := rfl
theorem tn6 : Int32.toNatClampNeg 6 = 6 := rfl
theorem live.B {T : Nat → Nat × Nat} {φ : Nat → Nat} {z : Nat} (h : live T φ z) : live T φ (z + 1) := fun v hv => Nat.lt_succ_of_lt (h v hv)
theorem itr_succ {T : Type} {z : T} {s : T → T} {n : Nat} : itr z s (n + 1) = s (itr z s n) := rfl
theorem itr_40 {T : Type} {z : T} {s : T → T} : itr z s 40 = s (itr z s 39) := rfl
theorem itr_39 {T : Type} {z : T} {s : T → T} : itr z s 39 = s (itr z s 38) := rfl
theorem itr_38 {T : Type} {z : T} {s : T → T} : itr z s 38 = s (itr z s 37) := rfl
theorem itr_37 {T : Type} {z : T} {s : T → T} : itr z s 37 = s (itr z s 36) := rfl
theorem itr_36 {T : Type} {z : T} {s : T → T} : itr z s 36 = s (itr z s 35) := rfl
theorem itr_35 {T : Type} {z : T} {s : T → T} : itr z s 35 = s (itr z s 34) := rfl
theorem itr_34 {T : Type} {z : T} {s : T → T} : itr z s 34 = s (itr z s 33) := rfl
theorem ii1 : (1 + 1 : Int32) = 2 := rfl
theorem ii2 : (2 + 1 : Int32) = 3 := rfl
theorem ii3 : (3 + 1 : Int32) = 4 := rfl
theorem ii4 : (4 + 1 : Int32) = 5 := rfl
theorem ii0 : (0 + 1 : Int32) = 1 := rfl
theorem rngI {p a b : Int32} (h : ¬ p < a) (h2 : ¬ b < p) : a ≤ p ∧ p ≤ b := ⟨Int32.not_lt.mp h, Int32.not_lt.mp h2⟩
theorem tAdd {a b : Int32} (h1 : -2147483648 ≤ a.toInt + b.toInt) (h2 : a.toInt + b.toInt < 2147483648) : (a + b).toInt = a.toInt + b.toInt := by
  rw [Int32.toInt_add]; exact Int.bmod_eq_of_le (by omega) (by omega)
theorem tSub {a b : Int32} (h1 : -2147483648 ≤ a.toInt - b.toInt) (h2 : a.toInt - b.toInt < 2147483648) : (a - b).toInt = a.toInt - b.toInt := by
  rw [Int32.toInt_sub]; exact Int.bmod_eq_of_le (by omega) (by omega)
theorem tMul {a b : Int32} (h1 : -2147483648 ≤ a.toInt * b.toInt) (h2 : a.toInt * b.toInt < 2147483648) : (a * b).toInt = a.toInt * b.toInt := by
  rw [Int32.toInt_mul]; exact Int.bmod_eq_of_le (by omega) (by omega)
theorem leT {a b : Int32} (h : a ≤ b) : a.toInt ≤ b.toInt := Int32.le_iff_toInt_le.mp h
theorem ltT {a b : Int32} (h : a < b) : a.toInt < b.toInt := Int32.lt_iff_toInt_lt.mp h
theorem addB {a b lo hi : Int32} (h0 : 0 ≤ a.toInt) (h1 : a.toInt ≤ 100000000) (h2 : lo ≤ b) (h3 : b ≤ hi) (h4 : lo.toInt = 1) (h5 : hi.toInt ≤ 100000) : 0 ≤ (a + b).toInt ∧ (a + b).toInt ≤ a.toInt + hi.toInt := by
  have e2 := leT h2
  have e3 := leT h3
  rw [tAdd (by omega) (by omega)]; omega
theorem idxL {p q q1 : Int32} {n : Nat} (hn : n ≤ 16) (hq : q = Int32.ofNat n) (hq1 : q1 = Int32.ofNat n - 1) (h0 : ¬ p < 0) (h1 : p < q) : 0 ≤ p ∧ ¬ q ≤ p ∧ ¬ q1 < p ∧ p ≤ q1 ∧ p.toNatClampNeg < n := by
  subst hq hq1; exact idx hn h0 h1
theorem idxL' {p q q1 : Int32} {n : Nat} (hn : n ≤ 16) (hq : q = Int32.ofNat n) (hq1 : q1 = Int32.ofNat n - 1) (h : ¬ (¬ p < 0 ∧ p < q)) : p < 0 ∧ ¬ 0 ≤ p ∨ ¬ p < 0 ∧ 0 ≤ p ∧ ¬ p < q ∧ q ≤ p ∧ q1 < p ∧ ¬ p ≤ q1 := by
  subst hq hq1; exact idx' hn h
section Dv
variable {β : Type} {a : Int32} {K : Int32 → Option β}
theorem dv_c {b : Int32} (h : b ≠ 0) : dv a b K = K (a / b) := if_neg h
theorem dv2 : dv a 2 K = K (a / 2) := dv_c (by decide)
theorem dv3 : dv a 3 K = K (a / 3) := dv_c (by decide)
theorem dv4 : dv a 4 K = K (a / 4) := dv_c (by decide)
theorem dv5 : dv a 5 K = K (a / 5) := dv_c (by decide)
theorem dv8 : dv a 8 K = K (a / 8) := dv_c (by decide)
theorem dv10 : dv a 10 K = K (a / 10) := dv_c (by decide)
theorem dv20 : dv a 20 K = K (a / 20) := dv_c (by decide)
theorem dv40 : dv a 40 K = K (a / 40) := dv_c (by decide)
end Dv
theorem itr_33 {T : Type} {z : T} {s : T → T} : itr z s 33 = s (itr z s 32) := rfl
section V2
variable {β : Type} {φ : Nat → Nat} {T : Nat → Nat × Nat} {I : Nat → Nat → Int32} {R : Nat → Nat → Option Nat} {τ : Mem} {v ci k t : Nat} {x i : Int32} {r : Option Nat}
theorem gI_pt (hj : Inj φ T) {K : Int32 → Option β} (h : (T v).1 = ci + 1) : gI ci k (pt φ T I R τ) (some (φ v)) K = K (I v k) := by
  have hv : (T v).1 ≠ 0 := by omega
  simp only [gI, mT_pt hj hv, mI_pt hj hv, h, if_true]
theorem gR_pt (hj : Inj φ T) {K : Option Nat → Option β} (h : (T v).1 = ci + 1) : gR ci k (pt φ T I R τ) (some (φ v)) K = K (R v k) := by
  have hv : (T v).1 ≠ 0 := by omega
  simp only [gR, mT_pt hj hv, mR_pt hj hv, h, if_true]
theorem ob_pt (hj : Inj φ T) {K : Nat → Option β} (h : (T v).1 = ci + 1) : ob ci (pt φ T I R τ) (some (φ v)) K = K (φ v) := by
  have hv : (T v).1 ≠ 0 := by omega
  simp only [ob, mT_pt hj hv, h, if_true]
theorem pI_pt (hj : Inj φ T) {K : Mem → Option β} (h : (T v).1 = ci + 1) : pI ci k (pt φ T I R τ) (some (φ v)) x K = K (pt φ T (up2 I v k x) R τ) := by
  have hv : (T v).1 ≠ 0 := by omega
  simp only [pI, mT_pt hj hv, sI_pt hj hv, h, if_true]
theorem pB_pt (hj : Inj φ T) {K : Mem → Option β} (h : (T v).1 = ci + 1) (hx : x = 0 ∨ x = 1) : pB ci k (pt φ T I R τ) (some (φ v)) x K = K (pt φ T (up2 I v k x) R τ) := by
  have hv : (T v).1 ≠ 0 := by omega
  simp only [pB, mT_pt hj hv, sI_pt hj hv, h, hx, and_self, if_true]
theorem pR_pt (hj : Inj φ T) {K : Mem → Option β} (h : (T v).1 = ci + 1) : pR ci k (pt φ T I R τ) (some (φ v)) r K = K (pt φ T I (up2 R v k r) τ) := by
  have hv : (T v).1 ≠ 0 := by omega
  simp only [pR, mT_pt hj hv, sR_pt hj hv, h, if_true]
theorem aI_pt (hj : Inj φ T) {K : Int32 → Option β} (h : (T v).1 = 100) (h1 : ¬ i < 0) (h2 : i.toNatClampNeg < (T v).2) : aI (pt φ T I R τ) (some (φ v)) i K = K (I v i.toNatClampNeg) := by
  have hv : (T v).1 ≠ 0 := by omega
  simp only [aI, mT_pt hj hv, mI_pt hj hv, isA, ix, h, h1, h2, not_false_eq_true, true_or, and_self, if_true]
theorem aR_pt (hj : Inj φ T) {K : Option Nat → Option β} (h : (T v).1 = 100 + t) (h1 : ¬ i < 0) (h2 : i.toNatClampNeg < (T v).2) : aR t (pt φ T I R τ) (some (φ v)) i K = K (R v i.toNatClampNeg) := by
  have hv : (T v).1 ≠ 0 := by omega
  simp only [aR, mT_pt hj hv, mR_pt hj hv, isA, ix, h, h1, h2, not_false_eq_true, true_or, and_self, if_true]
theorem wI_pt (hj : Inj φ T) {K : Mem → Option β} (h : (T v).1 = 100) (h1 : ¬ i < 0) (h2 : i.toNatClampNeg < (T v).2) : wI (pt φ T I R τ) (some (φ v)) i x K = K (pt φ T (up2 I v i.toNatClampNeg x) R τ) := by
  have hv : (T v).1 ≠ 0 := by omega
  simp only [wI, mT_pt hj hv, sI_pt hj hv, isA, ix, h, h1, h2, not_false_eq_true, true_or, and_self, if_true]
theorem aL_pt (hj : Inj φ T) {K : Int32 → Option β} (h : 100 ≤ (T v).1 ∧ (T v).1 < 104) : aL (pt φ T I R τ) (some (φ v)) K = K (Int32.ofNat (T v).2) := by
  have hv : (T v).1 ≠ 0 := by omega
  simp only [aL, mT_pt hj hv, h, and_self, true_or, if_true]
end V2
/-! cells that the view doesn't hold: what is made for a while -/
def Off (φ : Nat → Nat) (T : Nat → Nat × Nat) (a : Nat) : Prop := ∀ v, (T v).1 ≠ 0 → φ v ≠ a
section V3
variable {β : Type} {φ : Nat → Nat} {T : Nat → Nat × Nat} {I : Nat → Nat → Int32} {R : Nat → Nat → Option Nat} {τ : Mem} {v ci k t a b c : Nat} {x i n : Int32} {r : Option Nat} {tt : Nat × Nat}
theorem Off.of (h : live T φ c) (hc : c ≤ a) : Off φ T a := fun v hv e => by have := h v hv; omega
theorem mT_sI : mT (sI τ a k x) = mT τ := rfl
theorem mT_sR : mT (sR τ a k r) = mT τ := rfl
theorem mT_sN_at : mT (sN τ tt) (mZ τ) = tt := if_pos rfl
theorem mT_sN_ne (h : a ≠ mZ τ) : mT (sN τ tt) a = mT τ a := if_neg h
theorem mI_sN_ne (h : a ≠ mZ τ) : mI (sN τ tt) a = mI τ a := if_neg h
theorem mR_sN_ne (h : a ≠ mZ τ) : mR (sN τ tt) a = mR τ a := if_neg h
theorem mI_sN_at : mI (sN τ tt) (mZ τ) k = 0 := by simp [sN, mI, rowS]
theorem mR_sN_at : mR (sN τ tt) (mZ τ) k = none := by simp [sN, mR, rowS]
theorem mI_sI : mI (sI τ a k x) = up2 (mI τ) a k x := rfl
theorem mI_sR : mI (sR τ a k r) = mI τ := rfl
theorem mR_sI : mR (sI τ a k x) = mR τ := rfl
theorem mR_sR : mR (sR τ a k r) = up2 (mR τ) a k r := rfl
theorem mZ_sI : mZ (sI τ a k x) = mZ τ := rfl
theorem mZ_sR : mZ (sR τ a k r) = mZ τ := rfl
theorem mZ_sN : mZ (sN τ tt) = mZ τ + 1 := rfl
theorem gI_off {K : Int32 → Option β} (ho : Off φ T a) (h : (mT τ a).1 = ci + 1) : gI ci k (pt φ T I R τ) (some a) K = K (mI τ a k) := by
  simp only [gI, mT_off ho, mI_off ho, h, if_true]
theorem gR_off {K : Option Nat → Option β} (ho : Off φ T a) (h : (mT τ a).1 = ci + 1) : gR ci k (pt φ T I R τ) (some a) K = K (mR τ a k) := by
  simp only [gR, mT_off ho, mR_off ho, h, if_true]
theorem ob_off {K : Nat → Option β} (ho : Off φ T a) (h : (mT τ a).1 = ci + 1) : ob ci (pt φ T I R τ) (some a) K = K a := by
  simp only [ob, mT_off ho, h, if_true]
theorem pI_off {K : Mem → Option β} (ho : Off φ T a) (h : (mT τ a).1 = ci + 1) : pI ci k (pt φ T I R τ) (some a) x K = K (pt φ T I R (sI τ a k x)) := by
  simp only [pI, mT_off ho, sI_off ho, h, if_true]
theorem pB_off {K : Mem → Option β} (ho : Off φ T a) (h : (mT τ a).1 = ci + 1) (hx : x = 0 ∨ x = 1) : pB ci k (pt φ T I R τ) (some a) x K = K (pt φ T I R (sI τ a k x)) := by
  simp only [pB, mT_off ho, sI_off ho, h, hx, and_self, if_true]
theorem pR_off {K : Mem → Option β} (ho : Off φ T a) (h : (mT τ a).1 = ci + 1) : pR ci k (pt φ T I R τ) (some a) r K = K (pt φ T I R (sR τ a k r)) := by
  simp only [pR, mT_off ho, sR_off ho, h, if_true]
theorem aI_off {K : Int32 → Option β} (ho : Off φ T a) (h : (mT τ a).1 = 100) (h1 : ¬ i < 0) (h2 : i.toNatClampNeg < (mT τ a).2) : aI (pt φ T I R τ) (some a) i K = K (mI τ a i.toNatClampNeg) := by
  simp only [aI, mT_off ho, mI_off ho, isA, ix, h, h1, h2, not_false_eq_true, true_or, and_self, if_true]
theorem wI_off {K : Mem → Option β} (ho : Off φ T a) (h : (mT τ a).1 = 100) (h1 : ¬ i < 0) (h2 : i.toNatClampNeg < (mT τ a).2) : wI (pt φ T I R τ) (some a) i x K = K (pt φ T I R (sI τ a i.toNatClampNeg x)) := by
  simp only [wI, mT_off ho, sI_off ho, isA, ix, h, h1, h2, not_false_eq_true, true_or, and_self, if_true]
theorem aR_off {K : Option Nat → Option β} (ho : Off φ T a) (h : (mT τ a).1 = 100 + t) (h1 : ¬ i < 0) (h2 : i.toNatClampNeg < (mT τ a).2) : aR t (pt φ T I R τ) (some a) i K = K (mR τ a i.toNatClampNeg) := by
  simp only [aR, mT_off ho, mR_off ho, isA, ix, h, h1, h2, not_false_eq_true, true_or, and_self, if_true]
theorem nA_off {K : Mem → Option Nat → Option β} (ho : Off φ T (mZ τ)) (h1 : ¬ n < 0) (h2 : n.toNatClampNeg ≤ b) : nA t b (pt φ T I R τ) n K = K (pt φ T I R (sN τ (100 + t, n.toNatClampNeg))) (some (mZ τ)) := by
  simp only [nA, h1, h2, not_false_eq_true, and_self, if_true, sN_pt ho, mZ_pt]
theorem nO_off {K : Mem → Option Nat → Option β} (ho : Off φ T (mZ τ)) : nO ci (pt φ T I R τ) K = K (pt φ T I R (sN τ (ci + 1, 0))) (some (mZ τ)) := by
  simp only [nO, sN_pt ho, mZ_pt]
end V3
theorem oN {n : Nat} (h : n < 2147483648) : (Int32.ofNat n).toInt = n := Int32.toInt_ofNat_of_lt (by omega)
theorem oN_le {m j : Nat} (h1 : m < 2147483648) (h2 : j < 2147483648) : (Int32.ofNat m ≤ Int32.ofNat j) ↔ m ≤ j := by
  rw [Int32.le_iff_toInt_le, oN h1, oN h2]; omega
theorem oN_lt {m j : Nat} (h1 : m < 2147483648) (h2 : j < 2147483648) : (Int32.ofNat m < Int32.ofNat j) ↔ m < j := by
  rw [Int32.lt_iff_toInt_lt, oN h1, oN h2]; omega
theorem oN_eq {m j : Nat} (h1 : m < 2147483648) (h2 : j < 2147483648) : (Int32.ofNat m = Int32.ofNat j) ↔ m = j := by
  constructor
  · intro q; have := congrArg Int32.toInt q; rw [oN h1, oN h2] at this; omega
  · intro q; rw [q]
theorem oN_s {j : Nat} : Int32.ofNat j + 1 = Int32.ofNat (j + 1) := (Int32.ofNat_add j 1).symm
theorem oN_c {j : Nat} (h : j < 2147483648) : (Int32.ofNat j).toNatClampNeg = j := by
  rw [show (Int32.ofNat j).toNatClampNeg = (Int32.ofNat j).toInt.toNat from rfl, oN h]; rfl
theorem natOf {p lo hi : Int32} (h1 : lo ≤ p) (h2 : p ≤ hi) (h3 : 0 ≤ lo.toInt) : ∃ m : Nat, (m : Int) = p.toInt ∧ p = Int32.ofNat m ∧ (m : Int) ≤ hi.toInt ∧ lo.toInt ≤ m := by
  have e1 := leT h1
  have e2 := leT h2
  have e3 := Int32.toInt_lt p
  refine ⟨p.toInt.toNat, by omega, ?_, by omega, by omega⟩
  apply Int32.toInt_inj.mp
  rw [oN (by omega)]; omega

theorem itr_loop {St β : Type} (L : Nat → St → Option β) (Inv : Nat → St → Prop) (N : Nat) (step : ∀ n k s, k < N → Inv k s → ∃ s', Inv (k + 1) s' ∧ L (n + 1) s = L n s') : ∀ (d k n : Nat) (s : St), k + d = N → d ≤ n → Inv k s → ∃ s', Inv N s' ∧ L n s = L (n - d) s' := by
  intro d
  induction d with
  | zero => intro k n s h1 _ h3; exact ⟨s, (show k = N by omega) ▸ h3, rfl⟩
  | succ d ih =>
    intro k n s h1 h2 h3
    obtain ⟨m, rfl⟩ : ∃ m, n = m + 1 := ⟨n - 1, by omega⟩
    obtain ⟨s1, h4, h5⟩ := step m k s (by omega) h3
    obtain ⟨s2, h6, h7⟩ := ih (k + 1) m s1 (by omega) (by omega) h4
    exact ⟨s2, h6, by rw [h5, h7]; congr 1; omega⟩
def sm (f : Nat → Int32) : Nat → Int32
  | 0 => 0
  | n + 1 => sm f n + f n
theorem sm_congr {f g : Nat → Int32} {n : Nat} (h : ∀ i, i < n → f i = g i) : sm f n = sm g n := by
  induction n with
  | zero => rfl
  | succ n ih => simp only [sm]; rw [ih (fun i hi => h i (by omega)), h n (by omega)]
theorem kN_lt {a b : Nat} (ha : a < 1000000) (hb : b < 1000000) : (Int32.ofNat a < Int32.ofNat b) ↔ a < b := by
  rw [Int32.lt_iff_toInt_lt, Int32.toInt_ofNat_of_lt (by omega), Int32.toInt_ofNat_of_lt (by omega)]; omega
theorem kN_le {a b : Nat} (ha : a < 1000000) (hb : b < 1000000) : (Int32.ofNat a ≤ Int32.ofNat b) ↔ a ≤ b := by
  rw [Int32.le_iff_toInt_le, Int32.toInt_ofNat_of_lt (by omega), Int32.toInt_ofNat_of_lt (by omega)]; omega
theorem kN_eq {a b : Nat} (ha : a < 1000000) (hb : b < 1000000) : (Int32.ofNat a = Int32.ofNat b) ↔ a = b := by
  rw [← Int32.toInt_inj, Int32.toInt_ofNat_of_lt (by omega), Int32.toInt_ofNat_of_lt (by omega)]; omega
theorem kN_s (a : Nat) : Int32.ofNat a + 1 = Int32.ofNat (a + 1) := (Int32.ofNat_add a 1).symm
theorem kN_nn {a : Nat} (ha : a < 1000000) : ¬ Int32.ofNat a < 0 := by
  rw [show (0 : Int32) = Int32.ofNat 0 from rfl, kN_lt ha (by omega)]; omega
theorem kN_t {a : Nat} (ha : a < 1000000) : (Int32.ofNat a).toInt = a := Int32.toInt_ofNat_of_lt (by omega)
theorem tnK {k : Nat} (h : k < 1000000) : (Int32.ofNat k).toNatClampNeg = k := oN_c (by omega)
