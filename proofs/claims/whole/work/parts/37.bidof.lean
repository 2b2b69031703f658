/-! THE MARKET: the reference's side -/
theorem InN.num {p : Int32} {N : Nat} (hN : N ≤ 16) (h : InN p N) : ∃ k, k < N ∧ p = Int32.ofNat k := by
  obtain ⟨a1, a2, a3, a4, a5⟩ := idx hN h.1 h.2
  obtain ⟨m, e1, e2, -, -⟩ := natOf (p := p) (lo := 0) (hi := p) a1 (Int32.le_refl _) (by decide)
  refine ⟨m, ?_, e2⟩
  rw [show p.toNatClampNeg = p.toInt.toNat from rfl, ← e1] at a5
  simpa using a5
theorem pw_idx {α : Type} {P : α → α → Prop} {l : List α} (h : l.Pairwise P) : ∀ {i j : Nat} {a b : α}, i < j → l[i]? = some a → l[j]? = some b → P a b := by
  induction l with
  | nil => intro i j a b _ h1 _; simp at h1
  | cons x l ih =>
    intro i j a b hij h1 h2
    rw [List.pairwise_cons] at h
    obtain ⟨j', rfl⟩ : ∃ j', j = j' + 1 := ⟨j - 1, by omega⟩
    rw [List.getElem?_cons_succ] at h2
    cases i with
    | zero =>
      rw [List.getElem?_cons_zero] at h1
      cases h1
      exact h.1 b (List.mem_of_getElem? h2)
    | succ i =>
      rw [List.getElem?_cons_succ] at h1
      exact ih h.2 (by omega) h1 h2
theorem bid_len {xa xp xt : Nat → Int32} {b : List (Nat × Int32)} {n : Nat} (h : BidR xa xp xt b n) : b.length ≤ 4 := by
  obtain ⟨-, h2, -, h4⟩ := h
  have g : ∀ k, k < b.length → ∃ e, b[k]? = some e ∧ e.1 < 4 := fun k hk => ⟨b[k], List.getElem?_eq_getElem hk, (h2 _ (List.getElem_mem hk)).1⟩
  by_cases c : b.length ≤ 4
  · exact c
  · obtain ⟨a0, p0, q0⟩ := g 0 (by omega)
    obtain ⟨a1, p1, q1⟩ := g 1 (by omega)
    obtain ⟨a2, p2, q2⟩ := g 2 (by omega)
    obtain ⟨a3, p3, q3⟩ := g 3 (by omega)
    obtain ⟨a4, p4, q4⟩ := g 4 (by omega)
    have n01 := (pw_idx h4 (show 0 < 1 by decide) p0 p1).1
    have n02 := (pw_idx h4 (show 0 < 2 by decide) p0 p2).1
    have n03 := (pw_idx h4 (show 0 < 3 by decide) p0 p3).1
    have n04 := (pw_idx h4 (show 0 < 4 by decide) p0 p4).1
    have n12 := (pw_idx h4 (show 1 < 2 by decide) p1 p2).1
    have n13 := (pw_idx h4 (show 1 < 3 by decide) p1 p3).1
    have n14 := (pw_idx h4 (show 1 < 4 by decide) p1 p4).1
    have n23 := (pw_idx h4 (show 2 < 3 by decide) p2 p3).1
    have n24 := (pw_idx h4 (show 2 < 4 by decide) p2 p4).1
    have n34 := (pw_idx h4 (show 3 < 4 by decide) p3 p4).1
    omega
/-- those that can have it, in order -/
def abl (ok : Nat × Int32 → Bool) (b : List (Nat × Int32)) : Nat → List (Nat × Int32)
  | 0 => []
  | k + 1 => match b[k]? with
    | some e => if ok e then abl ok b k ++ [e] else abl ok b k
    | none => abl ok b k
section AB
variable {ok : Nat × Int32 → Bool} {b : List (Nat × Int32)} {k : Nat}
theorem abl_some {e : Nat × Int32} (h : b[k]? = some e) : abl ok b (k + 1) = if ok e then abl ok b k ++ [e] else abl ok b k := by
  simp only [abl, h]
theorem abl_len : ∀ k, (abl ok b k).length ≤ k := by
  intro k
  induction k with
  | zero => exact Nat.le_refl _
  | succ k ih =>
    simp only [abl]
    split
    · split
      · rw [len_app]; omega
      · omega
    · omega
theorem abl_mem : ∀ (k j : Nat) (e : Nat × Int32), (abl ok b k)[j]? = some e → ∃ k' : Nat, k' < k ∧ b[k']? = some e ∧ ok e = true := by
  intro k
  induction k with
  | zero => intro j e h; simp [abl] at h
  | succ k ih =>
    intro j e h
    simp only [abl] at h
    split at h
    · rename_i e' he'
      split at h
      · rename_i hok
        rcases get_app h with h1 | ⟨-, h2⟩
        · obtain ⟨k', a, c⟩ := ih j e h1; exact ⟨k', by omega, c⟩
        · subst h2; exact ⟨k, by omega, he', hok⟩
      · obtain ⟨k', a, c⟩ := ih j e h; exact ⟨k', by omega, c⟩
    · obtain ⟨k', a, c⟩ := ih j e h; exact ⟨k', by omega, c⟩
theorem abl_ord : ∀ (k j j' : Nat) (e f : Nat × Int32), j < j' → (abl ok b k)[j]? = some e → (abl ok b k)[j']? = some f → ∃ k1 k2 : Nat, k1 < k2 ∧ b[k1]? = some e ∧ b[k2]? = some f := by
  intro k
  induction k with
  | zero => intro j j' e f _ h; simp [abl] at h
  | succ k ih =>
    intro j j' e f hjj h1 h2
    simp only [abl] at h1 h2
    split at h1
    · rename_i e' he'
      rw [he'] at h2
      split at h1
      · rename_i hok
        simp only [hok, if_true] at h2
        rcases get_app h1 with h3 | ⟨h3, h4⟩
        · rcases get_app h2 with h5 | ⟨h5, h6⟩
          · exact ih j j' e f hjj h3 h5
          · obtain ⟨k1, a, c, -⟩ := abl_mem k j e h3
            subst h6; exact ⟨k1, k, a, c, he'⟩
        · rcases get_app h2 with h5 | ⟨h5, h6⟩
          · have := get_lt h5; omega
          · omega
      · rename_i hok
        simp only [hok] at h2
        exact ih j j' e f hjj h1 h2
    · rename_i he'
      rw [he'] at h2
      exact ih j j' e f hjj h1 h2
theorem abl_all : ∀ (k k' : Nat) (e : Nat × Int32), k' < k → b[k']? = some e → ok e = true → ∃ j : Nat, (abl ok b k)[j]? = some e := by
  intro k
  induction k with
  | zero => intro k' e h; omega
  | succ k ih =>
    intro k' e hk he hok
    by_cases c : k' = k
    · subst c
      rw [abl_some he, if_pos hok]
      exact ⟨(abl ok b k').length, by rw [List.getElem?_append_right (Nat.le_refl _)]; simp⟩
    · obtain ⟨j, hj⟩ := ih k' e (by omega) he hok
      simp only [abl]
      split
      · split
        · exact ⟨j, by rw [List.getElem?_append_left (get_lt hj)]; exact hj⟩
        · exact ⟨j, hj⟩
      · exact ⟨j, hj⟩
end AB
/-- the best bid and the next price -/
def oc (A : List (Nat × Int32)) : Nat → Option (Nat × Int32) × Int32
  | 0 => (none, 0)
  | k + 1 => match A[k]? with
    | some e => match (oc A k).1 with
      | none => (some e, 0)
      | some f => if e.2 ≤ f.2 then (some f, if (oc A k).2 < e.2 then e.2 else (oc A k).2) else (some e, f.2)
    | none => oc A k
def prM (rs : Int32) (e : Nat × Int32) (nx : Int32) : Int32 := if nx = 0 then rs else if nx + 1 < e.2 then nx + 1 else e.2
section MB
variable {φ : Nat → Nat} {T : Nat → Nat × Nat} {I : Nat → Nat → Int32} {R : Nat → Nat → Option Nat} {τ : Mem} {e0 nS nL cS cL n z : Nat} {mx : Nat → Int32} {cB : Nat → Nat} {bl : Nat → List (Nat × Int32)}
variable {mi a k i la : Nat} {J : Nat → Nat → Int32} {p q r : Int32} {τ0 τ1 : Mem} {b : Nat × Int32}
theorem Cx.bidr (h : Cx φ T I R z e0 nS nL cS cL mx cB bl n) (hi : i < nL) : BidR (I (6 * i + 22)) (I (6 * i + 23)) (I (6 * i + 24)) (bl i) n := (h.lr hi).2.2.2.2.2.2.2.2
theorem Cx.bd (h : Cx φ T I R z e0 nS nL cS cL mx cB bl n) (hi : i < nL) (hb : (bl i)[k]? = some b) : b.1 < 4 ∧ R (10 * i + 154) k = some (φ (10 * i + 155 + b.1)) ∧ T (10 * i + 155 + b.1) = (100, 2) ∧ I (10 * i + 155 + b.1) 0 = Int32.ofNat b.1 ∧ I (10 * i + 155 + b.1) 1 = b.2 := by
  obtain ⟨hj, hl, hx, hm, hr⟩ := h; obtain ⟨hx0, hx1, hx2, hx3, hx4, hx5, hx6, hx7, hx8, hx9, hx10, hx11, hx12, hx13, hx14, hx15, hx16, hx17, hx18, hx19, hx20, hx21, hx22, hx23, hx24, hx25, hx26, hx27⟩ := hx; obtain ⟨hm0, hm1, hm2, hm3, hm4, hm5, hm6, hm7, hm8, hm9, hm10, hm11, hm12, hm13, hm14, hm15, hm16, hm17, hm18, hm19, hm20, hm21, hm22, hm23, hm24, hm25, hm26, hm27, hm28, hm29, hm30, hm31, hm32, hm33, hm34, hm35, hm36, hm37, hm38, hm39, hm40, hm41, hm42, hm43, hm44⟩ := hm; obtain ⟨⟨⟨g1, g2⟩, ⟨g3, g4, g5, g6, g7⟩, g8, g9, g10⟩, r1, r2, r3, r4, r5, r6⟩ := hr
  exact hm40 i hi k b hb
theorem m_itB (h : Cx φ T I R (mZ τ) e0 nS nL cS cL mx cB bl n) (iL : i < nL) (hJ : J (10 * i + 153) = I (10 * i + 153)) (ha : mZ τ ≤ a) (hi : Itr τ1 a (φ (10 * i + 153)) (I (10 * i + 153) 0) k) (hb : (bl i)[k]? = some b) : f_Jx35411_hasNext_aae02 a (pt φ T J R τ1) = some (1, pt φ T J R τ1) ∧ f_Jx35411_next_0502b e0 mi a (pt φ T J R τ1) = some (some (φ (10 * i + 155 + b.1)), pt φ T J R (itS τ1 a k)) := by
  have hE := @Cx.ne0 _ _ _ _ _ _ _ _ _ _ _ _ _ _ h
  have ho := h.offZ ha
  have h4 := bid_len (h.bidr iL)
  have hk := get_lt hb
  obtain ⟨b1, b2, b3, b4, b5⟩ := h.bd iL hb
  obtain ⟨hj, hl, hx, hm, hr⟩ := h; obtain ⟨hx0, hx1, hx2, hx3, hx4, hx5, hx6, hx7, hx8, hx9, hx10, hx11, hx12, hx13, hx14, hx15, hx16, hx17, hx18, hx19, hx20, hx21, hx22, hx23, hx24, hx25, hx26, hx27⟩ := hx; obtain ⟨hm0, hm1, hm2, hm3, hm4, hm5, hm6, hm7, hm8, hm9, hm10, hm11, hm12, hm13, hm14, hm15, hm16, hm17, hm18, hm19, hm20, hm21, hm22, hm23, hm24, hm25, hm26, hm27, hm28, hm29, hm30, hm31, hm32, hm33, hm34, hm35, hm36, hm37, hm38, hm39, hm40, hm41, hm42, hm43, hm44⟩ := hm; obtain ⟨⟨⟨g1, g2⟩, ⟨g3, g4, g5, g6, g7⟩, g8, g9, g10⟩, r1, r2, r3, r4, r5, r6⟩ := hr
  have n39 := hm39 i iL
  have a1 : cB i ≠ 0 := by omega
  have T4 := hm38 i iL a1
  have R1 : R (10 * i + 153) 1 = some (φ (10 * i + 154)) := by rw [hm37 i iL, if_neg a1]
  refine ⟨m_has1 hj ho hi (hm35 i iL) (by rw [hJ]; exact hm36 i iL) hk (by omega), ?_⟩
  have hT4 : T (10 * i + 154) = (106, cB i) := T4
  have M := m_next (mi := mi) (R := R) (I := J) hj ho hi (hm35 i iL) (by rw [hJ]) (by rw [hJ]; exact hm36 i iL) hk (by omega) R1 T4 n39 (by have := hm43 i iL; omega) (hE (by rw [T4]; simp) (by omega))
  rw [M, b2]
theorem m_itB0 (h : Cx φ T I R (mZ τ) e0 nS nL cS cL mx cB bl n) (iL : i < nL) (hJ : J (10 * i + 153) = I (10 * i + 153)) (ha : mZ τ ≤ a) (hi : Itr τ1 a (φ (10 * i + 153)) (I (10 * i + 153) 0) (bl i).length) : f_Jx35411_hasNext_aae02 a (pt φ T J R τ1) = some (0, pt φ T J R τ1) := by
  have ho := h.offZ ha
  obtain ⟨hj, hl, hx, hm, hr⟩ := h; obtain ⟨hx0, hx1, hx2, hx3, hx4, hx5, hx6, hx7, hx8, hx9, hx10, hx11, hx12, hx13, hx14, hx15, hx16, hx17, hx18, hx19, hx20, hx21, hx22, hx23, hx24, hx25, hx26, hx27⟩ := hx; obtain ⟨hm0, hm1, hm2, hm3, hm4, hm5, hm6, hm7, hm8, hm9, hm10, hm11, hm12, hm13, hm14, hm15, hm16, hm17, hm18, hm19, hm20, hm21, hm22, hm23, hm24, hm25, hm26, hm27, hm28, hm29, hm30, hm31, hm32, hm33, hm34, hm35, hm36, hm37, hm38, hm39, hm40, hm41, hm42, hm43, hm44⟩ := hm; obtain ⟨⟨⟨g1, g2⟩, ⟨g3, g4, g5, g6, g7⟩, g8, g9, g10⟩, r1, r2, r3, r4, r5, r6⟩ := hr
  exact m_has0 hj ho hi (hm35 i iL) (by rw [hJ]; exact hm36 i iL)
/-! the call: bidOf -/
theorem m_bidOfNow (h : Cx φ T I R (mZ τ) e0 nS nL cS cL mx cB bl n) (hJ : ∀ v, 125 ≤ v → J v = I v) (hz : mZ τ ≤ mZ τ1) (hp : InN p nL) (hi : p.toNatClampNeg = i) {w : Nat} (hw : w < 4) : ∃ τ', f_X8_bidOfNow e0 mi (φ 124) (Int32.ofNat w) p (pt φ T J R τ1) = some (if I (6 * i + 23) w ≤ 0 then -1 else I (6 * i + 23) w, pt φ T J R τ') ∧ Kp (mZ τ1) τ1 τ' := by
  have hj := h.hj
  have iL : i < nL := hi ▸ (idx h.m.2.2.2.2.1 hp.1 hp.2).2.2.2.2
  have ho := h.offZ hz
  have B := h.bidr iL
  have h4 := bid_len B
  obtain ⟨B1, B2, B3, B4⟩ := B
  have step : ∀ d k m τ2, k + d = (bl i).length → d + 1 ≤ m → Itr τ2 (mZ τ1) (φ (10 * i + 153)) (I (10 * i + 153) 0) k → (∀ k' e, k' < k → (bl i)[k']? = some e → e.1 ≠ w) → Kp (mZ τ1) τ1 τ2 → ∃ τ', l_X8_bidOfNow_18 e0 mi m (Int32.ofNat w) (some (mZ τ1)) (pt φ T J R τ2) = some (if I (6 * i + 23) w ≤ 0 then -1 else I (6 * i + 23) w, pt φ T J R τ') ∧ Kp (mZ τ1) τ1 τ' := by
    intro d
    induction d with
    | zero =>
      intro k m τ2 hk hm hI hno hK
      obtain ⟨m, rfl⟩ : ∃ m', m = m' + 1 := ⟨m - 1, by omega⟩
      have hk' : k = (bl i).length := by omega
      subst hk'
      have e1 := m_itB0 h iL (hJ _ (by omega)) hz hI
      have i1 := hI.1
      have X0 : I (6 * i + 23) w = 0 := B3 w hw (fun e he => by
        obtain ⟨k', hk', he'⟩ := List.mem_iff_getElem.mp he
        exact hno k' e hk' (by rw [← he']; exact List.getElem?_eq_getElem hk'))
      refine ⟨τ2, ?_, hK⟩
      rw [X0]
      simp (config := {decide := true}) only [l_X8_bidOfNow_18, itr_succ, b_X8_bidOfNow_18, e1, gI_pt hj, gR_pt hj, ob_pt hj, ck_pt hj, pI_pt hj, pB_pt hj, pR_pt hj, aI_pt hj, aR_pt hj, wI_pt hj, wJ_pt hj, aL_pt hj, cl1_s, cl1_n, cl1_i, cx1_s, cx1_x, cx1_n, cx1_i, nul_n, nul_s, nm, dv2, dv3, dv4, dv5, dv8, dv10, dv20, dv40, thr, bo, gI_off, gR_off, ob_off, ck_off, pI_off, pB_off, pR_off, aI_off, wI_off, aR_off, nA_off, nO_off, mT_sI, mT_sR, mT_sJ, mT_sN_at, mI_sN_at, mR_sN_at, mI_sI, mI_sR, mI_sJ, mR_sI, mR_sR, mR_sJ, mZ_sI, mZ_sR, mZ_sN, mJ_sI, mJ_sR, ho, mI_pt hj, mT_pt hj, sB_pt, mZ_pt, mJ_pt, mJ_sJ, mZ_sJ, tn0, tn1, tn2, tn3, tn4, tn5, tn6, i1, ii0, ii1, ii2, ii3, ii4, if_true, if_false, ne_eq, not_false_eq_true, not_true_eq_false, true_and, and_true, false_and, and_false, and_self, true_or, or_true, false_or, or_false, or_self, Nat.reduceAdd, Nat.reduceLT, Nat.reduceLeDiff, Nat.succ_ne_zero, reduceIte, reduceCtorEq]
    | succ d ih =>
      intro k m τ2 hk hm hI hno hK
      obtain ⟨m, rfl⟩ : ∃ m', m = m' + 1 := ⟨m - 1, by omega⟩
      obtain ⟨e, he⟩ : ∃ e, (bl i)[k]? = some e := ⟨_, List.getElem?_eq_getElem (by omega)⟩
      obtain ⟨e1, e2⟩ := m_itB (mi := mi) h iL (hJ _ (by omega)) hz hI he
      obtain ⟨b1, b2, b3, b4, b5⟩ := h.bd iL he
      have J5 := hJ (10 * i + 155 + e.1) (by omega)
      have i1 := hI.1
      have i2 : mT (itS τ2 (mZ τ1) k) (mZ τ1) = (1, 0) := hI.1
      have mem : e ∈ bl i := List.mem_of_getElem? he
      by_cases c : e.1 = w
      · have b4' : I (10 * i + 155 + e.1) 0 = Int32.ofNat w := by rw [b4, c]
        have X1 : I (6 * i + 23) w = e.2 := by rw [← c]; exact (B2 e mem).2.2.2.1
        have pos := (B2 e mem).2.1
        have X2 : ¬ e.2 ≤ 0 := fun q => by
          have := leT q
          rw [show (0 : Int32).toInt = 0 from rfl] at this; omega
        refine ⟨itS τ2 (mZ τ1) k, ?_, hK.trans (itS_K (Nat.le_refl _))⟩
        rw [X1, if_neg X2]
        simp (config := {decide := true}) only [l_X8_bidOfNow_18, itr_succ, b_X8_bidOfNow_18, e1, e2, gI_pt hj, gR_pt hj, ob_pt hj, ck_pt hj, pI_pt hj, pB_pt hj, pR_pt hj, aI_pt hj, aR_pt hj, wI_pt hj, wJ_pt hj, aL_pt hj, cl1_s, cl1_n, cl1_i, cx1_s, cx1_x, cx1_n, cx1_i, nul_n, nul_s, nm, dv2, dv3, dv4, dv5, dv8, dv10, dv20, dv40, thr, bo, gI_off, gR_off, ob_off, ck_off, pI_off, pB_off, pR_off, aI_off, wI_off, aR_off, nA_off, nO_off, mT_sI, mT_sR, mT_sJ, mT_sN_at, mI_sN_at, mR_sN_at, mI_sI, mI_sR, mI_sJ, mR_sI, mR_sR, mR_sJ, mZ_sI, mZ_sR, mZ_sN, mJ_sI, mJ_sR, ho, mI_pt hj, mT_pt hj, sB_pt, mZ_pt, mJ_pt, mJ_sJ, mZ_sJ, tn0, tn1, tn2, tn3, tn4, tn5, tn6, i1, i2, b3, J5, b4', b5, ii0, ii1, ii2, ii3, ii4, if_true, if_false, ne_eq, not_false_eq_true, not_true_eq_false, true_and, and_true, false_and, and_false, and_self, true_or, or_true, false_or, or_false, or_self, Nat.reduceAdd, Nat.reduceLT, Nat.reduceLeDiff, Nat.succ_ne_zero, reduceIte, reduceCtorEq]
      · have b4' : ¬ I (10 * i + 155 + e.1) 0 = Int32.ofNat w := by rw [b4, kN_eq (by omega) (by omega)]; exact c
        obtain ⟨τ', r1, r2⟩ := ih (k + 1) m (itS τ2 (mZ τ1) k) (by omega) (by omega) (itS_I hI) (fun k' e' hk' he' => by
          by_cases q : k' = k
          · subst q; rw [he] at he'; cases he'; exact c
          · exact hno k' e' (by omega) he') (hK.trans (itS_K (Nat.le_refl _)))
        refine ⟨τ', ?_, r2⟩
        rw [← r1]
        simp (config := {decide := true}) only [l_X8_bidOfNow_18, itr_succ, b_X8_bidOfNow_18, e1, e2, gI_pt hj, gR_pt hj, ob_pt hj, ck_pt hj, pI_pt hj, pB_pt hj, pR_pt hj, aI_pt hj, aR_pt hj, wI_pt hj, wJ_pt hj, aL_pt hj, cl1_s, cl1_n, cl1_i, cx1_s, cx1_x, cx1_n, cx1_i, nul_n, nul_s, nm, dv2, dv3, dv4, dv5, dv8, dv10, dv20, dv40, thr, bo, gI_off, gR_off, ob_off, ck_off, pI_off, pB_off, pR_off, aI_off, wI_off, aR_off, nA_off, nO_off, mT_sI, mT_sR, mT_sJ, mT_sN_at, mI_sN_at, mR_sN_at, mI_sI, mI_sR, mI_sJ, mR_sI, mR_sR, mR_sJ, mZ_sI, mZ_sR, mZ_sN, mJ_sI, mJ_sR, ho, mI_pt hj, mT_pt hj, sB_pt, mZ_pt, mJ_pt, mJ_sJ, mZ_sJ, tn0, tn1, tn2, tn3, tn4, tn5, tn6, i1, i2, b3, J5, b4', ii0, ii1, ii2, ii3, ii4, if_true, if_false, ne_eq, not_false_eq_true, not_true_eq_false, true_and, and_true, false_and, and_false, and_self, true_or, or_true, false_or, or_false, or_self, Nat.reduceAdd, Nat.reduceLT, Nat.reduceLeDiff, Nat.succ_ne_zero, reduceIte, reduceCtorEq]
  obtain ⟨τ', r1, r2⟩ := step (bl i).length 0 40 (itN τ1 (φ (10 * i + 153)) (I (10 * i + 153) 0)) (by omega) (by omega) (itN_I _ _ _) (fun k' e hk' => by omega) (itN_K (Nat.le_refl _))
  refine ⟨τ', ?_, r2⟩
  rw [← r1]
  have G := m_getJ (τ := τ1) h (hJ 126 (by omega)) hp hi
  obtain ⟨hj, hl, hx, hm, hr⟩ := h; obtain ⟨hx0, hx1, hx2, hx3, hx4, hx5, hx6, hx7, hx8, hx9, hx10, hx11, hx12, hx13, hx14, hx15, hx16, hx17, hx18, hx19, hx20, hx21, hx22, hx23, hx24, hx25, hx26, hx27⟩ := hx; obtain ⟨hm0, hm1, hm2, hm3, hm4, hm5, hm6, hm7, hm8, hm9, hm10, hm11, hm12, hm13, hm14, hm15, hm16, hm17, hm18, hm19, hm20, hm21, hm22, hm23, hm24, hm25, hm26, hm27, hm28, hm29, hm30, hm31, hm32, hm33, hm34, hm35, hm36, hm37, hm38, hm39, hm40, hm41, hm42, hm43, hm44⟩ := hm; obtain ⟨⟨⟨g1, g2⟩, ⟨g3, g4, g5, g6, g7⟩, g8, g9, g10⟩, r1, r2, r3, r4, r5, r6⟩ := hr
  have M := m_iter (I := J) (R := R) (τ := τ1) hj ho (hm35 i iL)
  rw [hJ (10 * i + 153) (by omega)] at M
  simp (config := {decide := true}) only [f_X8_bidOfNow, b_X8_bidOfNow_0, G, M, gI_pt hj, gR_pt hj, ob_pt hj, ck_pt hj, pI_pt hj, pB_pt hj, pR_pt hj, aI_pt hj, aR_pt hj, wI_pt hj, wJ_pt hj, aL_pt hj, cl1_s, cl1_n, cl1_i, cx1_s, cx1_x, cx1_n, cx1_i, nul_n, nul_s, nm, dv2, dv3, dv4, dv5, dv8, dv10, dv20, dv40, thr, bo, mI_pt hj, mT_pt hj, sB_pt, mZ_pt, mJ_pt, mJ_sJ, mZ_sJ, tn0, tn1, tn2, tn3, tn4, tn5, tn6, hm0, hm2, hm6, hm29 i iL, hm34 i iL, hm35 i iL, ii0, ii1, ii2, ii3, ii4, if_true, if_false, ne_eq, not_false_eq_true, not_true_eq_false, true_and, and_true, false_and, and_false, and_self, true_or, or_true, false_or, or_false, or_self, Nat.reduceAdd, Nat.reduceLT, Nat.reduceLeDiff, Nat.succ_ne_zero, reduceIte, reduceCtorEq]
theorem x_hasBid (h : Cx φ T I R z e0 nS nL cS cL mx cB bl n) (hi : i < 17) {w : Nat} (hw : w < 4) : f_X0_hasBid (φ (6 * i + 22)) (Int32.ofNat w) (pt φ T J R τ) = some (if J (6 * i + 23) w ≤ 0 then 0 else 1, pt φ T J R τ) := by
  obtain ⟨hj, hl, hx, hm, hr⟩ := h; obtain ⟨hx0, hx1, hx2, hx3, hx4, hx5, hx6, hx7, hx8, hx9, hx10, hx11, hx12, hx13, hx14, hx15, hx16, hx17, hx18, hx19, hx20, hx21, hx22, hx23, hx24, hx25, hx26, hx27⟩ := hx; obtain ⟨hm0, hm1, hm2, hm3, hm4, hm5, hm6, hm7, hm8, hm9, hm10, hm11, hm12, hm13, hm14, hm15, hm16, hm17, hm18, hm19, hm20, hm21, hm22, hm23, hm24, hm25, hm26, hm27, hm28, hm29, hm30, hm31, hm32, hm33, hm34, hm35, hm36, hm37, hm38, hm39, hm40, hm41, hm42, hm43, hm44⟩ := hm; obtain ⟨⟨⟨g1, g2⟩, ⟨g3, g4, g5, g6, g7⟩, g8, g9, g10⟩, r1, r2, r3, r4, r5, r6⟩ := hr
  have c4 := kN_nn (a := w) (by omega)
  have c5 := tnK (k := w) (by omega)
  by_cases c : J (6 * i + 23) w ≤ 0 <;> simp (config := {decide := true}) only [b_X0_hasBid_14, b_X0_hasBid_0, f_X0_hasBid, gI_pt hj, gR_pt hj, ob_pt hj, ck_pt hj, pI_pt hj, pB_pt hj, pR_pt hj, aI_pt hj, aR_pt hj, wI_pt hj, wJ_pt hj, aL_pt hj, cl1_s, cl1_n, cl1_i, cx1_s, cx1_x, cx1_n, cx1_i, nul_n, nul_s, nm, dv2, dv3, dv4, dv5, dv8, dv10, dv20, dv40, thr, bo, mI_pt hj, mT_pt hj, sB_pt, mZ_pt, mJ_pt, mJ_sJ, mZ_sJ, tn0, tn1, tn2, tn3, tn4, tn5, tn6, hx21 i hi, hx22 i hi, hx24 i hi, c, c4, c5, hw, ii0, ii1, ii2, ii3, ii4, if_true, if_false, ne_eq, not_false_eq_true, not_true_eq_false, true_and, and_true, false_and, and_false, and_self, true_or, or_true, false_or, or_false, or_self, Nat.reduceAdd, Nat.reduceLT, Nat.reduceLeDiff, Nat.succ_ne_zero, reduceIte, reduceCtorEq]
theorem x_reqI (σ : Mem) {N : Nat} (hN : N < 1000) (hp : InN p N) : f_X4_requireIndex p (Int32.ofNat N) σ = some (.inl (), σ) := by
  simp (config := {decide := true}) only [b_X4_requireIndex_9, b_X4_requireIndex_0, f_X4_requireIndex, hp.1, hp.2, ii0, ii1, ii2, ii3, ii4, if_true, if_false, ne_eq, not_false_eq_true, not_true_eq_false, true_and, and_true, false_and, and_false, and_self, true_or, or_true, false_or, or_false, or_self, Nat.reduceAdd, Nat.reduceLT, Nat.reduceLeDiff, Nat.succ_ne_zero, reduceIte, reduceCtorEq]
theorem x_reqIN (σ : Mem) {N : Nat} (hN : N ≤ 16) (hp : ¬ InN p N) : f_X4_requireIndex p (Int32.ofNat N) σ = some (.inr 3, sB σ) := by
  rcases idx' hN hp with ⟨w1, w2⟩ | ⟨w1, w2, w3, w4, w5, w6⟩
  · simp (config := {decide := true}) only [b_X4_requireIndex_9, b_X4_requireIndex_0, f_X4_requireIndex, w1, thr, ii0, ii1, ii2, ii3, ii4, if_true, if_false, ne_eq, not_false_eq_true, not_true_eq_false, true_and, and_true, false_and, and_false, and_self, true_or, or_true, false_or, or_false, or_self, Nat.reduceAdd, Nat.reduceLT, Nat.reduceLeDiff, Nat.succ_ne_zero, reduceIte, reduceCtorEq]
  · simp (config := {decide := true}) only [b_X4_requireIndex_9, b_X4_requireIndex_0, f_X4_requireIndex, w1, w3, thr, ii0, ii1, ii2, ii3, ii4, if_true, if_false, ne_eq, not_false_eq_true, not_true_eq_false, true_and, and_true, false_and, and_false, and_self, true_or, or_true, false_or, or_false, or_self, Nat.reduceAdd, Nat.reduceLT, Nat.reduceLeDiff, Nat.succ_ne_zero, reduceIte, reduceCtorEq]
theorem x_bidOf (h : Cx φ T I R (mZ τ) e0 nS nL cS cL mx cB bl n) (hp : InN p nL) (hi : p.toNatClampNeg = i) {w : Nat} (hw : w < 4) : f_X4_bidOf (φ 0) (Int32.ofNat w) p (pt φ T I R τ) = some (.inl (if I (6 * i + 23) w ≤ 0 then -1 else I (6 * i + 23) w), pt φ T I R τ) := by
  have iL : i < nL := hi ▸ (idx h.m.2.2.2.2.1 hp.1 hp.2).2.2.2.2
  have hN := h.m.2.2.2.2.1
  have Q : f_X4_requireIndex (Int32.ofNat w) 4 (pt φ T I R τ) = some (.inl (), pt φ T I R τ) := x_reqI (N := 4) _ (by omega) (InN.of hw (by omega))
  have A := x_lotAt h hp hi
  have B := x_hasBid (J := I) (τ := τ) h (show i < 17 by omega) hw
  obtain ⟨hj, hl, hx, hm, hr⟩ := h; obtain ⟨hx0, hx1, hx2, hx3, hx4, hx5, hx6, hx7, hx8, hx9, hx10, hx11, hx12, hx13, hx14, hx15, hx16, hx17, hx18, hx19, hx20, hx21, hx22, hx23, hx24, hx25, hx26, hx27⟩ := hx; obtain ⟨hm0, hm1, hm2, hm3, hm4, hm5, hm6, hm7, hm8, hm9, hm10, hm11, hm12, hm13, hm14, hm15, hm16, hm17, hm18, hm19, hm20, hm21, hm22, hm23, hm24, hm25, hm26, hm27, hm28, hm29, hm30, hm31, hm32, hm33, hm34, hm35, hm36, hm37, hm38, hm39, hm40, hm41, hm42, hm43, hm44⟩ := hm; obtain ⟨⟨⟨g1, g2⟩, ⟨g3, g4, g5, g6, g7⟩, g8, g9, g10⟩, r1, r2, r3, r4, r5, r6⟩ := hr
  have c4 := kN_nn (a := w) (by omega)
  have c5 := tnK (k := w) (by omega)
  by_cases c : I (6 * i + 23) w ≤ 0
  · rw [if_pos c] at B
    simp (config := {decide := true}) only [b_X4_bidOf_35, b_X4_bidOf_0, f_X4_bidOf, Q, A, B, gI_pt hj, gR_pt hj, ob_pt hj, ck_pt hj, pI_pt hj, pB_pt hj, pR_pt hj, aI_pt hj, aR_pt hj, wI_pt hj, wJ_pt hj, aL_pt hj, cl1_s, cl1_n, cl1_i, cx1_s, cx1_x, cx1_n, cx1_i, nul_n, nul_s, nm, dv2, dv3, dv4, dv5, dv8, dv10, dv20, dv40, thr, bo, mI_pt hj, mT_pt hj, sB_pt, mZ_pt, mJ_pt, mJ_sJ, mZ_sJ, tn0, tn1, tn2, tn3, tn4, tn5, tn6, hx0, hx15 i (by omega), hx18 i (by omega), hx21 i (by omega), hx22 i (by omega), hx24 i (by omega), c, c4, c5, hw, ii0, ii1, ii2, ii3, ii4, if_true, if_false, ne_eq, not_false_eq_true, not_true_eq_false, true_and, and_true, false_and, and_false, and_self, true_or, or_true, false_or, or_false, or_self, Nat.reduceAdd, Nat.reduceLT, Nat.reduceLeDiff, Nat.succ_ne_zero, reduceIte, reduceCtorEq]
  · rw [if_neg c] at B
    simp (config := {decide := true}) only [b_X4_bidOf_35, b_X4_bidOf_0, f_X4_bidOf, Q, A, B, gI_pt hj, gR_pt hj, ob_pt hj, ck_pt hj, pI_pt hj, pB_pt hj, pR_pt hj, aI_pt hj, aR_pt hj, wI_pt hj, wJ_pt hj, aL_pt hj, cl1_s, cl1_n, cl1_i, cx1_s, cx1_x, cx1_n, cx1_i, nul_n, nul_s, nm, dv2, dv3, dv4, dv5, dv8, dv10, dv20, dv40, thr, bo, mI_pt hj, mT_pt hj, sB_pt, mZ_pt, mJ_pt, mJ_sJ, mZ_sJ, tn0, tn1, tn2, tn3, tn4, tn5, tn6, hx0, hx15 i (by omega), hx18 i (by omega), hx21 i (by omega), hx22 i (by omega), hx24 i (by omega), c, c4, c5, hw, ii0, ii1, ii2, ii3, ii4, if_true, if_false, ne_eq, not_false_eq_true, not_true_eq_false, true_and, and_true, false_and, and_false, and_self, true_or, or_true, false_or, or_false, or_self, Nat.reduceAdd, Nat.reduceLT, Nat.reduceLeDiff, Nat.succ_ne_zero, reduceIte, reduceCtorEq]
theorem op_bidOf {x m o : Nat} {σ : Mem} (q p : Int32) (h : Jn e0 x m o n σ) : Agr e0 x m o n (f_L_bidOf (some x) q p (some o) σ) (fun σ => f_X8_bidOf e0 mi m q p σ) := by
  obtain ⟨φ, T, I, R, τ, nS, nL, cS, cL, mx, cB, bl, rfl, ⟨rfl, rfl, rfl⟩, h⟩ := h
  have h : Cx φ T I R (mZ τ) e0 nS nL cS cL mx cB bl n := h
  have hj := h.hj
  have h0 := h.m.1
  have hx0 := h.m.2.2.2.2.2.2.2
  have h132 := h.m.2.2.2.2.2.2.1
  have h' : Cx φ T I R (mZ (sB τ)) e0 nS nL cS cL mx cB bl n := h.up (Nat.le_succ _)
  by_cases hq : InN q 4
  · have Q := x_reqI (N := 4) (pt φ T I R τ) (by omega) hq
    by_cases hp : InN p nL
    · have iL := (idx h.m.2.2.2.2.1 hp.1 hp.2).2.2.2.2
      generalize hi : p.toNatClampNeg = i at iL
      obtain ⟨w, w4, rfl⟩ := hq.num (by decide)
      obtain ⟨v, hv⟩ : ∃ v, v = if I (6 * i + 23) w ≤ 0 then -1 else I (6 * i + 23) w := ⟨_, rfl⟩
      obtain ⟨τ', e1, e2⟩ := m_bidOfNow (mi := mi) (J := up2 I 124 0 0) (τ1 := sJ τ (φ 132) 0 v.toInt64) h (fun v hv => up2_row (by omega)) (Nat.le_refl _) hp hi w4
      have X := x_bidOf h hp hi w4
      rw [← hv] at e1 X
      refine Agr.val (v := v) (τ' := τ') h e2.1 ((e2.out h.out).trans sJ_at) ?_ ?_
      · simp (config := {decide := true}) only [f_L_bidOf, b_L_bidOf_0, X, gI_pt hj, gR_pt hj, ob_pt hj, ck_pt hj, pI_pt hj, pB_pt hj, pR_pt hj, aI_pt hj, aR_pt hj, wI_pt hj, wJ_pt hj, aL_pt hj, cl1_s, cl1_n, cl1_i, cx1_s, cx1_x, cx1_n, cx1_i, nul_n, nul_s, nm, dv2, dv3, dv4, dv5, dv8, dv10, dv20, dv40, thr, bo, mI_pt hj, mT_pt hj, sB_pt, mZ_pt, mJ_pt, mJ_sJ, mZ_sJ, tn0, tn1, tn2, tn3, tn4, tn5, tn6, hx0, h132, ii0, ii1, ii2, ii3, ii4, if_true, if_false, ne_eq, not_false_eq_true, not_true_eq_false, true_and, and_true, false_and, and_false, and_self, true_or, or_true, false_or, or_false, or_self, Nat.reduceAdd, Nat.reduceLT, Nat.reduceLeDiff, Nat.succ_ne_zero, reduceIte, reduceCtorEq]
      · have h'' : Cx φ T I R (mZ (sJ τ (φ 132) 0 v.toInt64)) e0 nS nL cS cL mx cB bl n := h
        simp (config := {decide := true}) only [f_X8_bidOf, b_X8_bidOf_0, b_X8_bidOf_21, b_X8_bidOf_38, m_noBuy _ hq, m_noLot h'' hp, m_start0 hj h0, e1, gI_pt hj, gR_pt hj, ob_pt hj, ck_pt hj, pI_pt hj, pB_pt hj, pR_pt hj, aI_pt hj, aR_pt hj, wI_pt hj, wJ_pt hj, aL_pt hj, cl1_s, cl1_n, cl1_i, cx1_s, cx1_x, cx1_n, cx1_i, nul_n, nul_s, nm, dv2, dv3, dv4, dv5, dv8, dv10, dv20, dv40, thr, bo, mI_pt hj, mT_pt hj, sB_pt, mZ_pt, mJ_pt, mJ_sJ, mZ_sJ, tn0, tn1, tn2, tn3, tn4, tn5, tn6, h0, ii0, ii1, ii2, ii3, ii4, if_true, if_false, ne_eq, not_false_eq_true, not_true_eq_false, true_and, and_true, false_and, and_false, and_self, true_or, or_true, false_or, or_false, or_self, Nat.reduceAdd, Nat.reduceLT, Nat.reduceLeDiff, Nat.succ_ne_zero, reduceIte, reduceCtorEq]
    · refine Agr.bad (k := 1) (b := 0) h (by decide) ?_ ?_
      · simp (config := {decide := true}) only [f_L_bidOf, b_L_bidOf_0, f_X4_bidOf, b_X4_bidOf_0, Q, show (4 : Int32) = Int32.ofNat 4 from rfl, x_lotAtN h hp, gI_pt hj, gR_pt hj, ob_pt hj, ck_pt hj, pI_pt hj, pB_pt hj, pR_pt hj, aI_pt hj, aR_pt hj, wI_pt hj, wJ_pt hj, aL_pt hj, cl1_s, cl1_n, cl1_i, cx1_s, cx1_x, cx1_n, cx1_i, nul_n, nul_s, nm, dv2, dv3, dv4, dv5, dv8, dv10, dv20, dv40, thr, bo, mI_pt hj, mT_pt hj, sB_pt, mZ_pt, mJ_pt, mJ_sJ, mZ_sJ, tn0, tn1, tn2, tn3, tn4, tn5, tn6, hx0, h132, ii0, ii1, ii2, ii3, ii4, if_true, if_false, ne_eq, not_false_eq_true, not_true_eq_false, true_and, and_true, false_and, and_false, and_self, true_or, or_true, false_or, or_false, or_self, Nat.reduceAdd, Nat.reduceLT, Nat.reduceLeDiff, Nat.succ_ne_zero, reduceIte, reduceCtorEq]
      · simp (config := {decide := true}) only [f_X8_bidOf, b_X8_bidOf_0, b_X8_bidOf_16, b_X8_bidOf_21, b_X8_bidOf_38, m_noBuy _ hq, m_noLotN h' hp, m_start1 hj h0 (show ¬ (1 : Int32) ≤ 0 by decide), gI_pt hj, gR_pt hj, ob_pt hj, ck_pt hj, pI_pt hj, pB_pt hj, pR_pt hj, aI_pt hj, aR_pt hj, wI_pt hj, wJ_pt hj, aL_pt hj, cl1_s, cl1_n, cl1_i, cx1_s, cx1_x, cx1_n, cx1_i, nul_n, nul_s, nm, dv2, dv3, dv4, dv5, dv8, dv10, dv20, dv40, thr, bo, mI_pt hj, mT_pt hj, sB_pt, mZ_pt, mJ_pt, mJ_sJ, mZ_sJ, tn0, tn1, tn2, tn3, tn4, tn5, tn6, h0, ii0, ii1, ii2, ii3, ii4, if_true, if_false, ne_eq, not_false_eq_true, not_true_eq_false, true_and, and_true, false_and, and_false, and_self, true_or, or_true, false_or, or_false, or_self, Nat.reduceAdd, Nat.reduceLT, Nat.reduceLeDiff, Nat.succ_ne_zero, reduceIte, reduceCtorEq]
  · refine Agr.bad (k := 1) (b := 0) h (by decide) ?_ ?_
    · have Q := x_reqIN (N := 4) (pt φ T I R τ) (by omega) hq
      simp (config := {decide := true}) only [f_L_bidOf, b_L_bidOf_0, f_X4_bidOf, b_X4_bidOf_0, Q, show (4 : Int32) = Int32.ofNat 4 from rfl, gI_pt hj, gR_pt hj, ob_pt hj, ck_pt hj, pI_pt hj, pB_pt hj, pR_pt hj, aI_pt hj, aR_pt hj, wI_pt hj, wJ_pt hj, aL_pt hj, cl1_s, cl1_n, cl1_i, cx1_s, cx1_x, cx1_n, cx1_i, nul_n, nul_s, nm, dv2, dv3, dv4, dv5, dv8, dv10, dv20, dv40, thr, bo, mI_pt hj, mT_pt hj, sB_pt, mZ_pt, mJ_pt, mJ_sJ, mZ_sJ, tn0, tn1, tn2, tn3, tn4, tn5, tn6, hx0, h132, ii0, ii1, ii2, ii3, ii4, if_true, if_false, ne_eq, not_false_eq_true, not_true_eq_false, true_and, and_true, false_and, and_false, and_self, true_or, or_true, false_or, or_false, or_self, Nat.reduceAdd, Nat.reduceLT, Nat.reduceLeDiff, Nat.succ_ne_zero, reduceIte, reduceCtorEq]
    · simp (config := {decide := true}) only [f_X8_bidOf, b_X8_bidOf_0, b_X8_bidOf_16, b_X8_bidOf_21, b_X8_bidOf_38, m_noBuyN _ hq, m_start1 hj h0 (show ¬ (1 : Int32) ≤ 0 by decide), gI_pt hj, gR_pt hj, ob_pt hj, ck_pt hj, pI_pt hj, pB_pt hj, pR_pt hj, aI_pt hj, aR_pt hj, wI_pt hj, wJ_pt hj, aL_pt hj, cl1_s, cl1_n, cl1_i, cx1_s, cx1_x, cx1_n, cx1_i, nul_n, nul_s, nm, dv2, dv3, dv4, dv5, dv8, dv10, dv20, dv40, thr, bo, mI_pt hj, mT_pt hj, sB_pt, mZ_pt, mJ_pt, mJ_sJ, mZ_sJ, tn0, tn1, tn2, tn3, tn4, tn5, tn6, h0, ii0, ii1, ii2, ii3, ii4, if_true, if_false, ne_eq, not_false_eq_true, not_true_eq_false, true_and, and_true, false_and, and_false, and_self, true_or, or_true, false_or, or_false, or_self, Nat.reduceAdd, Nat.reduceLT, Nat.reduceLeDiff, Nat.succ_ne_zero, reduceIte, reduceCtorEq]
end MB
