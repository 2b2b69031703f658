/-! LISTS that the view doesn't hold -/
def OL (e0 : Nat) (τ : Mem) (la : Nat) (es : List Nat) : Prop :=
  mT τ la = (2, 0) ∧ la < mZ τ ∧ mI τ la 2 = Int32.ofNat es.length ∧ ((es = [] ∧ mR τ la 1 = some e0) ∨ ∃ wa, mR τ la 1 = some wa ∧ mT τ wa = (106, 10) ∧ la < wa ∧ wa < mZ τ ∧ wa ≠ e0 ∧ es.length ≤ 10 ∧ ∀ k e, es[k]? = some e → mR τ wa k = some e)
section OLs
variable {β : Type} {φ : Nat → Nat} {T : Nat → Nat × Nat} {I J : Nat → Nat → Int32} {R : Nat → Nat → Option Nat} {τ τ1 : Mem} {e0 mi a la c s k z u v t y : Nat} {es : List Nat} {mc i p : Int32} {r : Option Nat}
/-- the same but for cells that are neither the list nor rows of ten -/
def Kq (la : Nat) (τ τ' : Mem) : Prop := mZ τ ≤ mZ τ' ∧ (∀ b, b < mZ τ → mT τ' b = mT τ b) ∧ ∀ b, b < mZ τ → b ≠ la → mT τ b ≠ (106, 10) → mI τ' b = mI τ b ∧ mR τ' b = mR τ b ∧ mJ τ' b = mJ τ b
theorem OL.kp (h : OL e0 τ la es) (hk : Kp (mZ τ) τ τ1) : OL e0 τ1 la es := by
  obtain ⟨h1, h0, h2, h3⟩ := h
  obtain ⟨k1, k2, k3, k4⟩ := hk.2 la h0
  refine ⟨by rw [k4]; exact h1, Nat.lt_of_lt_of_le h0 hk.1, by rw [k1]; exact h2, ?_⟩
  rcases h3 with ⟨h4, h5⟩ | ⟨wa, a1, a2, a3, a5, a6, a8, a7⟩
  · exact Or.inl ⟨h4, by rw [k2]; exact h5⟩
  · obtain ⟨w1, w2, w3, w4⟩ := hk.2 wa a5
    exact Or.inr ⟨wa, by rw [k2]; exact a1, by rw [w4]; exact a2, a3, Nat.lt_of_lt_of_le a5 hk.1, a6, a8, fun k e he => by rw [w2]; exact a7 k e he⟩
theorem itS_T : mT (itS τ a k) = mT τ := rfl
theorem itS_R : mR (itS τ a k) = mR τ := rfl
theorem itS_Io {b : Nat} (h : b ≠ a) : mI (itS τ a k) b = mI τ b := by simp only [itS, mI_sI]; rw [up2_row h, up2_row h]
theorem OL.it (h : OL e0 τ la es) (hb : la ≠ a) (hw : mT τ a ≠ (106, 10)) : OL e0 (itS τ a k) la es := by
  obtain ⟨h1, h0, h2, h3⟩ := h
  exact ⟨h1, h0, by rw [itS_Io hb]; exact h2, h3⟩
theorem len_app {α : Type} {l : List α} {x : α} : (l ++ [x]).length = l.length + 1 := by rw [List.length_append]; rfl
theorem get_app {α : Type} {l : List α} {x e : α} {k : Nat} (h : (l ++ [x])[k]? = some e) : l[k]? = some e ∨ (k = l.length ∧ e = x) := by
  by_cases c : k < l.length
  · left; rw [List.getElem?_append_left c] at h; exact h
  · rw [List.getElem?_append_right (by omega)] at h
    by_cases d : k - l.length = 0
    · rw [d] at h; right; exact ⟨by omega, by simpa using h.symm⟩
    · obtain ⟨m, hm⟩ : ∃ m, k - l.length = m + 1 := ⟨k - l.length - 1, by omega⟩
      rw [hm] at h; simp at h
theorem get_lt {α : Type} {l : List α} {e : α} {k : Nat} (h : l[k]? = some e) : k < l.length := (List.getElem?_eq_some_iff.mp h).1
theorem mT_pt_eq (h : mT τ1 y = mT τ y) : mT (pt φ T I R τ1) y = mT (pt φ T J R τ) y := by
  simp only [pt, mT] at h ⊢; rw [h]
theorem aLe_off (ho : Off φ T a) {K : Int32 → Option β} (hw : a ≠ e0) (h : mT τ a = (106, c)) : aLe e0 (pt φ T I R τ) (some a) K = K (Int32.ofNat c) := by
  rw [aLe, if_neg (by simp [hw]), aL, mT_off ho, h, if_pos (Or.inl ⟨by omega, by omega⟩)]
theorem ol_add (hj : Inj φ T) (hl : live T φ la) (h : OL e0 τ la es) (hn : es.length ≤ 9) (he0 : e0 < la) (hy : (mT (pt φ T I R τ) y).1 = 8 ∨ (mT (pt φ T I R τ) y).1 = 9 ∨ (mT (pt φ T I R τ) y).1 = 100) (hy2 : y < mZ τ) :
    ∃ τ', f_Jx4a65c_add_9ea2d e0 mi la (some y) (pt φ T I R τ) = some (1, pt φ T I R τ') ∧ OL e0 τ' la (es ++ [y]) ∧ Kp la τ τ' ∧ Kq la τ τ' ∧ mZ τ' ≤ mZ τ + 1 := by
  obtain ⟨h1, h0, h2, h3⟩ := h
  have ho : ∀ b, la ≤ b → Off φ T b := fun b hb => Off.of hl hb
  have hol := ho la (Nat.le_refl _)
  have t1 : (mT τ la).1 = 1 + 1 := by rw [h1]
  obtain ⟨τa, hτa⟩ : ∃ τa, τa = sI τ la 0 (mI τ la 0 + 1) := ⟨_, rfl⟩
  have ta : mT τa = mT τ := by rw [hτa]; rfl
  have ra : mR τa = mR τ := by rw [hτa]; rfl
  have za : mZ τa = mZ τ := by rw [hτa]; rfl
  have ja : mJ τa = mJ τ := by rw [hτa]; rfl
  have ia : ∀ b k, (b ≠ la ∨ k ≠ 0) → mI τa b k = mI τ b k := by
    intro b k hb
    rw [hτa, mI_sI, up2, if_neg (fun q => by rcases hb with hb | hb; exact hb q.1; exact hb q.2)]
  have t1a : (mT τa la).1 = 1 + 1 := by rw [ta]; exact t1
  have i2a : mI τa la 2 = Int32.ofNat es.length := by rw [ia _ _ (Or.inr (by decide))]; exact h2
  have ELy : ∀ τx, mT τx y = mT τ y → elOK 6 (pt φ T I R τx) y := fun τx hx => Or.inr (Or.inr (Or.inr (Or.inr ⟨rfl, by rw [mT_pt_eq (J := I) hx]; exact hy⟩)))
  have A1 : ∀ (K : Option (Int32 × Mem)) , f_Jx4a65c_add_9ea2d e0 mi la (some y) (pt φ T I R τ) = cl1 (f_Jx4a65c_add_72be8 e0 mi la (some y) (mR τ la 1) (Int32.ofNat es.length) (pt φ T I R τa)) (fun _ σ => some (1, σ)) := by
    intro _
    rw [hτa] at i2a t1a
    simp only [mI_sI] at i2a
    simp (config := {decide := true}) only [f_Jx4a65c_add_9ea2d, b_Jx4a65c_add_9ea2d_0, gI_pt hj, gR_pt hj, ob_pt hj, ck_pt hj, pI_pt hj, pB_pt hj, pR_pt hj, aI_pt hj, aR_pt hj, wI_pt hj, wJ_pt hj, aL_pt hj, cl1_s, cl1_n, cl1_i, cx1_s, cx1_x, cx1_n, cx1_i, nul_n, nul_s, nm, dv2, dv3, dv4, dv5, dv8, dv10, dv20, dv40, thr, bo, gI_off, gR_off, ob_off, ck_off, pI_off, pB_off, pR_off, aI_off, wI_off, aR_off, nA_off, nO_off, mT_sI, mT_sR, mT_sJ, mT_sN_at, mI_sN_at, mR_sN_at, mI_sI, mI_sR, mI_sJ, mR_sI, mR_sR, mR_sJ, mZ_sI, mZ_sR, mZ_sN, mJ_sI, mJ_sR, hol, mI_pt hj, mT_pt hj, sB_pt, mZ_pt, mJ_pt, mJ_sJ, mZ_sJ, tn0, tn1, tn2, tn3, tn4, tn5, tn6, t1, i2a, hτa, ii0, ii1, ii2, ii3, ii4, if_true, if_false, ne_eq, not_false_eq_true, not_true_eq_false, true_and, and_true, false_and, and_false, and_self, true_or, or_true, false_or, or_false, or_self, Nat.reduceAdd, Nat.reduceLT, Nat.reduceLeDiff, Nat.succ_ne_zero, reduceIte, reduceCtorEq]
  rw [A1 none]
  rcases h3 with ⟨h4, h5⟩ | ⟨wa, a1, a2, a3, a5, a6, a8, a7⟩
  · subst h4
    have hoz := ho (mZ τ) (Nat.le_of_lt h0)
    obtain ⟨τb, hτb⟩ : ∃ τb, τb = sR (sN τa (106, 10)) la 1 (some (mZ τ)) := ⟨_, rfl⟩
    have nz : mZ τ ≠ la := by omega
    have ny : y ≠ mZ τ := by omega
    have tb1 : mT τb (mZ τ) = (106, 10) := by rw [hτb, ← za]; exact mT_sN_at
    have tb2 : ∀ b, b ≠ mZ τ → mT τb b = mT τ b := fun b hb => by rw [hτb, mT_sR, mT_sN_ne (by rw [za]; exact hb), ta]
    have rb1 : mR τb la 1 = some (mZ τ) := by rw [hτb]; exact up2_at
    have rb2 : ∀ b, b ≠ mZ τ → b ≠ la → mR τb b = mR τ b := fun b hb hb2 => by rw [hτb, mR_sR, up2_row hb2, mR_sN_ne (by rw [za]; exact hb), ra]
    have ib : ∀ b, b ≠ mZ τ → mI τb b = mI τa b := fun b hb => by rw [hτb, mI_sR, mI_sN_ne (by rw [za]; exact hb)]
    have jb : ∀ b, b ≠ mZ τ → mJ τb b = mJ τ b := fun b hb => by rw [hτb, mJ_sR, mJ_sN (by rw [za]; exact hb), ja]
    have zb : mZ τb = mZ τ + 1 := by rw [hτb]; show mZ τa + 1 = _; rw [za]
    have G : f_Jx4a65c_grow_d5877 e0 mi la (pt φ T I R τa) = some (some (mZ τ), pt φ T I R τb) := by
      have r5 : mR τa la 1 = some e0 := by rw [ra]; exact h5
      have i2 : mI τa la 2 = 0 := i2a
      have hoz' : Off φ T (mZ τa) := by rw [za]; exact hoz
      have q1 : (mT (sN τa (106, 10)) la).1 = 1 + 1 := by rw [mT_sN_ne (by rw [za]; omega)]; exact t1a
      simp (config := {decide := true}) only [f_Jx4a65c_grow_d5877, b_Jx4a65c_grow_d5877_0, f_Jx4a65c_grow_92f84, b_Jx4a65c_grow_92f84_0, gI_pt hj, gR_pt hj, ob_pt hj, ck_pt hj, pI_pt hj, pB_pt hj, pR_pt hj, aI_pt hj, aR_pt hj, wI_pt hj, wJ_pt hj, aL_pt hj, cl1_s, cl1_n, cl1_i, cx1_s, cx1_x, cx1_n, cx1_i, nul_n, nul_s, nm, dv2, dv3, dv4, dv5, dv8, dv10, dv20, dv40, thr, bo, aLe, r5, i2, gI_off, gR_off, ob_off, ck_off, pI_off, pB_off, pR_off, aI_off, wI_off, aR_off, nA_off, nO_off, mT_sI, mT_sR, mT_sJ, mT_sN_at, mI_sN_at, mR_sN_at, mI_sI, mI_sR, mI_sJ, mR_sI, mR_sR, mR_sJ, mZ_sI, mZ_sR, mZ_sN, mJ_sI, mJ_sR, hol, hoz', hoz, mI_pt hj, mT_pt hj, sB_pt, mZ_pt, mJ_pt, mJ_sJ, mZ_sJ, tn0, tn1, tn2, tn3, tn4, tn5, tn6, t1a, q1, za, show ¬ (0 : Int32) < 0 by decide, show (0 : Int32) + 1 = 1 by decide, show ¬ (10 : Int32) < 1 by decide, show ¬ (10 : Int32) < 0 by decide, show (10 : Int32).toNatClampNeg = 10 by decide, Nat.le_refl, hτb, ii0, ii1, ii2, ii3, ii4, if_true, if_false, ne_eq, not_false_eq_true, not_true_eq_false, true_and, and_true, false_and, and_false, and_self, true_or, or_true, false_or, or_false, or_self, Nat.reduceAdd, Nat.reduceLT, Nat.reduceLeDiff, Nat.succ_ne_zero, reduceIte, reduceCtorEq]
    have W : ∀ (K : Mem → Option (Unit × Mem)), wR 6 (pt φ T I R τb) (some (mZ τ)) 0 (some y) K = K (pt φ T I R (sR τb (mZ τ) 0 (some y))) := by
      intro K
      rw [wR_off hoz (by rw [tb1]) (by decide) (by rw [tb1]; decide) (fun y' hy' => by cases hy'; exact ELy _ (tb2 y ny))]; rfl
    have q2 : (mT (sR τb (mZ τ) 0 (some y)) la).1 = 1 + 1 := by rw [mT_sR, tb2 la (by omega)]; exact t1
    refine ⟨sI (sR τb (mZ τ) 0 (some y)) la 2 1, ?_, ⟨?_, ?_, ?_, Or.inr ⟨mZ τ, ?_, ?_, h0, ?_, ?_, ?_, ?_⟩⟩, ?_, ⟨?_, ?_, ?_⟩, ?_⟩
    · simp (config := {decide := true}) only [f_Jx4a65c_add_72be8, b_Jx4a65c_add_72be8_0, b_Jx4a65c_add_72be8_11, gI_pt hj, gR_pt hj, ob_pt hj, ck_pt hj, pI_pt hj, pB_pt hj, pR_pt hj, aI_pt hj, aR_pt hj, wI_pt hj, wJ_pt hj, aL_pt hj, cl1_s, cl1_n, cl1_i, cx1_s, cx1_x, cx1_n, cx1_i, nul_n, nul_s, nm, dv2, dv3, dv4, dv5, dv8, dv10, dv20, dv40, thr, bo, aLe, h5, G, W, gI_off, gR_off, ob_off, ck_off, pI_off, pB_off, pR_off, aI_off, wI_off, aR_off, nA_off, nO_off, mT_sI, mT_sR, mT_sJ, mT_sN_at, mI_sN_at, mR_sN_at, mI_sI, mI_sR, mI_sJ, mR_sI, mR_sR, mR_sJ, mZ_sI, mZ_sR, mZ_sN, mJ_sI, mJ_sR, hol, mI_pt hj, mT_pt hj, sB_pt, mZ_pt, mJ_pt, mJ_sJ, mZ_sJ, tn0, tn1, tn2, tn3, tn4, tn5, tn6, q2, t1a, tb2 la (by omega), t1, List.length_nil, show Int32.ofNat 0 = 0 by decide, show (0 : Int32) + 1 = 1 by decide, ii0, ii1, ii2, ii3, ii4, if_true, if_false, ne_eq, not_false_eq_true, not_true_eq_false, true_and, and_true, false_and, and_false, and_self, true_or, or_true, false_or, or_false, or_self, Nat.reduceAdd, Nat.reduceLT, Nat.reduceLeDiff, Nat.succ_ne_zero, reduceIte, reduceCtorEq]
    · show mT τb la = (2, 0); rw [tb2 la (by omega)]; exact h1
    · show la < mZ τb; omega
    · show up2 (mI τb) la 2 1 la 2 = _; exact up2_at
    · show up2 (mR τb) (mZ τ) 0 (some y) la 1 = _; rw [up2_row (by omega)]; exact rb1
    · exact tb1
    · show mZ τ < mZ τb; omega
    · omega
    · simp
    · intro k e he
      rcases get_app he with he1 | ⟨he2, he3⟩
      · simp at he1
      · have he4 : k = 0 := he2
        subst he4; subst he3; show up2 (mR τb) (mZ τ) 0 (some e) (mZ τ) 0 = _; exact up2_at
    · refine ⟨by show mZ τ ≤ mZ τb; omega, fun b hb => ⟨?_, ?_, ?_, ?_⟩⟩
      · show up2 (mI τb) la 2 1 b = _; rw [up2_row (by omega), ib b (by omega)]; funext k; exact ia _ _ (Or.inl (by omega))
      · show up2 (mR τb) (mZ τ) 0 (some y) b = _; rw [up2_row (by omega), rb2 b (by omega) (by omega)]
      · exact jb b (by omega)
      · exact tb2 b (by omega)
    · show mZ τ ≤ mZ τb; omega
    · intro b hb; exact tb2 b (by omega)
    · intro b hb hb2 _
      refine ⟨?_, ?_, ?_⟩
      · show up2 (mI τb) la 2 1 b = _; rw [up2_row hb2, ib b (by omega)]; funext k; exact ia _ _ (Or.inl hb2)
      · show up2 (mR τb) (mZ τ) 0 (some y) b = _; rw [up2_row (by omega), rb2 b (by omega) hb2]
      · exact jb b (by omega)
    · show mZ τb ≤ _; omega
  · have how := ho wa (Nat.le_of_lt a3)
    have ns := kN_nn (a := es.length) (by omega)
    have tns := tnK (k := es.length) (by omega)
    have c1 : ¬ Int32.ofNat es.length = Int32.ofNat 10 := by rw [kN_eq (by omega) (by omega)]; omega
    have twa : mT τa wa = (106, 10) := by rw [ta]; exact a2
    have W : ∀ (K : Mem → Option (Unit × Mem)), wR 6 (pt φ T I R τa) (some wa) (Int32.ofNat es.length) (some y) K = K (pt φ T I R (sR τa wa es.length (some y))) := by
      intro K
      rw [wR_off how (by rw [twa]) ns (by rw [twa, tns]; show es.length < 10; omega) (fun y' hy' => by cases hy'; exact ELy _ (by rw [ta])), tns]
    have q2 : (mT (sR τa wa es.length (some y)) la).1 = 1 + 1 := t1a
    refine ⟨sI (sR τa wa es.length (some y)) la 2 (Int32.ofNat (es.length + 1)), ?_, ⟨?_, ?_, ?_, Or.inr ⟨wa, ?_, ?_, a3, ?_, a6, ?_, ?_⟩⟩, ?_, ⟨?_, ?_, ?_⟩, ?_⟩
    · simp (config := {decide := true}) only [f_Jx4a65c_add_72be8, b_Jx4a65c_add_72be8_0, b_Jx4a65c_add_72be8_11, gI_pt hj, gR_pt hj, ob_pt hj, ck_pt hj, pI_pt hj, pB_pt hj, pR_pt hj, aI_pt hj, aR_pt hj, wI_pt hj, wJ_pt hj, aL_pt hj, cl1_s, cl1_n, cl1_i, cx1_s, cx1_x, cx1_n, cx1_i, nul_n, nul_s, nm, dv2, dv3, dv4, dv5, dv8, dv10, dv20, dv40, thr, bo, a1, aLe_off how a6 twa, c1, W, gI_off, gR_off, ob_off, ck_off, pI_off, pB_off, pR_off, aI_off, wI_off, aR_off, nA_off, nO_off, mT_sI, mT_sR, mT_sJ, mT_sN_at, mI_sN_at, mR_sN_at, mI_sI, mI_sR, mI_sJ, mR_sI, mR_sR, mR_sJ, mZ_sI, mZ_sR, mZ_sN, mJ_sI, mJ_sR, hol, mI_pt hj, mT_pt hj, sB_pt, mZ_pt, mJ_pt, mJ_sJ, mZ_sJ, tn0, tn1, tn2, tn3, tn4, tn5, tn6, q2, t1a, kN_s, ii0, ii1, ii2, ii3, ii4, if_true, if_false, ne_eq, not_false_eq_true, not_true_eq_false, true_and, and_true, false_and, and_false, and_self, true_or, or_true, false_or, or_false, or_self, Nat.reduceAdd, Nat.reduceLT, Nat.reduceLeDiff, Nat.succ_ne_zero, reduceIte, reduceCtorEq]
    · show mT τa la = (2, 0); rw [ta]; exact h1
    · show la < mZ τa; omega
    · show up2 (mI τa) la 2 _ la 2 = _; rw [up2_at, len_app]
    · show up2 (mR τa) wa _ (some y) la 1 = _; rw [up2_row (by omega), ra]; exact a1
    · exact twa
    · show wa < mZ τa; omega
    · rw [len_app]; omega
    · intro k e he
      show up2 (mR τa) wa es.length (some y) wa k = _
      rcases get_app he with he1 | ⟨he2, he3⟩
      · have := get_lt he1
        rw [up2_k (by omega), ra]; exact a7 k e he1
      · rw [he2, he3]; exact up2_at
    · refine ⟨by show mZ τ ≤ mZ τa; omega, fun b hb => ⟨?_, ?_, ?_, ?_⟩⟩
      · show up2 (mI τa) la 2 _ b = _; rw [up2_row (by omega)]; funext k; exact ia _ _ (Or.inl (by omega))
      · show up2 (mR τa) wa _ (some y) b = _; rw [up2_row (by omega), ra]
      · show mJ τa b = _; rw [ja]
      · show mT τa b = _; rw [ta]
    · show mZ τ ≤ mZ τa; omega
    · intro b hb; show mT τa b = _; rw [ta]
    · intro b hb hb2 hb3
      refine ⟨?_, ?_, ?_⟩
      · show up2 (mI τa) la 2 _ b = _; rw [up2_row hb2]; funext k; exact ia _ _ (Or.inl hb2)
      · show up2 (mR τa) wa _ (some y) b = _; rw [up2_row (fun q => hb3 (by rw [q]; exact a2)), ra]
      · show mJ τa b = _; rw [ja]
    · show mZ τa ≤ _; omega
/-- the iteration over such a list -/
theorem ol_it (hj : Inj φ T) (hl : live T φ z) (h : OL e0 τ la es) (hz : z ≤ la) (ha : z ≤ a) (hi : Itr τ a la (mI τ la 0) k) (hk : k < es.length) : f_Jx35411_hasNext_aae02 a (pt φ T I R τ) = some (1, pt φ T I R τ) ∧ (∀ y, es[k]? = some y → f_Jx35411_next_0502b e0 mi a (pt φ T I R τ) = some (some y, pt φ T I R (itS τ a k))) := by
  obtain ⟨h1, h0, h2, h3⟩ := h
  have ho := Off.of hl ha
  have hol := Off.of hl hz
  obtain ⟨i1, i2, i3, i4⟩ := hi
  rcases h3 with ⟨h4, h5⟩ | ⟨wa, a1, a2, a3, a5, a6, a8, a7⟩
  · subst h4; simp at hk
  · have how := Off.of hl (show z ≤ wa by omega)
    have c : ¬ Int32.ofNat k = Int32.ofNat es.length := by rw [kN_eq (by omega) (by omega)]; omega
    refine ⟨?_, fun y hy => ?_⟩
    · simp (config := {decide := true}) only [b_Jx35411_hasNext_aae02_19, b_Jx35411_hasNext_aae02_0, f_Jx35411_hasNext_aae02, gI_pt hj, gR_pt hj, ob_pt hj, ck_pt hj, pI_pt hj, pB_pt hj, pR_pt hj, aI_pt hj, aR_pt hj, wI_pt hj, wJ_pt hj, aL_pt hj, cl1_s, cl1_n, cl1_i, cx1_s, cx1_x, cx1_n, cx1_i, nul_n, nul_s, nm, dv2, dv3, dv4, dv5, dv8, dv10, dv20, dv40, thr, bo, gI_off, gR_off, ob_off, ck_off, pI_off, pB_off, pR_off, aI_off, wI_off, aR_off, nA_off, nO_off, mT_sI, mT_sR, mT_sJ, mT_sN_at, mI_sN_at, mR_sN_at, mI_sI, mI_sR, mI_sJ, mR_sI, mR_sR, mR_sJ, mZ_sI, mZ_sR, mZ_sN, mJ_sI, mJ_sR, ho, hol, mI_pt hj, mT_pt hj, sB_pt, mZ_pt, mJ_pt, mJ_sJ, mZ_sJ, tn0, tn1, tn2, tn3, tn4, tn5, tn6, h1, i1, i2, i4, h2, c, ii0, ii1, ii2, ii3, ii4, if_true, if_false, ne_eq, not_false_eq_true, not_true_eq_false, true_and, and_true, false_and, and_false, and_self, true_or, or_true, false_or, or_false, or_self, Nat.reduceAdd, Nat.reduceLT, Nat.reduceLeDiff, Nat.succ_ne_zero, reduceIte, reduceCtorEq]
    · have c1 : Int32.ofNat k < Int32.ofNat es.length := (kN_lt (by omega) (by omega)).mpr hk
      have c2 : Int32.ofNat k < Int32.ofNat 10 := (kN_lt (by omega) (by omega)).mpr (by omega)
      have c3 : k < 10 := by omega
      have c4 := kN_nn (a := k) (by omega)
      have c5 := tnK (k := k) (by omega)
      have c6 := a7 k y hy
      simp (config := {decide := true}) only [b_Jx35411_next_0502b_0, f_Jx35411_next_0502b, b_Jx35411_checkForComodification_da8c8_0, f_Jx35411_checkForComodification_da8c8, gI_pt hj, gR_pt hj, ob_pt hj, ck_pt hj, pI_pt hj, pB_pt hj, pR_pt hj, aI_pt hj, aR_pt hj, wI_pt hj, wJ_pt hj, aL_pt hj, cl1_s, cl1_n, cl1_i, cx1_s, cx1_x, cx1_n, cx1_i, nul_n, nul_s, nm, dv2, dv3, dv4, dv5, dv8, dv10, dv20, dv40, thr, bo, gI_off, gR_off, ob_off, ck_off, pI_off, pB_off, pR_off, aI_off, wI_off, aR_off, nA_off, nO_off, mT_sI, mT_sR, mT_sJ, mT_sN_at, mI_sN_at, mR_sN_at, mI_sI, mI_sR, mI_sJ, mR_sI, mR_sR, mR_sJ, mZ_sI, mZ_sR, mZ_sN, mJ_sI, mJ_sR, aLe_off how a6 a2, ho, hol, how, mI_pt hj, mT_pt hj, sB_pt, mZ_pt, mJ_pt, mJ_sJ, mZ_sJ, tn0, tn1, tn2, tn3, tn4, tn5, tn6, h1, a1, a2, i1, i2, i3, i4, h2, c1, c2, c3, c4, c5, c6, kN_s, itS, ii0, ii1, ii2, ii3, ii4, if_true, if_false, ne_eq, not_false_eq_true, not_true_eq_false, true_and, and_true, false_and, and_false, and_self, true_or, or_true, false_or, or_false, or_self, Nat.reduceAdd, Nat.reduceLT, Nat.reduceLeDiff, Nat.succ_ne_zero, reduceIte, reduceCtorEq]
theorem ol_it0 (hj : Inj φ T) (hl : live T φ z) (h : OL e0 τ la es) (hz : z ≤ la) (ha : z ≤ a) {mc : Int32} (hi : Itr τ a la mc es.length) : f_Jx35411_hasNext_aae02 a (pt φ T I R τ) = some (0, pt φ T I R τ) := by
  obtain ⟨h1, h0, h2, h3⟩ := h
  have ho := Off.of hl ha
  have hol := Off.of hl hz
  obtain ⟨i1, i2, i3, i4⟩ := hi
  simp (config := {decide := true}) only [b_Jx35411_hasNext_aae02_19, b_Jx35411_hasNext_aae02_0, f_Jx35411_hasNext_aae02, gI_pt hj, gR_pt hj, ob_pt hj, ck_pt hj, pI_pt hj, pB_pt hj, pR_pt hj, aI_pt hj, aR_pt hj, wI_pt hj, wJ_pt hj, aL_pt hj, cl1_s, cl1_n, cl1_i, cx1_s, cx1_x, cx1_n, cx1_i, nul_n, nul_s, nm, dv2, dv3, dv4, dv5, dv8, dv10, dv20, dv40, thr, bo, gI_off, gR_off, ob_off, ck_off, pI_off, pB_off, pR_off, aI_off, wI_off, aR_off, nA_off, nO_off, mT_sI, mT_sR, mT_sJ, mT_sN_at, mI_sN_at, mR_sN_at, mI_sI, mI_sR, mI_sJ, mR_sI, mR_sR, mR_sJ, mZ_sI, mZ_sR, mZ_sN, mJ_sI, mJ_sR, ho, hol, mI_pt hj, mT_pt hj, sB_pt, mZ_pt, mJ_pt, mJ_sJ, mZ_sJ, tn0, tn1, tn2, tn3, tn4, tn5, tn6, h1, i1, i2, i4, h2, ii0, ii1, ii2, ii3, ii4, if_true, if_false, ne_eq, not_false_eq_true, not_true_eq_false, true_and, and_true, false_and, and_false, and_self, true_or, or_true, false_or, or_false, or_self, Nat.reduceAdd, Nat.reduceLT, Nat.reduceLeDiff, Nat.succ_ne_zero, reduceIte, reduceCtorEq]
theorem ol_iter (hj : Inj φ T) (hl : live T φ z) (h : OL e0 τ la es) (hz : z ≤ la) : f_Jx4a65c_iterator_32c93 la (pt φ T I R τ) = some (some (mZ τ), pt φ T I R (itN τ la (mI τ la 0))) := by
  obtain ⟨h1, h0, h2, h3⟩ := h
  have hol := Off.of hl hz
  have ho := Off.of hl (show z ≤ mZ τ by omega)
  have U : up2 (mR (sN τ (1, 0))) (mZ τ) 3 (some la) (mZ τ) 3 = some la := up2_at
  have n1 : la ≠ mZ τ := by omega
  have t1 : mT (sN τ (1, 0)) la = (2, 0) := by rw [mT_sN_ne n1]; exact h1
  have i1 : ∀ x, up2 (mI (sN τ (1, 0))) (mZ τ) 1 x la 0 = mI τ la 0 := fun x => by rw [up2_row n1, mI_sN_ne n1]
  simp (config := {decide := true}) only [b_Jx4a65c_iterator_32c93_0, f_Jx4a65c_iterator_32c93, b_Jx35411_init_45d68_0, f_Jx35411_init_45d68, gI_pt hj, gR_pt hj, ob_pt hj, ck_pt hj, pI_pt hj, pB_pt hj, pR_pt hj, aI_pt hj, aR_pt hj, wI_pt hj, wJ_pt hj, aL_pt hj, cl1_s, cl1_n, cl1_i, cx1_s, cx1_x, cx1_n, cx1_i, nul_n, nul_s, nm, dv2, dv3, dv4, dv5, dv8, dv10, dv20, dv40, thr, bo, gI_off, gR_off, ob_off, ck_off, pI_off, pB_off, pR_off, aI_off, wI_off, aR_off, nA_off, nO_off, mT_sI, mT_sR, mT_sJ, mT_sN_at, mI_sN_at, mR_sN_at, mI_sI, mI_sR, mI_sJ, mR_sI, mR_sR, mR_sJ, mZ_sI, mZ_sR, mZ_sN, mJ_sI, mJ_sR, ho, hol, mI_pt hj, mT_pt hj, sB_pt, mZ_pt, mJ_pt, mJ_sJ, mZ_sJ, tn0, tn1, tn2, tn3, tn4, tn5, tn6, t1, U, i1, itN, ii0, ii1, ii2, ii3, ii4, if_true, if_false, ne_eq, not_false_eq_true, not_true_eq_false, true_and, and_true, false_and, and_false, and_self, true_or, or_true, false_or, or_false, or_self, Nat.reduceAdd, Nat.reduceLT, Nat.reduceLeDiff, Nat.succ_ne_zero, reduceIte, reduceCtorEq]
/-- a new list -/
theorem ol_new (hj : Inj φ T) (hl : live T φ z) (hz : z ≤ mZ τ) : ∃ τ', f_Jx4a65c_init_da8c8 e0 mi (mZ τ) (pt φ T I R (sN τ (2, 0))) = some ((), pt φ T I R τ') ∧ OL e0 τ' (mZ τ) [] ∧ Kp (mZ τ) τ τ' ∧ mZ τ' = mZ τ + 1 := by
  have ho := Off.of hl hz
  refine ⟨sR (sI (sN τ (2, 0)) (mZ τ) 0 0) (mZ τ) 1 (some e0), ?_, ⟨mT_sN_at, Nat.lt_succ_self _, ?_, Or.inl ⟨rfl, up2_at⟩⟩, (Kp.sN (Nat.le_refl _)).trans ((Kp.sI (Nat.le_refl _)).trans (Kp.sR (Nat.le_refl _))), rfl⟩
  · simp (config := {decide := true}) only [b_Jx4a65c_init_da8c8_0, f_Jx4a65c_init_da8c8, b_Jxc12de_init_da8c8_0, f_Jxc12de_init_da8c8, b_Jxa1e45_init_da8c8_0, f_Jxa1e45_init_da8c8, gI_pt hj, gR_pt hj, ob_pt hj, ck_pt hj, pI_pt hj, pB_pt hj, pR_pt hj, aI_pt hj, aR_pt hj, wI_pt hj, wJ_pt hj, aL_pt hj, cl1_s, cl1_n, cl1_i, cx1_s, cx1_x, cx1_n, cx1_i, nul_n, nul_s, nm, dv2, dv3, dv4, dv5, dv8, dv10, dv20, dv40, thr, bo, gI_off, gR_off, ob_off, ck_off, pI_off, pB_off, pR_off, aI_off, wI_off, aR_off, nA_off, nO_off, mT_sI, mT_sR, mT_sJ, mT_sN_at, mI_sN_at, mR_sN_at, mI_sI, mI_sR, mI_sJ, mR_sI, mR_sR, mR_sJ, mZ_sI, mZ_sR, mZ_sN, mJ_sI, mJ_sR, ho, mI_pt hj, mT_pt hj, sB_pt, mZ_pt, mJ_pt, mJ_sJ, mZ_sJ, tn0, tn1, tn2, tn3, tn4, tn5, tn6, ii0, ii1, ii2, ii3, ii4, if_true, if_false, ne_eq, not_false_eq_true, not_true_eq_false, true_and, and_true, false_and, and_false, and_self, true_or, or_true, false_or, or_false, or_self, Nat.reduceAdd, Nat.reduceLT, Nat.reduceLeDiff, Nat.succ_ne_zero, reduceIte, reduceCtorEq]
  · show up2 (mI (sN τ (2, 0))) (mZ τ) 0 0 (mZ τ) 2 = _; rw [up2_k (by decide)]; exact mI_sN_at
end OLs
