/-! DIGEST, both -/
section D3
variable {φ : Nat → Nat} {T : Nat → Nat × Nat} {I : Nat → Nat → Int32} {R : Nat → Nat → Option Nat} {τ : Mem} {e0 nS nL cS cL n z : Nat} {mx : Nat → Int32} {cB : Nat → Nat} {bl : Nat → List (Nat × Int32)}
variable {mi a b w q k i j t c : Nat} {I' J : Nat → Nat → Int32} {p r : Int32} {d : Int64} {τ0 τ1 : Mem} {ne f g : Nat → Int32}
theorem fo_congr : ∀ m k d, (∀ j, k ≤ j → j < k + m → f j = g j) → fo f m k d = fo g m k d := by
  intro m
  induction m with
  | zero => intro k d _; rfl
  | succ m ih => intro k d h; rw [fo, fo, h k (by omega) (by omega)]; exact ih (k + 1) _ (fun j h1 h2 => h j (by omega) (by omega))
theorem T15.mv (e : T15 I I') (hN : nL ≤ 16) : MV I' nL = MV I nL := by
  have a : ∀ s, sm (ctV I' s) nL = sm (ctV I s) nL := fun s => sm_congr (fun k hk => by rw [ctV, ctV, e.1 _ (by omega)])
  have b : sm (dyV I') nL = sm (dyV I) nL := sm_congr (fun k hk => by rw [dyV, dyV, e.1 _ (by omega)])
  funext k
  simp only [MV, a, b, e.1 0 (by omega), e.1 10 (by omega)]
theorem T15.se (e : T15 I I') : ∀ m i d, i + m ≤ 4 → seD I' m i d = seD I m i d := by
  intro m
  induction m with
  | zero => intro i d _; rfl
  | succ m ih =>
    intro i d h
    have v : vSI I' i = vSI I i := by
      funext k; rw [vSI, vSI, e.1 _ (by omega), e.1 _ (by omega)]
    have w : FI I' i 3 2 = FI I i 3 2 := by rw [FI, FI, e.1 _ (by omega)]
    rw [seD, seD, v, w]
    exact ih (i + 1) _ (by omega)
theorem T15.lo (e : T15 I I') : ∀ m i d, i + m ≤ 16 → loD I' bl m i d = loD I bl m i d := by
  intro m
  induction m with
  | zero => intro i d _; rfl
  | succ m ih =>
    intro i d h
    have i16 : i < 16 := by omega
    have r19 : I' (6 * i + 19) = I (6 * i + 19) := e.1 _ (by omega)
    have r22 : I' (6 * i + 22) = I (6 * i + 22) := e.1 _ (by omega)
    have tv : (fun k => TV I' (NV I i k)) = fun k => TV I (NV I i k) := funext fun k => e.tv
    rw [loD, loD, loC, loC, loB, loB, loA, loA, r19, r22, e.vl i16, e.nv i16, tv, e.bf i16, e.wv i16, e.bd i16]
    exact ih (i + 1) _ (by omega)
theorem T15.ta (e : T15 I I') : ∀ m j d, taD I' m j d = taD I m j d ∨ 3 < j + m := by
  intro m
  induction m with
  | zero => intro j d; exact Or.inl rfl
  | succ m ih =>
    intro j d
    by_cases c : 3 < j + (m + 1)
    · exact Or.inr c
    · left
      rw [taD, taD, e.1 (j + 3) (by omega)]
      rcases ih (j + 1) (ad (ad d (gs (I (j + 3) 1) (I (j + 3) 2))) (I (j + 3) 2)) with y | y
      · exact y
      · omega
theorem T15.dg (e : T15 I I') (hN : nL ≤ 16) (hS : nS ≤ 4) : DGV I' nS nL bl = DGV I nS nL bl := by
  rw [DGV, DGV, e.mv hN, e.se nS 0 _ (by omega), e.lo nL 0 _ (by omega), e.bm hN]
  rcases e.ta 3 0 (loD I bl nL 0 (seD I nS 0 (fo (MV I nL) 15 0 5402))) with y | y
  · rw [y]
  · omega
theorem Jn.dig {x m o : Nat} {σ : Mem} (hn : n < 600) (h : Jn e0 x m o n σ) : ∃ v σ1 σ2, f_X4_digest x σ = some (.inl v, σ1) ∧ f_X8_digest e0 mi m σ1 = some (v, σ2) ∧ (mT σ1 m).1 = 10 + 1 ∧ Jn e0 x m o (n + 1) σ2 := by
  obtain ⟨φ, T, I, R, τ, nS, nL, cS, cL, mx, cB, bl, rfl, ⟨rfl, rfl, rfl⟩, h⟩ := h
  have h : Cx φ T I R (mZ τ) e0 nS nL cS cL mx cB bl n := h
  obtain ⟨I2, e1, e2⟩ := x_digest h hn
  have h2 : Cx φ T I2 R (mZ τ) e0 nS nL cS cL mx cB bl n := e2.cx h
  obtain ⟨τ', e3, e4⟩ := m_digest (mi := mi) h2 hn
  rw [e2.dg h.m.2.2.2.2.1 h.m.2.2.2.2.2.1] at e3
  exact ⟨_, _, _, e1, e3, by rw [mT_pt h.hj (by rw [h.m.1]; decide), h.m.1], Cx.jn (Cx.up h2.thr e4.1)⟩
/-! what the law sees of the state -/
theorem Jn.ts {x m o : Nat} {σ : Mem} (h : Jn e0 x m o n σ) : mT σ x = (7, 0) ∧ mT σ m = (11, 0) ∧ mT σ o = (101, 1) := by
  obtain ⟨φ, T, I, R, τ, nS, nL, cS, cL, mx, cB, bl, rfl, ⟨rfl, rfl, rfl⟩, h⟩ := h
  have h : Cx φ T I R (mZ τ) e0 nS nL cS cL mx cB bl n := h
  have hj := h.hj
  have h0 := h.m.1
  have hx0 := h.m.2.2.2.2.2.2.2
  have h132 := h.m.2.2.2.2.2.2.1
  exact ⟨by rw [mT_pt hj (by rw [hx0]; decide), hx0], by rw [mT_pt hj (by rw [h0]; decide), h0], by rw [mT_pt hj (by rw [h132]; decide), h132]⟩
theorem Jn.next {x m o : Nat} {σ : Mem} (h : Jn e0 x m o n σ) : Jn e0 x m o (n + 1) σ := by
  obtain ⟨φ, T, I, R, τ, nS, nL, cS, cL, mx, cB, bl, rfl, ⟨rfl, rfl, rfl⟩, h⟩ := h
  have h : Cx φ T I R (mZ τ) e0 nS nL cS cL mx cB bl n := h
  refine Cx.jn (Cx.rel h (fun _ _ => rfl) (h.2.2.2.2.thr h.m.2.2.2.2.1 h.m.2.2.2.2.2.1 (fun _ _ => rfl) (fun _ _ _ => rfl)))
theorem ob_some {β : Type} {ci hh : Nat} {σ : Mem} {K : Nat → Option β} {r : β} (h : ob ci σ (some hh) K = some r) : (mT σ hh).1 = ci + 1 := by
  have h' : (if (mT σ hh).1 = ci + 1 then K hh else none) = some r := h
  by_cases c : (mT σ hh).1 = ci + 1
  · exact c
  · rw [if_neg c] at h'; cases h'
theorem ob_yes {β : Type} {ci hh : Nat} {σ : Mem} {K : Nat → Option β} (h : (mT σ hh).1 = ci + 1) : ob ci σ (some hh) K = K hh := by
  show (if (mT σ hh).1 = ci + 1 then K hh else none) = _
  rw [if_pos h]
theorem ob_no {β : Type} {ci hh : Nat} {σ : Mem} {K : Nat → Option β} (h : ¬ (mT σ hh).1 = ci + 1) : ob ci σ (some hh) K = none := by
  show (if (mT σ hh).1 = ci + 1 then K hh else none) = _
  rw [if_neg h]
/-- the rest of a call: the reference's run, what was thrown, the answer -/
noncomputable def TL (m o : Nat) (M : Nat → Mem → Option (Int32 × Mem)) (B : Mem → Option (Int32 × Mem)) (k : Int32) (σ : Mem) : Option (Int32 × Mem) :=
  ob 10 σ (some m) fun h => cl1 (M h σ) fun v27 σ28 => ob 10 σ28 (some m) fun h32 => cl1 (f_X8_thrown h32 σ28) fun v30 σ31 => if v30 = k then if k = 0 then aJ σ31 (some o) 0 fun v34 => nm (v27.toInt64) fun v35 => nm (lg_cmp v34 v35) fun v36 => if v36 = 0 then B σ31 else some (0, σ31) else B σ31 else some (0, σ31)
theorem lg_self (v : Int64) : lg_cmp v v = 0 := by
  unfold lg_cmp
  split
  · rename_i h; exact absurd h Int64.lt_irrefl
  · split <;> first | rfl | (rename_i h; exact absurd rfl h)
theorem TL_step {x m o : Nat} {X : Option (Int32 × Mem)} {M : Nat → Mem → Option (Int32 × Mem)} {B : Mem → Option (Int32 × Mem)} (hA : Agr e0 x m o n X (M m)) (hO : ∀ σ1 r, M m σ1 = some r → (mT σ1 m).1 = 10 + 1) : ∃ σ2, cl1 X (TL m o M B) = B σ2 ∧ Jn e0 x m o (n + 1) σ2 := by
  obtain ⟨k, σ1, b, σ2, hX, hM, hJ, ht, ho⟩ := hA
  obtain ⟨-, t1, t2⟩ := hJ.ts
  refine ⟨σ2, ?_, hJ⟩
  have q : (mT σ2 m).1 = 10 + 1 := by rw [t1]
  have TH : f_X8_thrown m σ2 = some (k, σ2) := by
    rw [f_X8_thrown, b_X8_thrown_0, gI, if_pos q, ht]
  rw [hX, cl1_s, TL, ob_yes (hO _ _ hM), hM, cl1_s, ob_yes q, TH, cl1_s, if_pos rfl]
  by_cases c : k = 0
  · have a : ∀ {K : Int64 → Option (Int32 × Mem)}, aJ σ2 (some o) 0 K = K (mJ σ2 o 0) := by
      intro K
      show (if isA σ2 o 1 ∧ ix 0 (mT σ2 o).2 then K (mJ σ2 o (Int32.toNatClampNeg 0)) else none) = _
      rw [if_pos ⟨Or.inl (by rw [t2]), by decide, by rw [t2]; decide⟩]; rfl
    rw [if_pos c, a, nm, nm, ho c, lg_self, if_pos rfl]
  · rw [if_neg c]
end D3
