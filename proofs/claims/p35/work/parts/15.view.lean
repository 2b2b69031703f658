/-! THE VIEW of a memory: cells by places of our own, φ says where they lie -/
section V0
variable {φ : Nat → Nat} {T : Nat → Nat × Nat} {I : Nat → Nat → Int32} {R : Nat → Nat → Option Nat} {σ : Mem} {v w a k j : Nat}
noncomputable def vinv (φ : Nat → Nat) (T : Nat → Nat × Nat) (a : Nat) : Option Nat :=
  @dite _ (∃ v, (T v).1 ≠ 0 ∧ φ v = a) (Classical.propDecidable _) (fun h => some (Classical.choose h)) (fun _ => none)
def Inj (φ : Nat → Nat) (T : Nat → Nat × Nat) : Prop := ∀ v w, (T v).1 ≠ 0 → (T w).1 ≠ 0 → φ v = φ w → v = w
theorem vinv_on (h : Inj φ T) (hv : (T v).1 ≠ 0) : vinv φ T (φ v) = some v := by
  have hx : ∃ x, (T x).1 ≠ 0 ∧ φ x = φ v := ⟨v, hv, rfl⟩
  unfold vinv
  rw [dif_pos hx]
  have := Classical.choose_spec hx
  rw [h _ _ this.1 hv this.2]
theorem vinv_off (h : ∀ v, (T v).1 ≠ 0 → φ v ≠ a) : vinv φ T a = none := by
  unfold vinv
  exact dif_neg (fun ⟨v, h1, h2⟩ => h v h1 h2)
theorem vinv_some {b : Nat} (h : vinv φ T a = some b) : (T b).1 ≠ 0 ∧ φ b = a := by
  unfold vinv at h
  by_cases hx : ∃ v, (T v).1 ≠ 0 ∧ φ v = a
  · rw [dif_pos hx] at h
    cases h
    exact Classical.choose_spec hx
  · rw [dif_neg hx] at h; cases h
theorem vinv_no (h : vinv φ T a = none) : ∀ v, (T v).1 ≠ 0 → φ v ≠ a := by
  intro v hv e
  unfold vinv at h
  rw [dif_pos ⟨v, hv, e⟩] at h; cases h
def vsel {α : Type} (o : Option Nat) (f : Nat → α) (d : α) : α := match o with
  | some v => f v
  | none => d
noncomputable def pt (φ : Nat → Nat) (T : Nat → Nat × Nat) (I : Nat → Nat → Int32) (R : Nat → Nat → Option Nat) (σ : Mem) : Mem :=
  (fun a => vsel (vinv φ T a) I (mI σ a), fun a => vsel (vinv φ T a) R (mR σ a), mJ σ, fun a => vsel (vinv φ T a) T (mT σ a), mZ σ)
theorem mI_pt (h : Inj φ T) (hv : (T v).1 ≠ 0) : mI (pt φ T I R σ) (φ v) = I v := by simp only [pt, mI, vinv_on h hv, vsel]
theorem mR_pt (h : Inj φ T) (hv : (T v).1 ≠ 0) : mR (pt φ T I R σ) (φ v) = R v := by simp only [pt, mR, vinv_on h hv, vsel]
theorem mT_pt (h : Inj φ T) (hv : (T v).1 ≠ 0) : mT (pt φ T I R σ) (φ v) = T v := by simp only [pt, mT, vinv_on h hv, vsel]
theorem mJ_pt : mJ (pt φ T I R σ) = mJ σ := rfl
theorem mZ_pt : mZ (pt φ T I R σ) = mZ σ := rfl
theorem mI_off (h : ∀ v, (T v).1 ≠ 0 → φ v ≠ a) : mI (pt φ T I R σ) a = mI σ a := by simp only [pt, mI, vinv_off h, vsel]
theorem mR_off (h : ∀ v, (T v).1 ≠ 0 → φ v ≠ a) : mR (pt φ T I R σ) a = mR σ a := by simp only [pt, mR, vinv_off h, vsel]
theorem mT_off (h : ∀ v, (T v).1 ≠ 0 → φ v ≠ a) : mT (pt φ T I R σ) a = mT σ a := by simp only [pt, mT, vinv_off h, vsel]
theorem Mem.ext' {σ τ : Mem} (h1 : mI σ = mI τ) (h2 : mR σ = mR τ) (h3 : mJ σ = mJ τ) (h4 : mT σ = mT τ) (h5 : mZ σ = mZ τ) : σ = τ := by
  obtain ⟨a, b, c, d, e⟩ := σ
  obtain ⟨a', b', c', d', e'⟩ := τ
  simp only [mI, mR, mJ, mT, mZ] at *
  subst h1 h2 h3 h4 h5; rfl
theorem sI_pt (h : Inj φ T) (hv : (T v).1 ≠ 0) {x : Int32} : sI (pt φ T I R σ) (φ v) k x = pt φ T (up2 I v k x) R σ := by
  refine Mem.ext' ?_ rfl rfl rfl rfl
  funext a j
  show up2 (mI (pt φ T I R σ)) (φ v) k x a j = mI (pt φ T (up2 I v k x) R σ) a j
  simp only [up2, mI, pt]
  cases e : vinv φ T a with
  | none =>
    have := vinv_no e v hv
    simp only [vsel]
    rw [if_neg (fun q => this q.1.symm)]
  | some b =>
    have hb := vinv_some e
    simp only [vsel]
    by_cases q : b = v
    · subst q; rw [hb.2]; simp [up2, rowS]
    · have : ¬ a = φ v := fun z => q (h _ _ hb.1 hv (hb.2.trans z))
      simp [up2, rowS, this, q]
theorem sR_pt (h : Inj φ T) (hv : (T v).1 ≠ 0) {x : Option Nat} : sR (pt φ T I R σ) (φ v) k x = pt φ T I (up2 R v k x) σ := by
  refine Mem.ext' rfl ?_ rfl rfl rfl
  funext a j
  show up2 (mR (pt φ T I R σ)) (φ v) k x a j = mR (pt φ T I (up2 R v k x) σ) a j
  simp only [up2, mR, pt]
  cases e : vinv φ T a with
  | none =>
    have := vinv_no e v hv
    simp only [vsel]
    rw [if_neg (fun q => this q.1.symm)]
  | some b =>
    have hb := vinv_some e
    simp only [vsel]
    by_cases q : b = v
    · subst q; rw [hb.2]; simp [up2, rowS]
    · have : ¬ a = φ v := fun z => q (h _ _ hb.1 hv (hb.2.trans z))
      simp [up2, rowS, this, q]
theorem sIr_pt (h : Inj φ T) (hv : (T v).1 ≠ 0) {x : Nat → Int32} : sIr (pt φ T I R σ) (φ v) x = pt φ T (rowS I v x) R σ := by
  refine Mem.ext' ?_ rfl rfl rfl rfl
  funext a
  show rowS (mI (pt φ T I R σ)) (φ v) x a = mI (pt φ T (rowS I v x) R σ) a
  simp only [rowS, mI, pt]
  cases e : vinv φ T a with
  | none =>
    have := vinv_no e v hv
    simp only [vsel]
    rw [if_neg (fun q => this q.symm)]
  | some b =>
    have hb := vinv_some e
    simp only [vsel]
    by_cases q : b = v
    · subst q; rw [hb.2]; simp [up2, rowS]
    · have : ¬ a = φ v := fun z => q (h _ _ hb.1 hv (hb.2.trans z))
      simp [up2, rowS, this, q]
theorem sRr_pt (h : Inj φ T) (hv : (T v).1 ≠ 0) {x : Nat → Option Nat} : sRr (pt φ T I R σ) (φ v) x = pt φ T I (rowS R v x) σ := by
  refine Mem.ext' rfl ?_ rfl rfl rfl
  funext a
  show rowS (mR (pt φ T I R σ)) (φ v) x a = mR (pt φ T I (rowS R v x) σ) a
  simp only [rowS, mR, pt]
  cases e : vinv φ T a with
  | none =>
    have := vinv_no e v hv
    simp only [vsel]
    rw [if_neg (fun q => this q.symm)]
  | some b =>
    have hb := vinv_some e
    simp only [vsel]
    by_cases q : b = v
    · subst q; rw [hb.2]; simp [up2, rowS]
    · have : ¬ a = φ v := fun z => q (h _ _ hb.1 hv (hb.2.trans z))
      simp [up2, rowS, this, q]
theorem sJ_pt {x : Int64} : sJ (pt φ T I R σ) a k x = pt φ T I R (sJ σ a k x) := rfl
theorem sB_pt : sB (pt φ T I R σ) = pt φ T I R (sB σ) := rfl
theorem sI_off (h : ∀ v, (T v).1 ≠ 0 → φ v ≠ a) {x : Int32} : sI (pt φ T I R σ) a k x = pt φ T I R (sI σ a k x) := by
  refine Mem.ext' ?_ rfl rfl rfl rfl
  funext b j
  show up2 (mI (pt φ T I R σ)) a k x b j = vsel (vinv φ T b) I (up2 (mI σ) a k x b) j
  simp only [up2, mI, pt]
  cases e : vinv φ T b with
  | none => rfl
  | some c =>
    have hb := vinv_some e
    have : ¬ b = a := fun z => h c hb.1 (hb.2.trans z)
    simp [vsel, this]
theorem sR_off (h : ∀ v, (T v).1 ≠ 0 → φ v ≠ a) {x : Option Nat} : sR (pt φ T I R σ) a k x = pt φ T I R (sR σ a k x) := by
  refine Mem.ext' rfl ?_ rfl rfl rfl
  funext b j
  show up2 (mR (pt φ T I R σ)) a k x b j = vsel (vinv φ T b) R (up2 (mR σ) a k x b) j
  simp only [up2, mR, pt]
  cases e : vinv φ T b with
  | none => rfl
  | some c =>
    have hb := vinv_some e
    have : ¬ b = a := fun z => h c hb.1 (hb.2.trans z)
    simp [vsel, this]
theorem sIr_off (h : ∀ v, (T v).1 ≠ 0 → φ v ≠ a) {x : Nat → Int32} : sIr (pt φ T I R σ) a x = pt φ T I R (sIr σ a x) := by
  refine Mem.ext' ?_ rfl rfl rfl rfl
  funext b
  show rowS (mI (pt φ T I R σ)) a x b = vsel (vinv φ T b) I (rowS (mI σ) a x b)
  simp only [rowS, mI, pt]
  cases e : vinv φ T b with
  | none => rfl
  | some c =>
    have hb := vinv_some e
    have : ¬ b = a := fun z => h c hb.1 (hb.2.trans z)
    simp [vsel, this]
theorem sRr_off (h : ∀ v, (T v).1 ≠ 0 → φ v ≠ a) {x : Nat → Option Nat} : sRr (pt φ T I R σ) a x = pt φ T I R (sRr σ a x) := by
  refine Mem.ext' rfl ?_ rfl rfl rfl
  funext b
  show rowS (mR (pt φ T I R σ)) a x b = vsel (vinv φ T b) R (rowS (mR σ) a x b)
  simp only [rowS, mR, pt]
  cases e : vinv φ T b with
  | none => rfl
  | some c =>
    have hb := vinv_some e
    have : ¬ b = a := fun z => h c hb.1 (hb.2.trans z)
    simp [vsel, this]
theorem sN_pt (h : ∀ v, (T v).1 ≠ 0 → φ v ≠ mZ σ) {t : Nat × Nat} : sN (pt φ T I R σ) t = pt φ T I R (sN σ t) := by
  refine Mem.ext' ?_ ?_ ?_ ?_ rfl
  · funext b
    show rowS (mI (pt φ T I R σ)) (mZ σ) (fun _ => 0) b = vsel (vinv φ T b) I (rowS (mI σ) (mZ σ) (fun _ => 0) b)
    simp only [rowS, mI, pt]
    cases e : vinv φ T b with
    | none => rfl
    | some c =>
      have hb := vinv_some e
      have : ¬ b = mZ σ := fun z => h c hb.1 (hb.2.trans z)
      simp [vsel, this]
  · funext b
    show rowS (mR (pt φ T I R σ)) (mZ σ) (fun _ => none) b = vsel (vinv φ T b) R (rowS (mR σ) (mZ σ) (fun _ => none) b)
    simp only [rowS, mR, pt]
    cases e : vinv φ T b with
    | none => rfl
    | some c =>
      have hb := vinv_some e
      have : ¬ b = mZ σ := fun z => h c hb.1 (hb.2.trans z)
      simp [vsel, this]
  · rfl
  · funext b
    show rowS (mT (pt φ T I R σ)) (mZ σ) t b = vsel (vinv φ T b) T (rowS (mT σ) (mZ σ) t b)
    simp only [rowS, mT, pt]
    cases e : vinv φ T b with
    | none => rfl
    | some c =>
      have hb := vinv_some e
      have : ¬ b = mZ σ := fun z => h c hb.1 (hb.2.trans z)
      simp [vsel, this]
theorem pt_new (h : Inj φ T) (hw : (T w).1 = 0) (ha : (mT σ a).1 ≠ 0) (hoff : ∀ v, (T v).1 ≠ 0 → φ v ≠ a) : Inj (rowS φ w a) (rowS T w (mT σ a)) ∧ pt φ T I R σ = pt (rowS φ w a) (rowS T w (mT σ a)) (rowS I w (mI σ a)) (rowS R w (mR σ a)) σ := by
  have hI : Inj (rowS φ w a) (rowS T w (mT σ a)) := by
    intro x y hx hy hxy
    simp only [rowS] at hx hy hxy
    by_cases q1 : x = w <;> by_cases q2 : y = w
    · rw [q1, q2]
    · simp only [q1, q2, if_true, if_false] at hx hy hxy
      exact absurd hxy.symm (hoff y hy)
    · simp only [q1, q2, if_true, if_false] at hx hy hxy
      exact absurd hxy (hoff x hx)
    · simp only [q1, q2, if_false] at hx hy hxy
      exact h x y hx hy hxy
  refine ⟨hI, ?_⟩
  have e1 : ∀ b, b ≠ a → vinv (rowS φ w a) (rowS T w (mT σ a)) b = vinv φ T b := by
    intro b hb
    cases e : vinv φ T b with
    | none =>
      refine vinv_off (fun v hv => ?_)
      simp only [rowS] at hv ⊢
      by_cases q : v = w
      · simp only [q, if_true]; exact fun z => hb z.symm
      · simp only [q, if_false] at hv ⊢; exact vinv_no e v hv
    | some c =>
      have hc := vinv_some e
      have q : c ≠ w := fun z => hc.1 (by rw [z]; exact hw)
      have : rowS φ w a c = b := by simp only [rowS, q, if_false]; exact hc.2
      rw [← this]
      exact vinv_on hI (by simp only [rowS, q, if_false]; exact hc.1)
  have e2 : vinv (rowS φ w a) (rowS T w (mT σ a)) a = some w := by
    have : rowS φ w a w = a := by simp [rowS]
    have h2 := vinv_on (v := w) hI (by simp only [rowS, if_true]; exact ha)
    rw [this] at h2; exact h2
  have e3 : vinv φ T a = none := vinv_off hoff
  have e4 : ∀ b c, b ≠ a → vinv φ T b = some c → c ≠ w := fun b c hb hc z => (vinv_some hc).1 (by rw [z]; exact hw)
  have gen : ∀ {α : Type} (f : Nat → α) (d : Nat → α) (b : Nat), vsel (vinv φ T b) f (d b) = vsel (vinv (rowS φ w a) (rowS T w (mT σ a)) b) (rowS f w (d a)) (d b) := by
    intro α f d b
    by_cases hb : b = a
    · subst hb; rw [e2, e3]; simp [vsel, rowS]
    · rw [e1 b hb]
      cases e : vinv φ T b with
      | none => rfl
      | some c => simp [vsel, rowS, e4 b c hb e]
  exact Mem.ext' (funext fun b => gen I (mI σ) b) (funext fun b => gen R (mR σ) b) rfl (funext fun b => gen T (mT σ) b) rfl
theorem pt_drop (w : Nat) (h : Inj φ T) : Inj φ (rowS T w (0, 0)) ∧ pt φ T I R σ = pt φ (rowS T w (0, 0)) I R (pt φ T I R σ) := by
  have hl : ∀ v, (rowS T w (0, 0) v).1 ≠ 0 → v ≠ w ∧ (T v).1 ≠ 0 := by
    intro v hv
    simp only [rowS] at hv
    by_cases q : v = w
    · simp [q] at hv
    · simp only [q, if_false] at hv; exact ⟨q, hv⟩
  have hI : Inj φ (rowS T w (0, 0)) := fun x y hx hy e => h x y (hl x hx).2 (hl y hy).2 e
  refine ⟨hI, ?_⟩
  have gen : ∀ {α : Type} (f g : Nat → α) (d : Nat → α) (_ : ∀ c, c ≠ w → g c = f c) (b : Nat), vsel (vinv φ T b) f (d b) = vsel (vinv φ (rowS T w (0, 0)) b) g (vsel (vinv φ T b) f (d b)) := by
    intro α f g d hg b
    cases e : vinv φ (rowS T w (0, 0)) b with
    | none => rfl
    | some c =>
      have hc := vinv_some e
      have hc2 := hl c hc.1
      have : vinv φ T b = some c := by rw [← hc.2]; exact vinv_on h hc2.2
      rw [this]; simp only [vsel]; exact (hg c hc2.1).symm
  exact Mem.ext' (funext fun b => gen I I (mI σ) (fun _ _ => rfl) b) (funext fun b => gen R R (mR σ) (fun _ _ => rfl) b) rfl (funext fun b => gen T (rowS T w (0, 0)) (mT σ) (fun c hc => by simp [rowS, hc]) b) rfl
/-- any memory is a view of itself -/
theorem pt_self (h : Inj φ T) (hT : ∀ v, (T v).1 ≠ 0 → mT σ (φ v) = T v) : σ = pt φ T (fun v => mI σ (φ v)) (fun v => mR σ (φ v)) σ := by
  have gen : ∀ {α : Type} (f : Nat → α) (d : Nat → α) (_ : ∀ c, (T c).1 ≠ 0 → f c = d (φ c)) (b : Nat), d b = vsel (vinv φ T b) f (d b) := by
    intro α f d hf b
    cases e : vinv φ T b with
    | none => rfl
    | some c =>
      have hc := vinv_some e
      simp only [vsel]; rw [hf c hc.1, hc.2]
  exact Mem.ext' (funext fun b => gen _ (mI σ) (fun _ _ => rfl) b) (funext fun b => gen _ (mR σ) (fun _ _ => rfl) b) rfl (funext fun b => gen T (mT σ) (fun c hc => (hT c hc).symm) b) rfl
end V0
section V1
variable {α β : Type} {σ : Mem}
theorem cl1_s {a : α} {K : α → Mem → Option β} : cl1 (some (a, σ)) K = K a σ := rfl
theorem cl1_n {K : α → Mem → Option β} : cl1 none K = none := rfl
theorem cl1_i {c : Prop} [Decidable c] {x y : Option (α × Mem)} {K : α → Mem → Option β} : cl1 (if c then x else y) K = if c then cl1 x K else cl1 y K := by split <;> rfl
theorem nul_n {x y : Option β} : nul none x y = x := rfl
theorem nul_s {a : Nat} {x y : Option β} : nul (some a) x y = y := rfl
end V1
