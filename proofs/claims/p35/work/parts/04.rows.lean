section R4
variable {β : Type} {C : Cxt} {G : Glb} {own : String} {cc : ByteArray} {nL : Nat} {rt : Option FieldType} {fr cl sl lo : Nat} {Q : Pst β} {x y : Option β} {σ : Mem} {kc ks pc : Nat} {lv : List (Nat × Value)} {st : List Value}
/-! arrays -/
abbrev ix (i : Int32) (n : Nat) : Prop := ¬ i < 0 ∧ i.toNatClampNeg < n
theorem ix_in {i : Int32} {n : Nat} (h : ix i n) : ¬ (i < 0 ∨ n ≤ i.toNatClampNeg) := fun q => q.elim h.1 (fun z => absurd h.2 (by omega))
abbrev isA (σ : Mem) (h t : Nat) : Prop := (mT σ h).1 = 100 + t ∨ (mT σ h).1 = 200 + t
theorem arr_at (hC : CX C G own cc nL rt fr cl sl lo) {H : Heap} {h t : Nat} {ty : FieldType} (hM : memK G σ H) (hT : isA σ h t) (ht : atL[t]? = some ty) : H[h]? = some (arrV (G.2.1 t) (mT σ h).2 (fun j => vOf (ak t) σ h j)) ∧ (∀ (n : Nat) (z : Nat → Value), (cS C).isArrayOf (arrV (G.2.1 t) n z) ty) :=
  ⟨(hM.2.1 h).2 t hT ((List.getElem?_eq_some_iff.mp ht).1), (hC.hK.1.1.2 t _ (tysG_at G t ht)).1⟩
/-- an element: int, long, reference -/
def aI (σ : Mem) (r : Option Nat) (i : Int32) (K : Int32 → Option β) : Option β := match r with
  | none => none
  | some h => if isA σ h 0 ∧ ix i (mT σ h).2 then K (mI σ h i.toNatClampNeg) else none
def aR (t : Nat) (σ : Mem) (r : Option Nat) (i : Int32) (K : Option Nat → Option β) : Option β := match r with
  | none => none
  | some h => if isA σ h t ∧ ix i (mT σ h).2 then K (mR σ h i.toNatClampNeg) else none
def aL (σ : Mem) (r : Option Nat) (K : Int32 → Option β) : Option β := match r with
  | none => none
  | some h => if (100 ≤ (mT σ h).1 ∧ (mT σ h).1 < 104) ∨ (200 ≤ (mT σ h).1 ∧ (mT σ h).1 < 204) then K (Int32.ofNat (mT σ h).2) else none
theorem r_aI (hC : CX C G own cc nL rt fr cl sl lo) {r : Option Nat} {i : Int32} {K : Int32 → Option β} (hd : decode cc pc = .ok (.iaload, 1)) (kk : ∀ v, Wo C G nL Q (K v) σ kc ks (pc + 1) lv (.int v :: st)) : Wo C G nL Q (aI σ r i K) σ kc ks pc lv (.int i :: va_rf r :: st) := by
  intro res hres hφ H locs hM hS ls hl
  cases r with
  | none => cases hres
  | some h =>
    simp only [aI] at hres
    split at hres
    · rename_i hT
      obtain ⟨e1, e2⟩ := arr_at hC hM hT.1 (show atL[0]? = some .int from rfl)
      exact W.iald (v := .int (mI σ h i.toNatClampNeg)) hC.hx hC.hb e1 (e2 _ _) (fun q => by cases q) (by show ¬ (i < 0 ∨ (arrV _ _ _).slots.size ≤ _); rw [arrV_size]; exact ix_in hT.2) (by show (arrV _ _ _).slots[_]? = _; rw [arrV_read _ _ hT.2.2]; rfl) rfl rfl hd (kk _ res hres hφ H locs hM hS ls hl)
    · cases hres
theorem r_aR (hC : CX C G own cc nL rt fr cl sl lo) {t : Nat} {Cn : String} {r : Option Nat} {i : Int32} {K : Option Nat → Option β} (ht : atL[t]? = some (.object Cn)) (ht2 : ak t = 1) (hd : decode cc pc = .ok (.aaload, 1)) (kk : ∀ v, Wo C G nL Q (K v) σ kc ks (pc + 1) lv (va_rf v :: st)) : Wo C G nL Q (aR t σ r i K) σ kc ks pc lv (.int i :: va_rf r :: st) := by
  intro res hres hφ H locs hM hS ls hl
  cases r with
  | none => cases hres
  | some h =>
    simp only [aR] at hres
    split at hres
    · rename_i hT
      obtain ⟨e1, e2⟩ := arr_at hC hM hT.1 ht
      exact W.aald (v := va_rf (mR σ h i.toNatClampNeg)) (ty := .object Cn) hC.hx hC.hb e1 (e2 _ _) rfl (fun q => by cases q) (by show ¬ (i < 0 ∨ (arrV _ _ _).slots.size ≤ _); rw [arrV_size]; exact ix_in hT.2) (by show (arrV _ _ _).slots[_]? = _; rw [arrV_read _ _ hT.2.2, ht2]; rfl) rfl rfl hd (kk _ res hres hφ H locs hM hS ls hl)
    · cases hres
theorem r_aL (hC : CX C G own cc nL rt fr cl sl lo) {r : Option Nat} {K : Int32 → Option β} (hd : decode cc pc = .ok (.arraylength, 1)) (kk : ∀ v, Wo C G nL Q (K v) σ kc ks (pc + 1) lv (.int v :: st)) : Wo C G nL Q (aL σ r K) σ kc ks pc lv (va_rf r :: st) := by
  intro res hres hφ H locs hM hS ls hl
  cases r with
  | none => cases hres
  | some h =>
    simp only [aL] at hres
    split at hres
    · rename_i hT
      obtain ⟨t, ht, h7⟩ : ∃ t, isA σ h t ∧ t < 4 := by
        rcases hT with q | q
        · exact ⟨(mT σ h).1 - 100, Or.inl (by omega), by omega⟩
        · exact ⟨(mT σ h).1 - 200, Or.inr (by omega), by omega⟩
      obtain ⟨ty, hty⟩ : ∃ ty, atL[t]? = some ty := ⟨_, List.getElem?_eq_getElem (show t < atL.length from h7)⟩
      obtain ⟨e1, e2⟩ := arr_at hC hM ht hty
      exact W.alen (n := Int32.ofNat (mT σ h).2) hC.hx hC.hb e1 (e2 _ _) (by rw [arrV_size] <;> rfl) rfl rfl hd (kk _ res hres hφ H locs hM hS ls hl)
    · cases hres
/-- the script: an element, its length -/
def aIs (xs : Nat → Int32) (L9 b9 : Nat) (r : Option Nat) (i : Int32) (K : Int32 → Option β) : Option β := if r = some b9 then (if ix i L9 then K (xs i.toNatClampNeg) else none) else none
def aLs (L9 b9 : Nat) (r : Option Nat) (K : Int32 → Option β) : Option β := if r = some b9 then K (Int32.ofNat L9) else none
theorem r_aIs (hC : CX C G own cc nL rt fr cl sl lo) {r : Option Nat} {i : Int32} {K : Int32 → Option β} (hd : decode cc pc = .ok (.iaload, 1)) (kk : ∀ v, Wo C G nL Q (K v) σ kc ks (pc + 1) lv (.int v :: st)) : Wo C G nL Q (aIs (gX G) (gL G) (gB G) r i K) σ kc ks pc lv (.int i :: va_rf r :: st) := by
  intro res hres hφ H locs hM hS ls hl
  unfold aIs at hres
  split at hres
  · rename_i hr
    subst hr
    split at hres
    · rename_i hi
      exact va_sld hC.hx hC.hb hC.hK.2.1 hC.hK.lt hC.hK.2.2 hS (ix_in hi) hd (kk _ res hres hφ H locs hM hS ls hl)
    · cases hres
  · cases hres
theorem r_aLs (hC : CX C G own cc nL rt fr cl sl lo) {r : Option Nat} {K : Int32 → Option β} (hd : decode cc pc = .ok (.arraylength, 1)) (kk : ∀ v, Wo C G nL Q (K v) σ kc ks (pc + 1) lv (.int v :: st)) : Wo C G nL Q (aLs (gL G) (gB G) r K) σ kc ks pc lv (va_rf r :: st) := by
  intro res hres hφ H locs hM hS ls hl
  unfold aLs at hres
  split at hres
  · rename_i hr
    subst hr
    exact va_slen hC.hx hC.hb hC.hK.2.1 hC.hK.lt hC.hK.2.2 hS hd (kk _ res hres hφ H locs hM hS ls hl)
  · cases hres
theorem r_ldc2d (hC : CX C G own cc nL rt fr cl sl lo) {i : Nat} {v : UInt64} (hw : Cond.constantDouble own i v ∈ uW) (hd : decode cc pc = .ok (.ldc2_w i, 3)) (k : Wo C G nL Q x σ kc ks (pc + 3) lv (.double v :: st)) : Wo C G nL Q x σ kc ks pc lv st :=
  fun res hres hφ H locs hM hS ls hl => lv_ldc2d hC.hx hC.hb hC.hown (hC.hts _ hw) hd (k res hres hφ H locs hM hS ls hl)
/-- an array's cell with its contents changed -/
theorem okAt_arr {H' : Heap} {h t : Nat} {σ' : Mem} {fv : Nat → Value} (hT : isA σ h t) (h7 : t < 4) (hT' : mT σ' = mT σ) (e1 : H'[h]? = some (arrV (G.2.1 t) (mT σ h).2 fv)) (hv : ∀ j, vOf (ak t) σ' h j = fv j) : okAt G σ' H' h := by
  refine ⟨fun ci r hc hr => ?_, fun t' ht h7' => ?_⟩
  · have := vwCl_len hr
    rw [hT'] at hc
    rcases hT with q | q <;> omega
  · rw [hT'] at ht ⊢
    have htt : t' = t := by rcases hT with q | q <;> rcases ht with z | z <;> omega
    subst htt
    rw [e1]
    exact congrArg some (congrArg (arrV _ _) (funext fun j => (hv j).symm))
/-- an element is written -/
def wI (σ : Mem) (r : Option Nat) (i v : Int32) (K : Mem → Option β) : Option β := match r with
  | none => none
  | some h => if (mT σ h).1 = 100 ∧ ix i (mT σ h).2 then K (sI σ h i.toNatClampNeg v) else none
theorem core_ast {H H' : Heap} {locs : List Loc} {h t k : Nat} {σ' : Mem} {v : Value} {Z : Prop} (hT : (mT σ h).1 = 100 + t) (h7 : t < 4) (hM : memK G σ H) (hS : va_S (gA G) (cS C).heap H locs) (hT' : mT σ' = mT σ) (hZ' : mZ σ' = mZ σ) (hv : vOf (ak t) σ' h k = v) (ho : ∀ a j, ¬ (a = h ∧ j = k) → ∀ kd, vOf kd σ' a j = vOf kd σ a j)
    (e : H'[h]? = some ((arrV (G.2.1 t) (mT σ h).2 (fun j => vOf (ak t) σ h j)).setSlot k v)) (z : H'.size = H.size) (oq : ∀ q, q ≠ h → H'[q]? = H[q]?) (kk : memK G σ' H' → va_S (gA G) (cS C).heap H' (locs ++ [⟨h, k⟩]) → Z) : Z := by
  refine kk (hM.put h hT' hZ' (fun x hx kd j => ho x j (fun z => hx z.1) kd) z oq ?_) (hS.put z oq (hM.2.2.2.1 h (by omega) (by omega)))
  rw [arrV_store] at e
  refine okAt_arr (Or.inl hT) h7 hT' e (fun j => ?_)
  by_cases hj : j = k
  · subst hj
    simp [updV, hv]
  · simp [updV, hj, ho h j (fun z => hj z.2)]
theorem r_wI (hC : CX C G own cc nL rt fr cl sl lo) {r : Option Nat} {i v : Int32} {K : Mem → Option β} (hd : decode cc pc = .ok (.iastore, 1)) (kk : ∀ σ', Wo C G nL Q (K σ') σ' kc ks (pc + 1) lv st) : Wo C G nL Q (wI σ r i v K) σ kc ks pc lv (.int v :: .int i :: va_rf r :: st) := by
  intro res hres hφ H locs hM hS ls hl
  cases r with
  | none => cases hres
  | some h =>
    simp only [wI] at hres
    split at hres
    · rename_i hT
      obtain ⟨e1, e2⟩ := arr_at hC hM (t := 0) (Or.inl hT.1) (show atL[0]? = some .int from rfl)
      exact W.iast hC.hx hC.hb e1 (e2 _ _) (fun q => by cases q) (by show ¬ (i < 0 ∨ (arrV _ _ _).slots.size ≤ _); rw [arrV_size]; exact ix_in hT.2) rfl rfl hd (fun H1 e z oq => core_ast (C := C) (t := 0) (σ' := sI σ h i.toNatClampNeg v) hT.1 (by decide) hM hS rfl rfl vOf_sI (fun a j hne kd => vOf_sI_o a j hne kd) e z oq (fun hM1 hS1 => kk _ res hres hφ H1 _ hM1 hS1 ls hl))
    · cases hres
/-- what may be put into an array of references: of the class of its elements -/
abbrev elOK (t : Nat) (σ : Mem) (y : Nat) : Prop := (t = 1 ∧ (mT σ y).1 = 2) ∨ (t = 2 ∧ (mT σ y).1 = 3) ∨ (t = 3 ∧ (mT σ y).1 = 4)
theorem obj_at (hC : CX C G own cc nL rt fr cl sl lo) {H : Heap} {h ci : Nat} {r : vw_C} (hM : memK G σ H) (hT : (mT σ h).1 = ci + 1) (hr : vwCl[ci]? = some r) : ∃ cell : Cell, H[h]? = some cell ∧ cell.vm.isStatics = false ∧ (cS C).vm.findClass r.1 = some cell.cls ∧ ∃ kC : Class, (cS C).vm.classes[cell.cls]? = some kC := by
  obtain ⟨cell, q1, q2, q3, q4⟩ := (hM.2.1 h).1 ci _ hT hr
  obtain ⟨-, hfc, kC, hkC, -⟩ := hC.hK.1.1.1 ci _ hr
  exact ⟨cell, q1, by rw [q3]; rfl, by rw [q2]; exact hfc, kC, by rw [q2]; exact hkC⟩
theorem cast_at (hC : CX C G own cc nL rt fr cl sl lo) {A B : String} (h : Cond.castable A B ∈ lw_tbl) {a b : ClassId} (ha : (cS C).vm.findClass A = some a) (hb : (cS C).vm.findClass B = some b) : (cS C).vm.assignable a b = true := by
  obtain ⟨c0, t0, f1, f2, f3⟩ := Cond.castable_spec (va_Nw.use (A := #[]) rfl (hC.hK.1.2.1 _ h rfl))
  cases ha.symm.trans f1
  cases hb.symm.trans f2
  exact f3
theorem any_obj (hC : CX C G own cc nL rt fr cl sl lo) {H : Heap} {h ci : Nat} {r : vw_C} {E : String} (hM : memK G σ H) (hT : (mT σ h).1 = ci + 1) (hr : vwCl[ci]? = some r) (hE : E = r.1 ∨ Cond.castable r.1 E ∈ lw_tbl) : va_Any E (cS C) H h := by
  obtain ⟨cell, q1, q2, q3, q4⟩ := obj_at hC hM hT hr
  refine ⟨cell, q1, q2, q4, fun comp hc => ?_⟩
  rcases hE with e | e
  · subst e
    cases q3.symm.trans hc
    exact va_asg _ _
  · exact cast_at hC e q3 hc
theorem any_at (hC : CX C G own cc nL rt fr cl sl lo) {H : Heap} {t y : Nat} {E : String} (hM : memK G σ H) (ht : atL[t]? = some (.object E)) (h : elOK t σ y) : va_Any E (cS C) H y := by
  rcases h with ⟨rfl, h⟩ | ⟨rfl, h⟩ | ⟨rfl, h⟩ <;> cases ht
  · exact any_obj hC hM (ci := 1) h rfl (Or.inl rfl)
  · exact any_obj hC hM (ci := 2) h rfl (Or.inl rfl)
  · exact any_obj hC hM (ci := 3) h rfl (Or.inl rfl)
def wR (t : Nat) (σ : Mem) (r : Option Nat) (i : Int32) (v : Option Nat) (K : Mem → Option β) : Option β := match r with
  | none => none
  | some h => if (mT σ h).1 = 100 + t ∧ ix i (mT σ h).2 ∧ (∀ y ∈ v, elOK t σ y) then K (sR σ h i.toNatClampNeg v) else none
theorem r_wR (hC : CX C G own cc nL rt fr cl sl lo) {t : Nat} {E : String} {r v : Option Nat} {i : Int32} {K : Mem → Option β} (ht : atL[t]? = some (.object E)) (ht2 : ak t = 1) (hd : decode cc pc = .ok (.aastore, 1)) (kk : ∀ σ', Wo C G nL Q (K σ') σ' kc ks (pc + 1) lv st) : Wo C G nL Q (wR t σ r i v K) σ kc ks pc lv (va_rf v :: .int i :: va_rf r :: st) := by
  intro res hres hφ H locs hM hS ls hl
  cases r with
  | none => cases hres
  | some h =>
    simp only [wR] at hres
    split at hres
    · rename_i hT
      have h7 : t < 4 := (List.getElem?_eq_some_iff.mp ht).1
      obtain ⟨e1, e2⟩ := arr_at hC hM (t := t) (Or.inl hT.1) ht
      have fin : ∀ (H1 : Heap), H1[h]? = some ((arrV (G.2.1 t) (mT σ h).2 (fun j => vOf (ak t) σ h j)).setSlot i.toNatClampNeg (va_rf v)) → H1.size = H.size → (∀ q, q ≠ h → H1[q]? = H[q]?) → WC C H1 (locs ++ [⟨h, i.toNatClampNeg⟩]) kc ks (Q.2 res) (F0 (cM C) (pc + 1) ls st) :=
        fun H1 e z oq => core_ast (C := C) (t := t) (σ' := sR σ h i.toNatClampNeg v) hT.1 h7 hM hS rfl rfl (by rw [ht2]; exact vOf_sR) (fun a j hne kd => vOf_sR_o a j hne kd) e z oq (fun hM1 hS1 => kk _ res hres hφ H1 _ hM1 hS1 ls hl)
      cases v with
      | none => exact va_WaastN (C := E) hC.hx hC.hb e1 (e2 _ _) (fun h => by cases h) (by show ¬ (i < 0 ∨ (arrV _ _ _).slots.size ≤ _); rw [arrV_size]; exact ix_in hT.2.1) rfl rfl hd fin
      | some y =>
        obtain ⟨cellV, g1, g3, ⟨kC, hkC⟩, hasg⟩ := any_at hC hM ht (hT.2.2 y rfl)
        obtain ⟨kA, comp, k1, k2, k3, -⟩ := (hC.hK.1.1.2 t _ (tysG_at G t ht)).2
        obtain ⟨kE, hkE, -⟩ := Vm.findClass_spec k3
        exact W.aast hC.hx hC.hb e1 (fun q h => by cases h) (fun h => by cases h) k1 k2 rfl hkE ⟨hT.2.1.1, by show _ < (arrV _ _ _).slots.size; rw [arrV_size]; exact hT.2.1.2⟩ g1 (fun q h => by rw [h] at g3; cases g3) hkC (hasg _ k3) rfl rfl hd fin
    · cases hres
/-! new cells -/
theorem vOf_sN (t : Nat × Nat) (kd j : Nat) : vOf kd (sN σ t) (mZ σ) j = dfl kd := by
  unfold vOf dfl
  split <;> simp [sN, mI, mR, mJ, rowS, va_rf]
theorem mT_sN (t : Nat × Nat) : mT (sN σ t) (mZ σ) = t := by simp [sN, mT, rowS]
theorem arrV_dfl {cA : ClassId} {n t : Nat} : arrV cA n (fun _ => dfl (ak t)) = arrV cA n (fun j => vOf (ak t) (sN σ (100 + t, n)) (mZ σ) j) := by
  congr 1
  funext j
  exact (vOf_sN _ _ j).symm
theorem new_S (hC : CX C G own cc nL rt fr cl sl lo) {H H1 : Heap} {locs : List Loc} (hM : memK G σ H) (hS : va_S (gA G) (cS C).heap H locs) (z1 : H1.size = mZ σ + 1) (o1 : ∀ q, q < mZ σ → H1[q]? = H[q]?) : va_S (gA G) (cS C).heap H1 locs := by
  have h0 := hM.1
  refine ⟨Nat.le_trans hS.1 (by omega), fun q h1 h2 => ?_, hS.2.2⟩
  rw [o1 q (by have := hS.1; omega)]
  exact hS.2.1 q h1 h2
/-- new: the object's address is the heap's size -/
def nO (ci : Nat) (σ : Mem) (K : Mem → Option Nat → Option β) : Option β := K (sN σ (ci + 1, 0)) (some (mZ σ))
theorem r_nO (hC : CX C G own cc nL rt fr cl sl lo) {ci N index : Nat} {Cn : String} {T : u_T} {ty0 : Nat → FieldType} {K : Mem → Option Nat → Option β} (hcl : ClsOK ci Cn T N ty0) (hlink : Cond.classLink own index Cn ∈ uW) (hins : Cond.instantiable Cn N ∈ uW) (hini : Cond.initialized Cn ∈ uW) (hf : kc + 1 ≤ cl ∧ ks + N ≤ sl) (hd : decode cc pc = .ok (.new index, 3))
    (kk : ∀ σ' r, Wo C G nL Q (K σ' r) σ' (kc + 1) (ks + N) (pc + 3) lv (va_rf r :: st)) : Wo C G nL Q (nO ci σ K) σ kc ks pc lv st := by
  intro res hres hφ H locs hM hS ls hl
  obtain ⟨h1, h2, h3, h4, h5⟩ := hcl
  have hKn := hC.hK.1.1.1 ci _ h1
  have hlt := vwCl_len h1
  refine W.newcK hC.hx hC.hb hC.hown (hC.hts _ hlink) (hC.hts _ hins) (hC.hts _ hini) rfl hd (by rw [hC.hR]; exact hf.1) (by rw [hC.hR]; exact hf.2) hKn.2.1 hM.1 fun H1 kC hkC e1 z1 o1 => ?_
  have hb := (u_born ty0 hC.hts h2 hKn hkC e1 h3).to (V' := fun k => vOf (fk ci k) (sN σ (ci + 1, 0)) (mZ σ) k) (fun k hk => by rw [(h5 k hk).2, vOf_sN])
  refine kk _ _ res hres hφ H1 locs (hM.new z1 o1 ⟨fun ci' r hc hr => ?_, fun t ht h7 => ?_⟩) (new_S hC hM hS z1 o1) ls hl
  · rw [mT_sN] at hc
    have hcc : ci' = ci := by have : ci + 1 = ci' + 1 := hc; omega
    subst hcc
    cases h1.symm.trans hr
    exact hb
  · rw [mT_sN] at ht
    have : ci + 1 = 100 + t ∨ ci + 1 = 200 + t := ht
    omega
theorem new_okA {H1 : Heap} {t n : Nat} (h7 : t < 4) (e1 : H1[mZ σ]? = some (arrV (G.2.1 t) n (fun _ => dfl (ak t)))) : okAt G (sN σ (100 + t, n)) H1 (mZ σ) := by
  refine ⟨fun ci r hc hr => ?_, fun t' ht h7' => ?_⟩
  · have := vwCl_len hr
    rw [mT_sN] at hc
    have : 100 + t = ci + 1 := hc
    omega
  · rw [mT_sN] at ht ⊢
    have htt : t' = t := by have : 100 + t = 100 + t' ∨ 100 + t = 200 + t' := ht; omega
    subst htt
    rw [e1]
    exact congrArg some arrV_dfl
/-- a new array of ints or longs, of references; 'b': the most places that it may have -/
def nA (t b : Nat) (σ : Mem) (n : Int32) (K : Mem → Option Nat → Option β) : Option β := if ¬ n < 0 ∧ n.toNatClampNeg ≤ b then K (sN σ (100 + t, n.toNatClampNeg)) (some (mZ σ)) else none
theorem r_nA (hC : CX C G own cc nL rt fr cl sl lo) {t b : Nat} {ty : FieldType} {atype : ArrayType} {n : Int32} {K : Mem → Option Nat → Option β} (hty : newarray.typeOf atype = ty) (ht : atL[t]? = some ty) (ht2 : defaultValue ty = dfl (ak t)) (hnm : ∀ cA, va_RA (cS C) cA ty → (cS C).vm.findClass ("[" ++ ty.toString) = some cA) (harr : Cond.arrayClass ty ∈ uW) (hb8 : b * componentBytes ty ≤ 536870912) (hf : kc + 1 ≤ cl ∧ ks + b ≤ sl) (hd : decode cc pc = .ok (.newarray atype, 2))
    (kk : ∀ σ' r, Wo C G nL Q (K σ' r) σ' (kc + 1) (ks + b) (pc + 2) lv (va_rf r :: st)) : Wo C G nL Q (nA t b σ n K) σ kc ks pc lv (.int n :: st) := by
  intro res hres hφ H locs hM hS ls hl
  unfold nA at hres
  split at hres
  · rename_i hn
    subst hty
    have h7 : t < 4 := (List.getElem?_eq_some_iff.mp ht).1
    refine va_newaK hC.hx hC.hb (hC.hts _ harr) rfl hd rfl hn.1 rfl (Nat.le_trans (Nat.mul_le_mul_right _ hn.2) hb8) (by rw [hC.hR]; exact hf.1) (by rw [hC.hR]; show ks + _ ≤ sl; have := hf.2; have := hn.2; omega) hM.1 fun H1 cA e1 z1 o1 hAr hNm => ?_
    have hcA : cA = G.2.1 t := Option.some.inj (hNm.symm.trans (hnm _ (hC.hK.1.1.2 t _ (tysG_at G t ht)).2))
    subst hcA
    rw [ht2] at e1
    exact W.widen (k := kc + 1) (n := ks + b) (Nat.le_refl _) (by have := hn.2; omega) (kk _ _ res hres hφ H1 locs (hM.new z1 o1 (new_okA h7 e1)) (new_S hC hM hS z1 o1) ls hl)
  · cases hres
theorem r_nQ (hC : CX C G own cc nL rt fr cl sl lo) {t b index : Nat} {E : String} {n : Int32} {K : Mem → Option Nat → Option β} (ht : atL[t]? = some (.object E)) (ht2 : ak t = 1) (hlink : Cond.classLink own index E ∈ uW) (hover : va_AO E (cS C)) (hb8 : b * 4 ≤ 536870912) (hf : kc + 1 ≤ cl ∧ ks + b ≤ sl) (hd : decode cc pc = .ok (.anewarray index, 3))
    (kk : ∀ σ' r, Wo C G nL Q (K σ' r) σ' (kc + 1) (ks + b) (pc + 3) lv (va_rf r :: st)) : Wo C G nL Q (nA t b σ n K) σ kc ks pc lv (.int n :: st) := by
  intro res hres hφ H locs hM hS ls hl
  unfold nA at hres
  split at hres
  · rename_i hn
    have h7 : t < 4 := (List.getElem?_eq_some_iff.mp ht).1
    have h0 := hM.1
    refine W.anew hC.hx hC.hb hC.hown (hC.hts _ hlink) (va_AO.use hover) rfl hd rfl hn.1 (Nat.le_trans (Nat.mul_le_mul_right _ hn.2) hb8) (by rw [hC.hR]; exact hf.1) (by rw [hC.hR]; show ks + _ ≤ sl; have := hf.2; have := hn.2; omega) fun cA kA comp f1 f2 f3 f4 => ?_
    have hcA : cA = G.2.1 t := by
      obtain ⟨_, _, _, _, _, f5⟩ := (hC.hK.1.1.2 t _ (tysG_at G t ht)).2
      exact Option.some.inj (f1.symm.trans f5)
    subst hcA
    generalize hH1 : H.push ({ cls := G.2.1 t, slots := Array.replicate n.toNatClampNeg .null, vm := .none } : Cell) = H1
    have z1 : H1.size = mZ σ + 1 := by rw [← hH1, Array.size_push, h0]
    have e1 : H1[mZ σ]? = some (arrV (G.2.1 t) n.toNatClampNeg (fun _ => dfl (ak t))) := by rw [← hH1, ← h0, Array.getElem?_push_size, ht2, ← arrV_new]; rfl
    have o1 : ∀ q : Nat, q < mZ σ → H1[q]? = H[q]? := fun q hq => by rw [← hH1, Array.getElem?_push, if_neg (by omega)]
    rw [h0]
    exact W.widen (k := kc + 1) (n := ks + b) (Nat.le_refl _) (by have := hn.2; omega) (kk _ _ res hres hφ H1 locs (hM.new z1 o1 (new_okA h7 e1)) (new_S hC hM hS z1 o1) ls hl)
  · cases hres
end R4
