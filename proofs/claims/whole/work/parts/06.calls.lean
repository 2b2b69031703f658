section R5
variable {β : Type} {C : Cxt} {G : Glb} {own : String} {cc : ByteArray} {nL : Nat} {rt : Option FieldType} {fr cl sl lo : Nat} {Q : Pst β} {x y : Option β} {σ : Mem} {kc ks pc : Nat} {lv : List (Nat × Value)} {st : List Value}
/-! casts, statics, class objects -/
def ck (c : Nat) (σ : Mem) (r : Option Nat) (x : Option β) : Option β := match r with
  | none => x
  | some h => if (mT σ h).1 = c then x else none
theorem r_ckO (hC : CX C G own cc nL rt fr cl sl lo) {ci N index : Nat} {Cn : String} {T : u_T} {ty0 : Nat → FieldType} {r : Option Nat} (hcl : ClsOK ci Cn T N ty0) (hlink : Cond.classLink own index Cn ∈ uW) (hd : decode cc pc = .ok (.checkcast index, 3)) (k : Wo C G nL Q x σ kc ks (pc + 3) lv (va_rf r :: st)) : Wo C G nL Q (ck (ci + 1) σ r x) σ kc ks pc lv (va_rf r :: st) := by
  intro res hres hφ H locs hM hS ls hl
  cases r with
  | none => exact lv_castN hC.hx hC.hb hd (k res hres hφ H locs hM hS ls hl)
  | some h =>
    simp only [ck] at hres
    split at hres
    · rename_i hT
      obtain ⟨cell, q1, q2, q3, -⟩ := obj_at hC hM hT hcl.1
      exact va_castS hC.hx hC.hb hC.hown (hC.hts _ hlink) (hC.hK.1.1.1 ci _ hcl.1).2 ⟨cell, q1, q2, q3⟩ hd (k res hres hφ H locs hM hS ls hl)
    · cases hres
theorem r_ckI (hC : CX C G own cc nL rt fr cl sl lo) {index : Nat} {r : Option Nat} (hlink : Cond.classLink own index "[I" ∈ uW) (hd : decode cc pc = .ok (.checkcast index, 3)) (k : Wo C G nL Q x σ kc ks (pc + 3) lv (va_rf r :: st)) : Wo C G nL Q (ck 100 σ r x) σ kc ks pc lv (va_rf r :: st) := by
  intro res hres hφ H locs hM hS ls hl
  cases r with
  | none => exact lv_castN hC.hx hC.hb hd (k res hres hφ H locs hM hS ls hl)
  | some h =>
    simp only [ck] at hres
    split at hres
    · rename_i hT
      obtain ⟨e1, e2⟩ := arr_at hC hM (t := 0) (Or.inl hT) (show atL[0]? = some .int from rfl)
      have hnm := va_nm_int (hC.hK.1.1.2 0 _ (tysG_at G 0 rfl)).2
      refine va_castA hC.hx hC.hb hC.hown (hC.hts _ hlink) (D := G.1) (cl := vwCl) (ws := [(h, .inl (G.2.1 0, (mT σ h).2, .inl (fun j => mI σ h j)))]) ?_ 0 rfl hnm hd (k res hres hφ H locs hM hS ls hl)
      intro k q hq
      have hk : k < 1 := (List.getElem?_eq_some_iff.mp hq).1
      have hk0 : k = 0 := by omega
      subst hk0
      cases hq
      exact e1
    · cases hres
theorem r_gets (hC : CX C G own cc nL rt fr cl sl lo) {index : Nat} {ref : String} (hlink : Cond.fieldLink own index ref "DEFAULTCAPACITY_EMPTY_ELEMENTDATA" "[Ljava/lang/Object;" ∈ uW) (href : ref = "java/util/ArrayList") (hd : decode cc pc = .ok (.getstatic index, 3)) (k : Wo C G nL Q x σ kc ks (pc + 3) lv (va_rf (some G.2.2.2.1) :: st)) : Wo C G nL Q x σ kc ks pc lv st := by
  intro res hres hφ H locs hM hS ls hl
  subst href
  exact va_gets hC.hx hC.hb hC.hK.2.2.2.1 hS hC.hown (hC.hts _ hlink) (fun _ h => h) hd (k res hres hφ H locs hM hS ls hl)
theorem r_ldcC (hC : CX C G own cc nL rt fr cl sl lo) {index : Nat} (hlink : Cond.classLink own index "[Ljava/lang/Object;" ∈ uW) (hd : decode cc pc = .ok (.ldc index, 2)) (k : Wo C G nL Q x σ kc ks (pc + 2) lv (va_rf (some G.2.2.2.2) :: st)) : Wo C G nL Q x σ kc ks pc lv st :=
  fun res hres hφ H locs hM hS ls hl => va_ldcM hC.hx hC.hb hC.hown (hC.hts _ hlink) hC.hK.1.2.2.2.2.1 hd (k res hres hφ H locs hM hS ls hl)
/-- getClass() of an Object[] -/
def gC (mi : Nat) (σ : Mem) (r : Option Nat) (K : Option Nat → Option β) : Option β := match r with
  | none => none
  | some h => if isA σ h 6 then K (some mi) else none
theorem r_gC (hC : CX C G own cc nL rt fr cl sl lo) {index : Nat} {r : Option Nat} {K : Option Nat → Option β} (hlink : Cond.methodLink own index ⟨"java/lang/Object", "getClass", "()Ljava/lang/Class;"⟩ ∈ uW) (hsel : Cond.selects "[Ljava/lang/Object;" ⟨"java/lang/Object", "getClass", "()Ljava/lang/Class;"⟩ ⟨"java/lang/Object", "getClass", "()Ljava/lang/Class;"⟩ ∈ uW) (hinst : Cond.instanceMethod ⟨"java/lang/Object", "getClass", "()Ljava/lang/Class;"⟩ ∈ uW) (hnat : Cond.native ⟨"java/lang/Object", "getClass", "()Ljava/lang/Class;"⟩ ∈ uW)
    (hf : 1 ≤ fr) (hlo : (st.map fun v => v.category).sum + 14 ≤ lo) (hd : decode cc pc = .ok (.invokevirtual index, 3)) (k : ∀ v, Wo C G nL Q (K v) σ kc ks (pc + 3) lv (va_rf v :: st)) : Wo C G nL Q (gC G.2.2.2.2 σ r K) σ kc ks pc lv (va_rf r :: st) := by
  intro res hres hφ H locs hM hS ls hl
  cases r with
  | none => cases hres
  | some h =>
    simp only [gC] at hres
    split at hres
    · rename_i hT
      obtain ⟨e1, e2⟩ := arr_at hC hM hT (show atL[6]? = some (.object "java/lang/Object") from rfl)
      obtain ⟨_, _, _, _, _, f5⟩ := (hC.hK.1.1.2 6 _ (tysG_at G 6 rfl)).2
      exact va_getC hC.hx hC.hb (by rw [hC.hml]; exact hl.1.symm) hC.hown (hC.hts _ hlink) (va_Dc.use hC.hK.1.2.2.2.2.2.1) (hC.hts _ hsel) (hC.hts _ hinst) (hC.hts _ hnat) hC.hK.1.2.2.2.2.1 ⟨_, e1, rfl, by exact f5⟩ (by rw [hC.hR]; exact hf) (by rw [hC.hR]; exact hlo) hd (k _ res hres hφ H locs hM hS ls hl)
    · cases hres
/-! Math -/
theorem r_max (hC : CX C G own cc nL rt fr cl sl lo) {index : Nat} {a b : Int32} {K : Int32 → Option β} (h1 : Cond.methodLink own index Lib.Math.max.name ∈ uW) (h2 : Cond.static Lib.Math.max.name ∈ uW) (h3 : Cond.initialized "java/lang/Math" ∈ uW) (h4 : Cond.code Lib.Math.max.name Lib.Math.max.code 2 (some .int) ∈ uW) (hf : 1 ≤ fr) (hlo : (st.map fun v => v.category).sum + 13 ≤ lo) (hk : kc ≤ cl ∧ ks ≤ sl) (hd : decode cc pc = .ok (.invokestatic index, 3))
    (k : ∀ v, Wo C G nL Q (K v) σ kc ks (pc + 3) lv (.int v :: st)) : Wo C G nL Q (nm (if a < b then b else a) K) σ kc ks pc lv (.int b :: .int a :: st) :=
  fun res hres hφ H locs hM hS ls hl => va_mmax hC.hx hC.hb (by rw [hC.hml]; exact hl.1.symm) hC.hown (hC.hts _ h1) (hC.hts _ h2) (hC.hts _ h3) (hC.hts _ h4) (by rw [hC.hR]; exact hf) (by rw [hC.hR]; exact hlo) (by rw [hC.hR]; exact hk.1) (by rw [hC.hR]; exact hk.2) hd (k _ res hres hφ H locs hM hS ls hl)
theorem r_min (hC : CX C G own cc nL rt fr cl sl lo) {index : Nat} {a b : Int32} {K : Int32 → Option β} (h1 : Cond.methodLink own index Lib.Math.min.name ∈ uW) (h2 : Cond.static Lib.Math.min.name ∈ uW) (h3 : Cond.initialized "java/lang/Math" ∈ uW) (h4 : Cond.code Lib.Math.min.name Lib.Math.min.code 2 (some .int) ∈ uW) (hf : 1 ≤ fr) (hlo : (st.map fun v => v.category).sum + 13 ≤ lo) (hk : kc ≤ cl ∧ ks ≤ sl) (hd : decode cc pc = .ok (.invokestatic index, 3))
    (k : ∀ v, Wo C G nL Q (K v) σ kc ks (pc + 3) lv (.int v :: st)) : Wo C G nL Q (nm (if b < a then b else a) K) σ kc ks pc lv (.int b :: .int a :: st) :=
  fun res hres hφ H locs hM hS ls hl => va_mmin hC.hx hC.hb (by rw [hC.hml]; exact hl.1.symm) hC.hown (hC.hts _ h1) (hC.hts _ h2) (hC.hts _ h3) (hC.hts _ h4) (by rw [hC.hR]; exact hf) (by rw [hC.hR]; exact hlo) (by rw [hC.hR]; exact hk.1) (by rw [hC.hR]; exact hk.2) hd (k _ res hres hφ H locs hM hS ls hl)
theorem r_abs (hC : CX C G own cc nL rt fr cl sl lo) {index : Nat} {a : Int32} {K : Int32 → Option β} (h1 : Cond.methodLink own index Lib.Math.abs.name ∈ uW) (h2 : Cond.static Lib.Math.abs.name ∈ uW) (h3 : Cond.initialized "java/lang/Math" ∈ uW) (h4 : Cond.code Lib.Math.abs.name Lib.Math.abs.code 1 (some .int) ∈ uW) (hf : 1 ≤ fr) (hlo : (st.map fun v => v.category).sum + 13 ≤ lo) (hk : kc ≤ cl ∧ ks ≤ sl) (hd : decode cc pc = .ok (.invokestatic index, 3))
    (k : ∀ v, Wo C G nL Q (K v) σ kc ks (pc + 3) lv (.int v :: st)) : Wo C G nL Q (nm (if 0 ≤ a then a else 0 - a) K) σ kc ks pc lv (.int a :: st) :=
  fun res hres hφ H locs hM hS ls hl => va_mabs hC.hx hC.hb (by rw [hC.hml]; exact hl.1.symm) hC.hown (hC.hts _ h1) (hC.hts _ h2) (hC.hts _ h3) (hC.hts _ h4) (by rw [hC.hR]; exact hf) (by rw [hC.hR]; exact hlo) (by rw [hC.hR]; exact hk.1) (by rw [hC.hR]; exact hk.2) hd (k _ res hres hφ H locs hM hS ls hl)
/-! System.arraycopy -/
theorem core_copy (hC : CX C G own cc nL rt fr cl sl lo) {H : Heap} {locs : List Loc} {ls : Array Slot} {Z : State → Prop} {index a0 a t : Nat} {n0 n1 : Nat} {fv gv : Nat → Value} {ty : FieldType} (h1 : Cond.methodLink own index arraycopyName ∈ uW) (h2 : Cond.native arraycopyName ∈ uW) (h3 : Cond.static arraycopyName ∈ uW) (h4 : Cond.initialized "java/lang/System" ∈ uW) (hls : ls.size = nL) (hS : va_S (gA G) (cS C).heap H locs) (ht : atL[t]? = some ty)
    (hc0 : H[a0]? = some (arrV (G.2.1 t) n0 fv)) (hc1 : H[a]? = some (arrV (G.2.1 t) n1 gv)) (hA : gA G a) {sp dp n : Int32} (i1 : ¬ sp < 0) (i2 : ¬ dp < 0) (i3 : ¬ n < 0) (i4 : sp.toNatClampNeg + n.toNatClampNeg ≤ n0) (i5 : dp.toNatClampNeg + n.toNatClampNeg ≤ n1)
    (hfit : ∀ i, i < n.toNatClampNeg → fits ty (fv (sp.toNatClampNeg + i)) = true) (hel : (∃ E, ty = .object E ∧ ∀ i, i < n.toNatClampNeg → fv (sp.toNatClampNeg + i) = .null ∨ ∃ y, fv (sp.toNatClampNeg + i) = .ref y ∧ va_Any E (cS C) H y) ∨ ∀ i, i < n.toNatClampNeg → ∃ z, fv (sp.toNatClampNeg + i) = .int z)
    (hf : 1 ≤ fr) (hlo : (st.map fun v => v.category).sum + 18 ≤ lo) (hd : decode cc pc = .ok (.invokestatic index, 3))
    (kk : ∀ (H1 : Heap) (locs1 : List Loc), H1[a]? = some (arrV (G.2.1 t) n1 (va_cpy fv gv sp.toNatClampNeg dp.toNatClampNeg n.toNatClampNeg)) → H1.size = H.size → (∀ q, q ≠ a → H1[q]? = H[q]?) → va_S (gA G) (cS C).heap H1 locs1 → WC C H1 locs1 kc ks Z (F0 (cM C) (pc + 3) ls st)) : WC C H locs kc ks Z (F0 (cM C) pc ls (.int n :: .int dp :: .ref a :: .int sp :: .ref a0 :: st)) := by
  have nn : ∀ z : Int32, ¬ z < 0 → z.toInt = (z.toNatClampNeg : Int) := by
    intro z hz
    have hz0 : (0 : Int) ≤ z.toInt := by
      have := Int32.not_lt.mp hz
      simpa using Int32.le_iff_toInt_le.mp this
    show z.toInt = ((z.toInt.toNat : Nat) : Int)
    omega
  have hK2 := hC.hK.1.1.2 t _ (tysG_at G t ht)
  intro T hT X
  obtain ⟨-, k0, hk0, cm0, hkk0⟩ := hK2.1 n0 fv
  have e0 : (arrV (G.2.1 t) n0 fv).slots.size = n0 := by rw [arrV_size]
  have e9 : (arrV (G.2.1 t) n1 gv).slots.size = n1 := by rw [arrV_size]
  have hgd : ∀ i, i < n.toNatClampNeg → (arrV (G.2.1 t) n0 fv).slots.getD (sp.toNatClampNeg + i) .null = fv (sp.toNatClampNeg + i) := fun i hi => by
    rw [Array.getD_eq_getD_getElem?, arrV_read _ _ (by omega)]
    rfl
  obtain ⟨vm', X', step⟩ := X.arraycopy hC.hx hC.hown (hC.hts _ h1) (hC.hts _ h2) (hC.hts _ h3) (hC.hts _ h4) (src := a0) (dst := a) (cs := arrV (G.2.1 t) n0 fv) (cd := arrV (G.2.1 t) n1 gv) (srcPos := sp) (destPos := dp) (n := n) (by rw [hT]; exact hc0) (by rw [hT]; exact hc1)
    (fun _ h => by cases h) (fun _ h => by cases h) (fun h => by cases h) (fun h => by cases h) hk0 hk0 hkk0 hkk0 (by simp) i1 i2 i3
    (by rw [nn sp i1, nn n i3, e0]; omega) (by rw [nn dp i2, nn n i3, e9]; omega)
    (fun vm₁ hal i hi => by
      rw [hgd i hi]
      refine ⟨hfit i hi, ?_⟩
      rcases hel with ⟨E, rfl, hel⟩ | hel
      · rcases hel i hi with e | ⟨y, e, cellV, g1, g2, ⟨kC, hkC⟩, hasg⟩
        · rw [e]; trivial
        · rw [e]
          obtain ⟨kA, comp, r1, r2, r3, -⟩ := hK2.2
          cases hk0.symm.trans r1
          cases hkk0.symm.trans r2
          obtain ⟨kE, hkE, -⟩ := Vm.findClass_spec r3
          obtain ⟨kC', hkC', -⟩ := hal.2.2 _ _ hkC
          obtain ⟨kE', hkE', -⟩ := hal.2.2 _ _ hkE
          refine ⟨cellV, (show T.heap[y]? = some cellV by rw [hT]; exact g1), ?_, ⟨kC', hkC'⟩, ⟨kE', hkE'⟩, ?_⟩
          · intro z hz; rw [hz] at g2; cases g2
          · show vm₁.assignable _ _ = true
            rw [hal.assignable]
            exact hasg _ r3
      · obtain ⟨z, e⟩ := hel i hi
        rw [e]; trivial)
    (g := F0 (cM C) pc ls (.int n :: .int dp :: .ref a :: .int sp :: .ref a0 :: st)) rfl (by rw [hC.hml]; exact hls) (rest := st) rfl (by rw [hC.hb]; exact hd) (by rw [hC.hR]; exact hf) (by rw [hC.hR]; show 2 * 0 + _ + _ ≤ lo; simp only [nativeFrameWords]; simp; omega)
  have e1 : copied (arrV (G.2.1 t) n0 fv) (arrV (G.2.1 t) n1 gv) sp dp n = arrV (G.2.1 t) n1 (va_cpy fv gv sp.toNatClampNeg dp.toNatClampNeg n.toNatClampNeg) := va_copied (fun z => z) (G.2.1 t) (G.2.1 t) fv gv i4
  rw [e1] at X' step
  have hlt : a < H.size := (Array.getElem?_eq_some_iff.mp hc1).1
  have hheap : ((T.setVm vm').setCell a (arrV (G.2.1 t) n1 (va_cpy fv gv sp.toNatClampNeg dp.toNatClampNeg n.toNatClampNeg))).heap = H.setIfInBounds a (arrV (G.2.1 t) n1 (va_cpy fv gv sp.toNatClampNeg dp.toNatClampNeg n.toNatClampNeg)) := by rw [← hT]; rfl
  have oq : ∀ q : Nat, q ≠ a → (H.setIfInBounds a (arrV (G.2.1 t) n1 (va_cpy fv gv sp.toNatClampNeg dp.toNatClampNeg n.toNatClampNeg)))[q]? = H[q]? := fun q hq => by simp [Array.getElem?_setIfInBounds, Ne.symm hq]
  obtain ⟨t2, a1, b1⟩ := kk _ _ (show (H.setIfInBounds a _)[a]? = some _ by simp [Array.getElem?_setIfInBounds, hlt]) (by simp) oq ⟨by simp; exact hS.1, fun q g1 g2 => by
      rw [oq q (fun e => g2 (by rw [e]; exact hA))]
      exact hS.2.1 q g1 g2, fun q hq => by
      rcases List.mem_append.mp hq with h | h
      · exact hS.2.2 q h
      · obtain ⟨z, -, hz⟩ := List.mem_map.mp h
        rw [← hz]
        exact hA⟩ _ hheap X'
  exact ⟨t2, step t2 a1, b1⟩
/-- between int arrays; between arrays of Object -/
def cpI (σ : Mem) (r : Option Nat) (sp : Int32) (q : Option Nat) (dp n : Int32) (K : Mem → Option β) : Option β := match r, q with
  | some a0, some a => if isA σ a0 0 ∧ (mT σ a).1 = 100 ∧ (¬ sp < 0 ∧ ¬ dp < 0 ∧ ¬ n < 0) ∧ sp.toNatClampNeg + n.toNatClampNeg ≤ (mT σ a0).2 ∧ dp.toNatClampNeg + n.toNatClampNeg ≤ (mT σ a).2 then K (sIr σ a (va_cpy (mI σ a0) (mI σ a) sp.toNatClampNeg dp.toNatClampNeg n.toNatClampNeg)) else none
  | _, _ => none
noncomputable def cpR (σ : Mem) (r : Option Nat) (sp : Int32) (q : Option Nat) (dp n : Int32) (K : Mem → Option β) : Option β := match r, q with
  | some a0, some a => @ite (Option β) (isA σ a0 6 ∧ (mT σ a).1 = 106 ∧ (¬ sp < 0 ∧ ¬ dp < 0 ∧ ¬ n < 0) ∧ sp.toNatClampNeg + n.toNatClampNeg ≤ (mT σ a0).2 ∧ dp.toNatClampNeg + n.toNatClampNeg ≤ (mT σ a).2 ∧ ∀ i, i < n.toNatClampNeg → ∀ y, mR σ a0 (sp.toNatClampNeg + i) = some y → elOK 6 σ y) (Classical.propDecidable _) (K (sRr σ a (va_cpy (mR σ a0) (mR σ a) sp.toNatClampNeg dp.toNatClampNeg n.toNatClampNeg))) none
  | _, _ => none
theorem cpy_map {α γ : Type} (mk : α → γ) (f g : Nat → α) (sp dp n j : Nat) : va_cpy (fun k => mk (f k)) (fun k => mk (g k)) sp dp n j = mk (va_cpy f g sp dp n j) := by
  unfold va_cpy
  split <;> rfl
theorem r_cpI (hC : CX C G own cc nL rt fr cl sl lo) {index : Nat} {r q : Option Nat} {sp dp n : Int32} {K : Mem → Option β} (h1 : Cond.methodLink own index arraycopyName ∈ uW) (h2 : Cond.native arraycopyName ∈ uW) (h3 : Cond.static arraycopyName ∈ uW) (h4 : Cond.initialized "java/lang/System" ∈ uW) (hf : 1 ≤ fr) (hlo : (st.map fun v => v.category).sum + 18 ≤ lo) (hd : decode cc pc = .ok (.invokestatic index, 3))
    (k : ∀ σ', Wo C G nL Q (K σ') σ' kc ks (pc + 3) lv st) : Wo C G nL Q (cpI σ r sp q dp n K) σ kc ks pc lv (.int n :: .int dp :: va_rf q :: .int sp :: va_rf r :: st) := by
  intro res hres hφ H locs hM hS ls hl
  cases r with
  | none => cases hres
  | some a0 =>
    cases q with
    | none => cases hres
    | some a =>
      simp only [cpI] at hres
      split at hres
      · rename_i hT
        obtain ⟨t1, t2, ⟨i1, i2, i3⟩, i4, i5⟩ := hT
        obtain ⟨e1, -⟩ := arr_at hC hM t1 (show atL[0]? = some .int from rfl)
        obtain ⟨e2, -⟩ := arr_at hC hM (t := 0) (Or.inl t2) (show atL[0]? = some .int from rfl)
        refine core_copy hC (t := 0) h1 h2 h3 h4 hl.1 hS rfl e1 e2 (hM.2.2.2.1 a (by omega) (by omega)) i1 i2 i3 i4 i5 (fun i hi => rfl) (Or.inr (fun i hi => ⟨_, rfl⟩)) hf hlo hd (fun H1 locs1 g1 g2 g3 hS1 => ?_)
        refine k _ res hres hφ H1 locs1 (hM.put a rfl rfl (fun z hz kd j => ?_) g2 g3 (okAt_arr (Or.inl t2) (by decide) rfl g1 (fun j => ?_))) hS1 ls hl
        · unfold vOf
          split <;> simp only [sIr, mI, mR, mJ, rowS, if_neg hz]
        · show vOf 0 _ a j = va_cpy (fun j => Value.int (mI σ a0 j)) (fun j => Value.int (mI σ a j)) _ _ _ j
          rw [cpy_map]
          simp [vOf, sIr, mI, rowS]
      · cases hres
theorem r_cpR (hC : CX C G own cc nL rt fr cl sl lo) {index : Nat} {r q : Option Nat} {sp dp n : Int32} {K : Mem → Option β} (h1 : Cond.methodLink own index arraycopyName ∈ uW) (h2 : Cond.native arraycopyName ∈ uW) (h3 : Cond.static arraycopyName ∈ uW) (h4 : Cond.initialized "java/lang/System" ∈ uW) (hf : 1 ≤ fr) (hlo : (st.map fun v => v.category).sum + 18 ≤ lo) (hd : decode cc pc = .ok (.invokestatic index, 3))
    (k : ∀ σ', Wo C G nL Q (K σ') σ' kc ks (pc + 3) lv st) : Wo C G nL Q (cpR σ r sp q dp n K) σ kc ks pc lv (.int n :: .int dp :: va_rf q :: .int sp :: va_rf r :: st) := by
  intro res hres hφ H locs hM hS ls hl
  cases r with
  | none => cases hres
  | some a0 =>
    cases q with
    | none => cases hres
    | some a =>
      simp only [cpR] at hres
      split at hres
      · rename_i hT
        obtain ⟨t1, t2, ⟨i1, i2, i3⟩, i4, i5, i6⟩ := hT
        have hty : atL[6]? = some (.object "java/lang/Object") := rfl
        obtain ⟨e1, -⟩ := arr_at hC hM t1 hty
        obtain ⟨e2, -⟩ := arr_at hC hM (t := 6) (Or.inl t2) hty
        refine core_copy hC (t := 6) h1 h2 h3 h4 hl.1 hS rfl e1 e2 (hM.2.2.2.1 a (by omega) (by omega)) i1 i2 i3 i4 i5 (fun i hi => ?_) (Or.inl ⟨_, rfl, fun i hi => ?_⟩) hf hlo hd (fun H1 locs1 g1 g2 g3 hS1 => ?_)
        · show fits (.object "java/lang/Object") (va_rf (mR σ a0 (sp.toNatClampNeg + i))) = true
          cases mR σ a0 (sp.toNatClampNeg + i) <;> rfl
        · have h6 := i6 i hi
          show va_rf (mR σ a0 (sp.toNatClampNeg + i)) = .null ∨ ∃ y, va_rf (mR σ a0 (sp.toNatClampNeg + i)) = .ref y ∧ _
          cases hy : mR σ a0 (sp.toNatClampNeg + i) with
          | none => exact Or.inl rfl
          | some y => exact Or.inr ⟨y, rfl, any_at hC hM hty (h6 y hy)⟩
        refine k _ res hres hφ H1 locs1 (hM.put a rfl rfl (fun z hz kd j => ?_) g2 g3 (okAt_arr (Or.inl t2) (by decide) rfl g1 (fun j => ?_))) hS1 ls hl
        · unfold vOf
          split <;> simp only [sRr, mI, mR, mJ, rowS, if_neg hz]
        · show vOf 1 _ a j = va_cpy (fun j => va_rf (mR σ a0 j)) (fun j => va_rf (mR σ a j)) _ _ _ j
          rw [cpy_map]
          simp [vOf, sRr, mR, rowS]
      · cases hres
end R5
