/-! THE MEMORY as functions: ints, references, longs by address and place; the kinds of the cells; the heap's size -/
abbrev Mem : Type := (Nat → Nat → Int32) × (Nat → Nat → Option Nat) × (Nat → Nat → Int64) × (Nat → Nat × Nat) × Nat
def mI (σ : Mem) : Nat → Nat → Int32 := σ.1
def mR (σ : Mem) : Nat → Nat → Option Nat := σ.2.1
def mJ (σ : Mem) : Nat → Nat → Int64 := σ.2.2.1
def mT (σ : Mem) : Nat → Nat × Nat := σ.2.2.2.1
def mZ (σ : Mem) : Nat := σ.2.2.2.2
def up2 {α : Type} (f : Nat → Nat → α) (a k : Nat) (v : α) : Nat → Nat → α := fun x j => if x = a ∧ j = k then v else f x j
def rowS {α : Type} (f : Nat → α) (a : Nat) (v : α) : Nat → α := fun x => if x = a then v else f x
def sI (σ : Mem) (a k : Nat) (v : Int32) : Mem := (up2 (mI σ) a k v, mR σ, mJ σ, mT σ, mZ σ)
def sR (σ : Mem) (a k : Nat) (v : Option Nat) : Mem := (mI σ, up2 (mR σ) a k v, mJ σ, mT σ, mZ σ)
def sJ (σ : Mem) (a k : Nat) (v : Int64) : Mem := (mI σ, mR σ, up2 (mJ σ) a k v, mT σ, mZ σ)
/-- a row of an array anew -/
def sIr (σ : Mem) (a : Nat) (f : Nat → Int32) : Mem := (rowS (mI σ) a f, mR σ, mJ σ, mT σ, mZ σ)
def sRr (σ : Mem) (a : Nat) (f : Nat → Option Nat) : Mem := (mI σ, rowS (mR σ) a f, mJ σ, mT σ, mZ σ)
/-- a new cell of the kind t -/
def sN (σ : Mem) (t : Nat × Nat) : Mem := (rowS (mI σ) (mZ σ) (fun _ => 0), rowS (mR σ) (mZ σ) (fun _ => none), rowS (mJ σ) (mZ σ) (fun _ => 0), rowS (mT σ) (mZ σ) t, mZ σ + 1)
/-- a cell that nobody names -/
def sB (σ : Mem) : Mem := (mI σ, mR σ, mJ σ, mT σ, mZ σ + 1)
/-- the kinds of the fields (0 int, 1 reference, 2 long), of the arrays' elements; the arrays' types -/
def fkL : List (List Nat) := [[0, 0, 1, 1], [0, 0, 0, 0, 0, 0, 0, 0, 0, 0, 0, 0, 0, 1, 1, 1], [0, 0, 0, 0, 0, 0, 0, 1], [0, 0, 0], [1, 0, 0, 1, 0, 1, 1, 1, 0, 0, 0, 0]]
def fk (ci k : Nat) : Nat := (fkL.getD ci []).getD k 0
def ak (t : Nat) : Nat := if t = 0 then 0 else 1
def atL : List FieldType := [.int, .object RX1, .object RX2, .object RX3]
def vOf (kd : Nat) (σ : Mem) (a k : Nat) : Value := match kd with
  | 0 => .int (mI σ a k)
  | 1 => va_rf (mR σ a k)
  | _ => .long (mJ σ a k)
/-- what is the same throughout: classes and slots, the arrays' classes, where the claim's own cells begin, the script: its cell, its length, its ints -/
abbrev Glb : Type := va_G × (Nat → ClassId) × Nat × Nat × Nat × (Nat → Int32)
abbrev gB (G : Glb) : Nat := G.2.2.2.1
abbrev gL (G : Glb) : Nat := G.2.2.2.2.1
abbrev gX (G : Glb) : Nat → Int32 := G.2.2.2.2.2
def gA (G : Glb) : Nat → Prop := fun q => G.2.2.1 ≤ q
def tysG (G : Glb) : List (ClassId × FieldType) := [(G.2.1 0, .int), (G.2.1 1, .object RX1), (G.2.1 2, .object RX2), (G.2.1 3, .object RX3)]
theorem tysG_at (G : Glb) (t : Nat) {ty : FieldType} (h : atL[t]? = some ty) : (tysG G)[t]? = some (G.2.1 t, ty) := by
  have ht : t < 4 := (List.getElem?_eq_some_iff.mp h).1
  rcases (show t = 0 ∨ t = 1 ∨ t = 2 ∨ t = 3 by omega) with rfl | rfl | rfl | rfl <;> (cases h; rfl)
/-- the cell at a is as σ has it -/
def okAt (G : Glb) (σ : Mem) (H : Heap) (a : Nat) : Prop :=
  (∀ (ci : Nat) (r : vw_C), (mT σ a).1 = ci + 1 → vwCl[ci]? = some r → t_OB a (G.1.1 ci) r.2.2 (G.1.2 ci) H (fun k => vOf (fk ci k) σ a k)) ∧
  ∀ t : Nat, ((mT σ a).1 = 100 + t ∨ (mT σ a).1 = 200 + t) → t < 4 → H[a]? = some (arrV (G.2.1 t) (mT σ a).2 (fun j => vOf (ak t) σ a j))
def memK (G : Glb) (σ : Mem) (H : Heap) : Prop := H.size = mZ σ ∧ (∀ a, okAt G σ H a) ∧ (∀ a, mZ σ ≤ a → (mT σ a).1 = 0) ∧ (∀ a, 0 < (mT σ a).1 → (mT σ a).1 < 200 → G.2.2.1 ≤ a) ∧ G.2.2.1 ≤ mZ σ
theorem vwCl_len {ci : Nat} {r : vw_C} (h : vwCl[ci]? = some r) : ci < 5 := (List.getElem?_eq_some_iff.mp h).1
theorem okAt.kept {G : Glb} {σ σ' : Mem} {H H' : Heap} {a : Nat} (h : okAt G σ H a) (hT : mT σ' a = mT σ a) (hV : ∀ kd k, vOf kd σ' a k = vOf kd σ a k) (hH : (mT σ a).1 ≠ 0 → H'[a]? = H[a]?) : okAt G σ' H' a := by
  refine ⟨fun ci r h1 h2 => ?_, fun t h1 h2 => ?_⟩
  · rw [hT] at h1
    have h3 := (h.1 ci r h1 h2).kept (hH (by omega))
    exact h3.to (fun k _ => (hV _ _).symm)
  · rw [hT] at h1
    rw [hH (by omega), h.2 t h1 h2, hT]
    exact congrArg some (congrArg (arrV _ _) (funext fun j => (hV _ _).symm))
theorem memK.lt {G : Glb} {σ : Mem} {H : Heap} (h : memK G σ H) {a : Nat} (ha : (mT σ a).1 ≠ 0) : a < mZ σ := by
  rcases Nat.lt_or_ge a (mZ σ) with q | q
  · exact q
  · exact absurd (h.2.2.1 a q) ha
/-- one cell changed, in its contents -/
theorem memK.put {G : Glb} {σ σ' : Mem} {H H' : Heap} (h : memK G σ H) (a : Nat) (hT : mT σ' = mT σ) (hZ : mZ σ' = mZ σ) (hV : ∀ x, x ≠ a → ∀ kd k, vOf kd σ' x k = vOf kd σ x k) (hz : H'.size = H.size) (oq : ∀ q : Nat, q ≠ a → H'[q]? = H[q]?) (ha : okAt G σ' H' a) : memK G σ' H' := by
  refine ⟨by rw [hz, hZ]; exact h.1, fun x => ?_, by rw [hT, hZ]; exact h.2.2.1, by rw [hT]; exact h.2.2.2.1, by rw [hZ]; exact h.2.2.2.2⟩
  by_cases hx : x = a
  · subst hx; exact ha
  · exact (h.2.1 x).kept (by rw [hT]) (hV x hx) (fun _ => oq x hx)
/-- a new cell -/
theorem memK.new {G : Glb} {σ : Mem} {H H' : Heap} {t : Nat × Nat} (h : memK G σ H) (hz : H'.size = mZ σ + 1) (o1 : ∀ q, q < mZ σ → H'[q]? = H[q]?) (ha : okAt G (sN σ t) H' (mZ σ)) : memK G (sN σ t) H' := by
  refine ⟨hz, fun x => ?_, fun x hx => ?_, fun x h1 h2 => ?_, Nat.le_succ_of_le h.2.2.2.2⟩
  · by_cases hx : x = mZ σ
    · subst hx; exact ha
    · refine (h.2.1 x).kept (by simp [sN, mT, rowS, hx, mZ]; intro z; exact absurd z hx) (fun kd k => ?_) (fun hn => o1 x (h.lt hn))
      unfold vOf
      split <;> simp only [sN, mI, mR, mJ, rowS, if_neg hx]
  · have hx' : mZ σ + 1 ≤ x := hx
    have e : mT (sN σ t) x = mT σ x := by simp only [sN, mT, rowS]; exact if_neg (by omega)
    rw [e]; exact h.2.2.1 x (by omega)
  · by_cases hx : x = mZ σ
    · rw [hx]; exact h.2.2.2.2
    · have e : mT (sN σ t) x = mT σ x := by simp only [sN, mT, rowS]; exact if_neg hx
      rw [e] at h1 h2; exact h.2.2.2.1 x h1 h2
theorem memK.bump {G : Glb} {σ : Mem} {H H' : Heap} (h : memK G σ H) (hz : H'.size = mZ σ + 1) (o1 : ∀ q, q < mZ σ → H'[q]? = H[q]?) : memK G (sB σ) H' := by
  refine ⟨hz, fun x => ?_, fun x hx => ?_, h.2.2.2.1, Nat.le_succ_of_le h.2.2.2.2⟩
  · exact (h.2.1 x).kept rfl (fun kd k => rfl) (fun hn => o1 x (h.lt hn))
  · have hx' : mZ σ + 1 ≤ x := hx
    exact h.2.2.1 x (by omega)
/-! WHAT A METHOD KNOWS of the tables and of the cells that nobody writes -/
def uW : List Cond := lw_tbl.filter goodWord
theorem uW_of {w : Cond} (i : Nat) (h : lw_tbl[i]? = some w) (hg : goodWord w = true) : w ∈ uW := List.mem_filter.mpr ⟨List.mem_of_getElem? h, hg⟩
def ngk : Cond → Bool
  | .fieldLinkNest .. => true
  | .methodLinkNest .. => true
  | .castable .. => true
  | .declares .. => true
  | _ => false
theorem ng_warm {w : Cond} (h : ngk w = true) {s U : State} (hW : s.WarmedH U.vm) (hZ : va_Nw w s) : va_Nw w U := by
  cases w with
  | fieldLinkNest a b c d e f => exact va_Nw.warmF hW hZ
  | methodLinkNest a b c d => exact va_Nw.warmM hW hZ
  | castable a b => exact va_Nw.warmC hW hZ
  | declares a => exact va_Nw.warmD hW hZ
  | _ => cases h
theorem ng_tab {w : Cond} (h : ngk w = true) : w.onTables = true := by
  cases w <;> first | rfl | cases h
def KV (G : Glb) (U : State) : Prop := va_K G.1 vwCl (tysG G) U ∧ (∀ w ∈ lw_tbl, ngk w = true → va_Nw w U) ∧ (va_AO RX1 U ∧ va_AO RX2 U ∧ va_AO RX3 U)
def KH (G : Glb) (U : State) (H : Heap) : Prop := va_X (gB G) (gL G) (gX G) U H ∧ ¬ gA G (gB G)
def KB (G : Glb) (U : State) : Prop := KV G U ∧ KH G U U.heap
theorem KV.warm {G : Glb} {s U : State} (hW : s.WarmedH U.vm) (h : KV G s) : KV G U := by
  obtain ⟨h1, h2, a1, a2, a3⟩ := h
  have hA := hW.alike
  exact ⟨h1.moved hA, fun w hw hg => ng_warm hg hW (h2 w hw hg), a1.moved hA, a2.moved hA, a3.moved hA⟩
theorem KB.lt {G : Glb} {s : State} (h : KB G s) : gB G < s.heap.size := by
  obtain ⟨-, ⟨scr, h1, -⟩, -⟩ := h
  exact (Array.getElem?_eq_some_iff.mp h1).1
theorem KB.warm {G : Glb} {s U : State} (hW : s.WarmedH U.vm) (hq : ∀ a : Nat, a < s.heap.size → ¬ gA G a → U.heap[a]? = s.heap[a]?) (h : KB G s) : KB G U :=
  ⟨h.1.warm hW, (h.2.1.moved hW.alike).kept (hq _ h.lt h.2.2), h.2.2⟩
/-- the state that a callee meets -/
def WB (G : Glb) (σ : Mem) (U : State) : Prop := KB G U ∧ memK G σ U.heap
theorem WB.blind {G : Glb} {σ : Mem} {av : List Value} : FrameBlind (va_Pc av (WB G σ)) := by
  intro a U g mk h
  exact ⟨h.1, KB.warm (s := U) (U := U.calling g mk a) (State.WarmedH.refl U) (fun _ _ _ => rfl) h.2.1, h.2.2⟩
/-! a method's context, and the walk over the memory -/
abbrev Cxt : Type := Program × Launch × Env × Room × State × MethodId × Array Value × List Frame × Method × Code
abbrev cP (C : Cxt) : Program := C.1
abbrev cL (C : Cxt) : Launch := C.2.1
abbrev cE (C : Cxt) : Env := C.2.2.1
abbrev cR (C : Cxt) : Room := C.2.2.2.1
abbrev cS (C : Cxt) : State := C.2.2.2.2.1
abbrev cM (C : Cxt) : MethodId := C.2.2.2.2.2.1
abbrev cA (C : Cxt) : Array Value := C.2.2.2.2.2.2.1
abbrev cB (C : Cxt) : List Frame := C.2.2.2.2.2.2.2.1
abbrev cF (C : Cxt) : Method := C.2.2.2.2.2.2.2.2.1
abbrev cC (C : Cxt) : Code := C.2.2.2.2.2.2.2.2.2
def WC (C : Cxt) (H : Heap) (locs : List Loc) (kc ks : Nat) (Q : State → Prop) (g : JFrame) : Prop := W (cP C) (cL C) (cE C) (cR C) (cS C) (cM C) (cA C) (cB C) (cF C) (cC C) H locs kc ks Q g
/-- what a method's walk rests on: own class, bytes, locals, answer's type, room -/
def CX (C : Cxt) (G : Glb) (own : String) (cc : ByteArray) (nL : Nat) (rt : Option FieldType) (fr cl sl lo : Nat) : Prop :=
  (cP C).tables.exec = Jvm.exec ∧ (cC C).code = cc ∧ (cC C).maxLocals = nL ∧ (cS C).vm.findClass own = some (cM C).cls ∧ (∀ w ∈ uW, w.before (cA C) (cS C) = true) ∧ KB G (cS C) ∧ (cF C).locks = false ∧ (cF C).sig.returnType = rt ∧ cR C = { frames := fr, cells := cl, slots := sl, locals := lo } ∧ (cL C).stackTraces = false ∧ G.2.2.1 ≤ (cS C).heap.size
/-- which results are looked at, and what is then to be shown of the end -/
abbrev Pst (β : Type) : Type := (β → Prop) × (β → State → Prop)
def Wo {β : Type} (C : Cxt) (G : Glb) (nL : Nat) (Q : Pst β) (x : Option β) (σ : Mem) (kc ks pc : Nat) (lv : List (Nat × Value)) (st : List Value) : Prop :=
  ∀ res, x = some res → Q.1 res → ∀ (H : Heap) (locs : List Loc), memK G σ H → va_S (gA G) (cS C).heap H locs → ∀ ls : Array Slot, lv_has ls nL lv → WC C H locs kc ks (Q.2 res) (F0 (cM C) pc ls st)
/-- a name for a number -/
def nm {α β : Type} (v : α) (K : α → Option β) : Option β := K v
section R1
variable {β : Type} {C : Cxt} {G : Glb} {own : String} {cc : ByteArray} {nL : Nat} {rt : Option FieldType} {fr cl sl lo : Nat} {Q : Pst β} {x y : Option β} {σ : Mem} {kc ks pc : Nat} {lv : List (Nat × Value)} {st : List Value}
theorem CX.hx (h : CX C G own cc nL rt fr cl sl lo) : (cP C).tables.exec = Jvm.exec := h.1
theorem CX.hb (h : CX C G own cc nL rt fr cl sl lo) : (cC C).code = cc := h.2.1
theorem CX.hml (h : CX C G own cc nL rt fr cl sl lo) : (cC C).maxLocals = nL := h.2.2.1
theorem CX.hown (h : CX C G own cc nL rt fr cl sl lo) : (cS C).vm.findClass own = some (cM C).cls := h.2.2.2.1
theorem CX.hts (h : CX C G own cc nL rt fr cl sl lo) : ∀ w ∈ uW, w.before (cA C) (cS C) = true := h.2.2.2.2.1
theorem CX.hK (h : CX C G own cc nL rt fr cl sl lo) : KB G (cS C) := h.2.2.2.2.2.1
theorem CX.hlk (h : CX C G own cc nL rt fr cl sl lo) : (cF C).locks = false := h.2.2.2.2.2.2.1
theorem CX.hr (h : CX C G own cc nL rt fr cl sl lo) : (cF C).sig.returnType = rt := h.2.2.2.2.2.2.2.1
theorem CX.hR (h : CX C G own cc nL rt fr cl sl lo) : cR C = { frames := fr, cells := cl, slots := sl, locals := lo } := h.2.2.2.2.2.2.2.2.1
theorem CX.hl (h : CX C G own cc nL rt fr cl sl lo) : (cL C).stackTraces = false := h.2.2.2.2.2.2.2.2.2.1
theorem CX.hB (h : CX C G own cc nL rt fr cl sl lo) : G.2.2.1 ≤ (cS C).heap.size := h.2.2.2.2.2.2.2.2.2.2
theorem CX.hA (h : CX C G own cc nL rt fr cl sl lo) : ∀ q : Nat, (cS C).heap.size ≤ q → gA G q := fun _ hq => Nat.le_trans h.hB hq
theorem Wo.none : Wo C G nL Q none σ kc ks pc lv st := fun _ h => by cases h
theorem Wo.sub {lv' : List (Nat × Value)} (is : List Nat) (he : lv_pick lv is = lv') (h : Wo C G nL Q x σ kc ks pc lv' st) : Wo C G nL Q x σ kc ks pc lv st := fun res hres hφ H locs hM hS ls hl => h res hres hφ H locs hM hS ls (lv_sub hl is he)
theorem Wo.ite {c : Prop} [Decidable c] (h1 : c → Wo C G nL Q x σ kc ks pc lv st) (h2 : ¬ c → Wo C G nL Q y σ kc ks pc lv st) : Wo C G nL Q (if c then x else y) σ kc ks pc lv st := by
  split
  · exact h1 (by assumption)
  · exact h2 (by assumption)
/-! constants, locals, the stack, arithmetic -/
theorem r_iconst (hC : CX C G own cc nL rt fr cl sl lo) {n : Int} (v : Int32) (hv : Int32.ofInt n = v) (hd : decode cc pc = .ok (.iconst n, 1)) (k : Wo C G nL Q x σ kc ks (pc + 1) lv (.int v :: st)) : Wo C G nL Q x σ kc ks pc lv st :=
  fun res hres hφ H locs hM hS ls hl => lv_iconst hC.hx hC.hb hd hv (k res hres hφ H locs hM hS ls hl)
theorem r_bipush (hC : CX C G own cc nL rt fr cl sl lo) {n : Int} (v : Int32) (hv : (Int8.ofInt n).toInt32 = v) (hd : decode cc pc = .ok (.bipush n, 2)) (k : Wo C G nL Q x σ kc ks (pc + 2) lv (.int v :: st)) : Wo C G nL Q x σ kc ks pc lv st :=
  fun res hres hφ H locs hM hS ls hl => lv_bipush hC.hx hC.hb hd hv (k res hres hφ H locs hM hS ls hl)
theorem r_sipush (hC : CX C G own cc nL rt fr cl sl lo) {n : Int} (v : Int32) (hv : (Int16.ofInt n).toInt32 = v) (hd : decode cc pc = .ok (.sipush n, 3)) (k : Wo C G nL Q x σ kc ks (pc + 3) lv (.int v :: st)) : Wo C G nL Q x σ kc ks pc lv st :=
  fun res hres hφ H locs hM hS ls hl => lv_sipush hC.hx hC.hb hd hv (k res hres hφ H locs hM hS ls hl)
theorem r_ldc (hC : CX C G own cc nL rt fr cl sl lo) {i : Nat} {v : Int32} (hw : Cond.constant own i v ∈ uW) (hd : decode cc pc = .ok (.ldc i, 2)) (k : Wo C G nL Q x σ kc ks (pc + 2) lv (.int v :: st)) : Wo C G nL Q x σ kc ks pc lv st :=
  fun res hres hφ H locs hM hS ls hl => lv_ldc hC.hx hC.hb hC.hown (hC.hts _ hw) hd (k res hres hφ H locs hM hS ls hl)
theorem r_ldcw (hC : CX C G own cc nL rt fr cl sl lo) {i : Nat} {v : Int32} (hw : Cond.constant own i v ∈ uW) (hd : decode cc pc = .ok (.ldc_w i, 3)) (k : Wo C G nL Q x σ kc ks (pc + 3) lv (.int v :: st)) : Wo C G nL Q x σ kc ks pc lv st :=
  fun res hres hφ H locs hM hS ls hl => lv_ldcw hC.hx hC.hb hC.hown (hC.hts _ hw) hd (k res hres hφ H locs hM hS ls hl)
theorem r_ldc2 (hC : CX C G own cc nL rt fr cl sl lo) {i : Nat} {v : Int64} (hw : Cond.constantLong own i v ∈ uW) (hd : decode cc pc = .ok (.ldc2_w i, 3)) (k : Wo C G nL Q x σ kc ks (pc + 3) lv (.long v :: st)) : Wo C G nL Q x σ kc ks pc lv st :=
  fun res hres hφ H locs hM hS ls hl => lv_ldc2 hC.hx hC.hb hC.hown (hC.hts _ hw) hd (k res hres hφ H locs hM hS ls hl)
theorem r_null (hC : CX C G own cc nL rt fr cl sl lo) (hd : decode cc pc = .ok (.aconst_null, 1)) (k : Wo C G nL Q x σ kc ks (pc + 1) lv (va_rf none :: st)) : Wo C G nL Q x σ kc ks pc lv st :=
  fun res hres hφ H locs hM hS ls hl => lv_null hC.hx hC.hb hd (k res hres hφ H locs hM hS ls hl)
theorem r_dconst0 (hC : CX C G own cc nL rt fr cl sl lo) (hd : decode cc pc = .ok (.dconst 0, 1)) (k : Wo C G nL Q x σ kc ks (pc + 1) lv (.double 0 :: st)) : Wo C G nL Q x σ kc ks pc lv st :=
  fun res hres hφ H locs hM hS ls hl => lv_dconst0 hC.hx hC.hb hd (k res hres hφ H locs hM hS ls hl)
theorem r_iloadn (hC : CX C G own cc nL rt fr cl sl lo) (j : Nat) {q : Fin 4} {i : Nat} {v : Int32} (hi : (q : Nat) = i) (hv : lv[j]? = some (i, .int v)) (hd : decode cc pc = .ok (.iload_n q, 1)) (k : Wo C G nL Q x σ kc ks (pc + 1) lv (.int v :: st)) : Wo C G nL Q x σ kc ks pc lv st :=
  fun res hres hφ H locs hM hS ls hl => lv_iload_n hC.hx hC.hb hd hi (lv_at hl j hv) (k res hres hφ H locs hM hS ls hl)
theorem r_iload (hC : CX C G own cc nL rt fr cl sl lo) (j : Nat) {i : Nat} {v : Int32} (hv : lv[j]? = some (i, .int v)) (hd : decode cc pc = .ok (.iload i, 2)) (k : Wo C G nL Q x σ kc ks (pc + 2) lv (.int v :: st)) : Wo C G nL Q x σ kc ks pc lv st :=
  fun res hres hφ H locs hM hS ls hl => lv_iload hC.hx hC.hb hd (lv_at hl j hv) (k res hres hφ H locs hM hS ls hl)
theorem r_lloadn (hC : CX C G own cc nL rt fr cl sl lo) (j : Nat) {q : Fin 4} {i : Nat} {v : Int64} (hi : (q : Nat) = i) (hv : lv[j]? = some (i, .long v)) (hd : decode cc pc = .ok (.lload_n q, 1)) (k : Wo C G nL Q x σ kc ks (pc + 1) lv (.long v :: st)) : Wo C G nL Q x σ kc ks pc lv st :=
  fun res hres hφ H locs hM hS ls hl => lv_lload_n hC.hx hC.hb hd hi (lv_at hl j hv) (k res hres hφ H locs hM hS ls hl)
theorem r_lload (hC : CX C G own cc nL rt fr cl sl lo) (j : Nat) {i : Nat} {v : Int64} (hv : lv[j]? = some (i, .long v)) (hd : decode cc pc = .ok (.lload i, 2)) (k : Wo C G nL Q x σ kc ks (pc + 2) lv (.long v :: st)) : Wo C G nL Q x σ kc ks pc lv st :=
  fun res hres hφ H locs hM hS ls hl => lv_lload hC.hx hC.hb hd (lv_at hl j hv) (k res hres hφ H locs hM hS ls hl)
theorem r_dload (hC : CX C G own cc nL rt fr cl sl lo) (j : Nat) {i : Nat} {v : UInt64} (hv : lv[j]? = some (i, .double v)) (hd : decode cc pc = .ok (.dload i, 2)) (k : Wo C G nL Q x σ kc ks (pc + 2) lv (.double v :: st)) : Wo C G nL Q x σ kc ks pc lv st :=
  fun res hres hφ H locs hM hS ls hl => lv_dload hC.hx hC.hb hd (lv_at hl j hv) (k res hres hφ H locs hM hS ls hl)
theorem r_aloadn (hC : CX C G own cc nL rt fr cl sl lo) (j : Nat) {q : Fin 4} {i : Nat} {r : Option Nat} (hi : (q : Nat) = i) (hv : lv[j]? = some (i, va_rf r)) (hd : decode cc pc = .ok (.aload_n q, 1)) (k : Wo C G nL Q x σ kc ks (pc + 1) lv (va_rf r :: st)) : Wo C G nL Q x σ kc ks pc lv st := by
  intro res hres hφ H locs hM hS ls hl
  cases r with
  | none => exact lv_aload_nN hC.hx hC.hb hd hi (lv_at hl j hv) (k res hres hφ H locs hM hS ls hl)
  | some a => exact lv_aload_n hC.hx hC.hb hd hi (lv_at hl j hv) (k res hres hφ H locs hM hS ls hl)
theorem r_aload (hC : CX C G own cc nL rt fr cl sl lo) (j : Nat) {i : Nat} {r : Option Nat} (hv : lv[j]? = some (i, va_rf r)) (hd : decode cc pc = .ok (.aload i, 2)) (k : Wo C G nL Q x σ kc ks (pc + 2) lv (va_rf r :: st)) : Wo C G nL Q x σ kc ks pc lv st := by
  intro res hres hφ H locs hM hS ls hl
  cases r with
  | none => exact lv_aloadN hC.hx hC.hb hd (lv_at hl j hv) (k res hres hφ H locs hM hS ls hl)
  | some a => exact lv_aload hC.hx hC.hb hd (lv_at hl j hv) (k res hres hφ H locs hM hS ls hl)
theorem r_istoren (hC : CX C G own cc nL rt fr cl sl lo) (lv' : List (Nat × Value)) {q : Fin 4} {i : Nat} {v : Int32} (hi : (q : Nat) = i) (hn : i < nL) (he : (i, Value.int v) :: lv.filter (fun q => !(q.1 == i) && !(q.1 + 1 == i && q.2.category == 2)) = lv') (hd : decode cc pc = .ok (.istore_n q, 1)) (k : Wo C G nL Q x σ kc ks (pc + 1) lv' st) : Wo C G nL Q x σ kc ks pc lv (.int v :: st) :=
  fun res hres hφ H locs hM hS ls hl => lv_istore_n hC.hx hC.hb hd hi hl hn he (fun ls' hl' => k res hres hφ H locs hM hS ls' hl')
theorem r_istore (hC : CX C G own cc nL rt fr cl sl lo) (lv' : List (Nat × Value)) {i : Nat} {v : Int32} (hn : i < nL) (he : (i, Value.int v) :: lv.filter (fun q => !(q.1 == i) && !(q.1 + 1 == i && q.2.category == 2)) = lv') (hd : decode cc pc = .ok (.istore i, 2)) (k : Wo C G nL Q x σ kc ks (pc + 2) lv' st) : Wo C G nL Q x σ kc ks pc lv (.int v :: st) :=
  fun res hres hφ H locs hM hS ls hl => lv_istore hC.hx hC.hb hd hl hn he (fun ls' hl' => k res hres hφ H locs hM hS ls' hl')
theorem r_lstoren (hC : CX C G own cc nL rt fr cl sl lo) (lv' : List (Nat × Value)) {q : Fin 4} {i : Nat} {v : Int64} (hi : (q : Nat) = i) (hn : i + 1 < nL) (he : (i, Value.long v) :: lv.filter (fun q => !(q.1 == i) && (!(q.1 == i + 1) && !(q.1 + 1 == i && q.2.category == 2))) = lv') (hd : decode cc pc = .ok (.lstore_n q, 1)) (k : Wo C G nL Q x σ kc ks (pc + 1) lv' st) : Wo C G nL Q x σ kc ks pc lv (.long v :: st) :=
  fun res hres hφ H locs hM hS ls hl => lv_lstore_n hC.hx hC.hb hd hi hl hn he (fun ls' hl' => k res hres hφ H locs hM hS ls' hl')
theorem r_lstore (hC : CX C G own cc nL rt fr cl sl lo) (lv' : List (Nat × Value)) {i : Nat} {v : Int64} (hn : i + 1 < nL) (he : (i, Value.long v) :: lv.filter (fun q => !(q.1 == i) && (!(q.1 == i + 1) && !(q.1 + 1 == i && q.2.category == 2))) = lv') (hd : decode cc pc = .ok (.lstore i, 2)) (k : Wo C G nL Q x σ kc ks (pc + 2) lv' st) : Wo C G nL Q x σ kc ks pc lv (.long v :: st) :=
  fun res hres hφ H locs hM hS ls hl => lv_lstore hC.hx hC.hb hd hl hn he (fun ls' hl' => k res hres hφ H locs hM hS ls' hl')
theorem r_dstore (hC : CX C G own cc nL rt fr cl sl lo) (lv' : List (Nat × Value)) {i : Nat} {v : UInt64} (hn : i + 1 < nL) (he : (i, Value.double v) :: lv.filter (fun q => !(q.1 == i) && (!(q.1 == i + 1) && !(q.1 + 1 == i && q.2.category == 2))) = lv') (hd : decode cc pc = .ok (.dstore i, 2)) (k : Wo C G nL Q x σ kc ks (pc + 2) lv' st) : Wo C G nL Q x σ kc ks pc lv (.double v :: st) :=
  fun res hres hφ H locs hM hS ls hl => lv_dstore hC.hx hC.hb hd hl hn he (fun ls' hl' => k res hres hφ H locs hM hS ls' hl')
theorem r_astoren (hC : CX C G own cc nL rt fr cl sl lo) (lv' : List (Nat × Value)) {q : Fin 4} {i : Nat} {r : Option Nat} (hi : (q : Nat) = i) (hn : i < nL) (he : (i, va_rf r) :: lv.filter (fun q => !(q.1 == i) && !(q.1 + 1 == i && q.2.category == 2)) = lv') (hd : decode cc pc = .ok (.astore_n q, 1)) (k : Wo C G nL Q x σ kc ks (pc + 1) lv' st) : Wo C G nL Q x σ kc ks pc lv (va_rf r :: st) := by
  intro res hres hφ H locs hM hS ls hl
  cases r with
  | none => exact lv_astore_nN hC.hx hC.hb hd hi hl hn he (fun ls' hl' => k res hres hφ H locs hM hS ls' hl')
  | some a => exact lv_astore_n hC.hx hC.hb hd hi hl hn he (fun ls' hl' => k res hres hφ H locs hM hS ls' hl')
theorem r_astore (hC : CX C G own cc nL rt fr cl sl lo) (lv' : List (Nat × Value)) {i : Nat} {r : Option Nat} (hn : i < nL) (he : (i, va_rf r) :: lv.filter (fun q => !(q.1 == i) && !(q.1 + 1 == i && q.2.category == 2)) = lv') (hd : decode cc pc = .ok (.astore i, 2)) (k : Wo C G nL Q x σ kc ks (pc + 2) lv' st) : Wo C G nL Q x σ kc ks pc lv (va_rf r :: st) := by
  intro res hres hφ H locs hM hS ls hl
  cases r with
  | none => exact lv_astoreN hC.hx hC.hb hd hl hn he (fun ls' hl' => k res hres hφ H locs hM hS ls' hl')
  | some a => exact lv_astore hC.hx hC.hb hd hl hn he (fun ls' hl' => k res hres hφ H locs hM hS ls' hl')
theorem r_iinc (hC : CX C G own cc nL rt fr cl sl lo) (j : Nat) (lv' : Int32 → List (Nat × Value)) {i : Nat} {n : Int} {v : Int32} {K : Int32 → Option β} (m : Int32) (hm : Int32.ofInt n = m) (hn : i < nL) (hv : lv[j]? = some (i, .int v)) (he : ∀ w : Int32, (i, Value.int w) :: lv.filter (fun q => !(q.1 == i) && !(q.1 + 1 == i && q.2.category == 2)) = lv' w) (hd : decode cc pc = .ok (.iinc i n, 3)) (k : ∀ w, Wo C G nL Q (K w) σ kc ks (pc + 3) (lv' w) st) : Wo C G nL Q (nm (v + m) K) σ kc ks pc lv st :=
  fun res hres hφ H locs hM hS ls hl => lv_iinc (v := v + m) hC.hx hC.hb hd hl hv (by rw [hm]) hn (he (v + m)) (fun ls' hl' => k (v + m) res hres hφ H locs hM hS ls' hl')
theorem r_dup (hC : CX C G own cc nL rt fr cl sl lo) {va : Value} (hva : va.category = 1) (hd : decode cc pc = .ok (.dup, 1)) (k : Wo C G nL Q x σ kc ks (pc + 1) lv (va :: va :: st)) : Wo C G nL Q x σ kc ks pc lv (va :: st) :=
  fun res hres hφ H locs hM hS ls hl => lv_dup hC.hx hC.hb hd hva (k res hres hφ H locs hM hS ls hl)
theorem r_pop (hC : CX C G own cc nL rt fr cl sl lo) {va : Value} (hva : va.category = 1) (hd : decode cc pc = .ok (.pop, 1)) (k : Wo C G nL Q x σ kc ks (pc + 1) lv st) : Wo C G nL Q x σ kc ks pc lv (va :: st) :=
  fun res hres hφ H locs hM hS ls hl => lv_pop hC.hx hC.hb hd hva (k res hres hφ H locs hM hS ls hl)
theorem r_dup_x1 (hC : CX C G own cc nL rt fr cl sl lo) {va vb : Value} (hva : va.category = 1) (hvb : vb.category = 1) (hd : decode cc pc = .ok (.dup_x1, 1)) (k : Wo C G nL Q x σ kc ks (pc + 1) lv (va :: vb :: va :: st)) : Wo C G nL Q x σ kc ks pc lv (va :: vb :: st) :=
  fun res hres hφ H locs hM hS ls hl => lv_dup_x1 hC.hx hC.hb hd hva hvb (k res hres hφ H locs hM hS ls hl)
theorem cat_rf (r : Option Nat) : (va_rf r).category = 1 := by cases r <;> rfl
theorem r_iadd (hC : CX C G own cc nL rt fr cl sl lo) {a b : Int32} {K : Int32 → Option β} (hd : decode cc pc = .ok (.iadd, 1)) (k : ∀ v, Wo C G nL Q (K v) σ kc ks (pc + 1) lv (.int v :: st)) : Wo C G nL Q (nm (a + b) K) σ kc ks pc lv (.int b :: .int a :: st) :=
  fun res hres hφ H locs hM hS ls hl => lv_iadd hC.hx hC.hb hd (k (a + b) res hres hφ H locs hM hS ls hl)
theorem r_isub (hC : CX C G own cc nL rt fr cl sl lo) {a b : Int32} {K : Int32 → Option β} (hd : decode cc pc = .ok (.isub, 1)) (k : ∀ v, Wo C G nL Q (K v) σ kc ks (pc + 1) lv (.int v :: st)) : Wo C G nL Q (nm (a - b) K) σ kc ks pc lv (.int b :: .int a :: st) :=
  fun res hres hφ H locs hM hS ls hl => lv_isub hC.hx hC.hb hd (k (a - b) res hres hφ H locs hM hS ls hl)
theorem r_imul (hC : CX C G own cc nL rt fr cl sl lo) {a b : Int32} {K : Int32 → Option β} (hd : decode cc pc = .ok (.imul, 1)) (k : ∀ v, Wo C G nL Q (K v) σ kc ks (pc + 1) lv (.int v :: st)) : Wo C G nL Q (nm (a * b) K) σ kc ks pc lv (.int b :: .int a :: st) :=
  fun res hres hφ H locs hM hS ls hl => lv_imul hC.hx hC.hb hd (k (a * b) res hres hφ H locs hM hS ls hl)
theorem r_iand (hC : CX C G own cc nL rt fr cl sl lo) {a b : Int32} {K : Int32 → Option β} (hd : decode cc pc = .ok (.iand, 1)) (k : ∀ v, Wo C G nL Q (K v) σ kc ks (pc + 1) lv (.int v :: st)) : Wo C G nL Q (nm (a &&& b) K) σ kc ks pc lv (.int b :: .int a :: st) :=
  fun res hres hφ H locs hM hS ls hl => lv_iand hC.hx hC.hb hd (k (a &&& b) res hres hφ H locs hM hS ls hl)
theorem r_ior (hC : CX C G own cc nL rt fr cl sl lo) {a b : Int32} {K : Int32 → Option β} (hd : decode cc pc = .ok (.ior, 1)) (k : ∀ v, Wo C G nL Q (K v) σ kc ks (pc + 1) lv (.int v :: st)) : Wo C G nL Q (nm (a ||| b) K) σ kc ks pc lv (.int b :: .int a :: st) :=
  fun res hres hφ H locs hM hS ls hl => lv_ior hC.hx hC.hb hd (k (a ||| b) res hres hφ H locs hM hS ls hl)
theorem r_ishr (hC : CX C G own cc nL rt fr cl sl lo) {a b : Int32} {K : Int32 → Option β} (hd : decode cc pc = .ok (.ishr, 1)) (k : ∀ v, Wo C G nL Q (K v) σ kc ks (pc + 1) lv (.int v :: st)) : Wo C G nL Q (nm (a >>> (b &&& 31)) K) σ kc ks pc lv (.int b :: .int a :: st) :=
  fun res hres hφ H locs hM hS ls hl => lv_ishr hC.hx hC.hb hd (k (a >>> (b &&& 31)) res hres hφ H locs hM hS ls hl)
theorem r_ineg (hC : CX C G own cc nL rt fr cl sl lo) {a : Int32} {K : Int32 → Option β} (hd : decode cc pc = .ok (.ineg, 1)) (k : ∀ v, Wo C G nL Q (K v) σ kc ks (pc + 1) lv (.int v :: st)) : Wo C G nL Q (nm (-a) K) σ kc ks pc lv (.int a :: st) :=
  fun res hres hφ H locs hM hS ls hl => lv_ineg hC.hx hC.hb hd (k (-a) res hres hφ H locs hM hS ls hl)
/-- a division: none at 0 -/
def dv (a b : Int32) (K : Int32 → Option β) : Option β := if b = 0 then none else K (a / b)
def rm (a b : Int32) (K : Int32 → Option β) : Option β := if b = 0 then none else K (a - a / b * b)
theorem r_idiv (hC : CX C G own cc nL rt fr cl sl lo) {a b : Int32} {K : Int32 → Option β} (hd : decode cc pc = .ok (.idiv, 1)) (k : ∀ v, Wo C G nL Q (K v) σ kc ks (pc + 1) lv (.int v :: st)) : Wo C G nL Q (dv a b K) σ kc ks pc lv (.int b :: .int a :: st) := by
  intro res hres hφ H locs hM hS ls hl
  unfold dv at hres
  split at hres
  · cases hres
  · rename_i h0
    exact lv_idiv hC.hx hC.hb hd h0 (k (a / b) res hres hφ H locs hM hS ls hl)
theorem r_irem (hC : CX C G own cc nL rt fr cl sl lo) {a b : Int32} {K : Int32 → Option β} (hd : decode cc pc = .ok (.irem, 1)) (k : ∀ v, Wo C G nL Q (K v) σ kc ks (pc + 1) lv (.int v :: st)) : Wo C G nL Q (rm a b K) σ kc ks pc lv (.int b :: .int a :: st) := by
  intro res hres hφ H locs hM hS ls hl
  unfold rm at hres
  split at hres
  · cases hres
  · rename_i h0
    exact lv_irem hC.hx hC.hb hd h0 (k (a - a / b * b) res hres hφ H locs hM hS ls hl)
theorem r_ladd (hC : CX C G own cc nL rt fr cl sl lo) {a b : Int64} {K : Int64 → Option β} (hd : decode cc pc = .ok (.ladd, 1)) (k : ∀ v, Wo C G nL Q (K v) σ kc ks (pc + 1) lv (.long v :: st)) : Wo C G nL Q (nm (a + b) K) σ kc ks pc lv (.long b :: .long a :: st) :=
  fun res hres hφ H locs hM hS ls hl => lv_ladd hC.hx hC.hb hd (k (a + b) res hres hφ H locs hM hS ls hl)
theorem r_lmul (hC : CX C G own cc nL rt fr cl sl lo) {a b : Int64} {K : Int64 → Option β} (hd : decode cc pc = .ok (.lmul, 1)) (k : ∀ v, Wo C G nL Q (K v) σ kc ks (pc + 1) lv (.long v :: st)) : Wo C G nL Q (nm (a * b) K) σ kc ks pc lv (.long b :: .long a :: st) :=
  fun res hres hφ H locs hM hS ls hl => lv_lmul hC.hx hC.hb hd (k (a * b) res hres hφ H locs hM hS ls hl)
theorem r_i2l (hC : CX C G own cc nL rt fr cl sl lo) {a : Int32} {K : Int64 → Option β} (hd : decode cc pc = .ok (.i2l, 1)) (k : ∀ v, Wo C G nL Q (K v) σ kc ks (pc + 1) lv (.long v :: st)) : Wo C G nL Q (nm a.toInt64 K) σ kc ks pc lv (.int a :: st) :=
  fun res hres hφ H locs hM hS ls hl => lv_i2l hC.hx hC.hb hd rfl (k a.toInt64 res hres hφ H locs hM hS ls hl)
theorem r_i2d (hC : CX C G own cc nL rt fr cl sl lo) {a : Int32} {K : UInt64 → Option β} (hd : decode cc pc = .ok (.i2d, 1)) (k : ∀ v, Wo C G nL Q (K v) σ kc ks (pc + 1) lv (.double v :: st)) : Wo C G nL Q (nm (FP.i2d a) K) σ kc ks pc lv (.int a :: st) :=
  fun res hres hφ H locs hM hS ls hl => lv_i2d hC.hx hC.hb hd (k (FP.i2d a) res hres hφ H locs hM hS ls hl)
/-- a double division that is a number -/
def ddv (a b : UInt64) (K : UInt64 → Option β) : Option β := if FP.ddiv a b &&& 0x7fffffffffffffff ≤ 0x7ff0000000000000 then K (FP.ddiv a b) else none
theorem r_ddiv (hC : CX C G own cc nL rt fr cl sl lo) {a b : UInt64} {K : UInt64 → Option β} (hd : decode cc pc = .ok (.ddiv, 1)) (k : ∀ v, Wo C G nL Q (K v) σ kc ks (pc + 1) lv (.double v :: st)) : Wo C G nL Q (ddv a b K) σ kc ks pc lv (.double b :: .double a :: st) := by
  intro res hres hφ H locs hM hS ls hl
  unfold ddv at hres
  split at hres
  · rename_i h0
    exact lv_ddiv hC.hx hC.hb hd h0 (k (FP.ddiv a b) res hres hφ H locs hM hS ls hl)
  · cases hres
theorem r_dcmp (hC : CX C G own cc nL rt fr cl sl lo) {a b : UInt64} {op : CmpOp} {K : Int32 → Option β} (hd : decode cc pc = .ok (.dcmp op, 1)) (k : ∀ v, Wo C G nL Q (K v) σ kc ks (pc + 1) lv (.int v :: st)) : Wo C G nL Q (nm (Op.cmpValue (FP.dcmp a b) op) K) σ kc ks pc lv (.double b :: .double a :: st) :=
  fun res hres hφ H locs hM hS ls hl => lv_dcmp hC.hx hC.hb hd (k _ res hres hφ H locs hM hS ls hl)
end R1
section R2
variable {β : Type} {C : Cxt} {G : Glb} {own : String} {cc : ByteArray} {nL : Nat} {rt : Option FieldType} {fr cl sl lo : Nat} {Q : Pst β} {x y : Option β} {σ : Mem} {kc ks pc : Nat} {lv : List (Nat × Value)} {st : List Value}
theorem r_dup2 (hC : CX C G own cc nL rt fr cl sl lo) {va vb : Value} (hva : va.category = 1) (hvb : vb.category = 1) (hd : decode cc pc = .ok (.dup2, 1)) (k : Wo C G nL Q x σ kc ks (pc + 1) lv (va :: vb :: va :: vb :: st)) : Wo C G nL Q x σ kc ks pc lv (va :: vb :: st) :=
  fun res hres hφ H locs hM hS ls hl => lv_dup2_11 hC.hx hC.hb hd hva hvb (k res hres hφ H locs hM hS ls hl)
theorem r_lcmp (hC : CX C G own cc nL rt fr cl sl lo) {a b : Int64} {K : Int32 → Option β} (hd : decode cc pc = .ok (.lcmp, 1)) (k : ∀ v, Wo C G nL Q (K v) σ kc ks (pc + 1) lv (.int v :: st)) : Wo C G nL Q (nm (lg_cmp a b) K) σ kc ks pc lv (.long b :: .long a :: st) :=
  fun res hres hφ H locs hM hS ls hl => W.lcmp hC.hx hC.hb hd (k _ res hres hφ H locs hM hS ls hl)
/-! branches -/
theorem ite_t {c : Prop} [Decidable c] {x y : Option β} {res : β} (h : (if c then x else y) = some res) (hc : c) : x = some res := by rw [if_pos hc] at h; exact h
theorem ite_f {c : Prop} [Decidable c] {x y : Option β} {res : β} (h : (if c then x else y) = some res) (hc : ¬ c) : y = some res := by rw [if_neg hc] at h; exact h
theorem r_goto (hC : CX C G own cc nL rt fr cl sl lo) (tgt : Nat) {off : Int} (hd : decode cc pc = .ok (.goto off, 3)) (ht : (pc : Int) + off = (tgt : Int)) (k : Wo C G nL Q x σ kc ks tgt lv st) : Wo C G nL Q x σ kc ks pc lv st :=
  fun res hres hφ H locs hM hS ls hl => lv_goto hC.hx hC.hb hd ht (k res hres hφ H locs hM hS ls hl)
theorem r_if_eq (hC : CX C G own cc nL rt fr cl sl lo) (tgt : Nat) {a : Int32} {off : Int} (hd : decode cc pc = .ok (.ifCond .eq off, 3)) (ht : (pc : Int) + off = (tgt : Int)) (kt : Wo C G nL Q x σ kc ks tgt lv st) (kf : Wo C G nL Q y σ kc ks (pc + 3) lv st) : Wo C G nL Q (if a = 0 then x else y) σ kc ks pc lv (.int a :: st) :=
  fun res hres hφ H locs hM hS ls hl => lv_if_eq hC.hx hC.hb hd ht (fun q => kt res (ite_t hres q) hφ H locs hM hS ls hl) (fun q => kf res (ite_f hres q) hφ H locs hM hS ls hl)
theorem r_icmp_eq (hC : CX C G own cc nL rt fr cl sl lo) (tgt : Nat) {a b : Int32} {off : Int} (hd : decode cc pc = .ok (.if_icmp .eq off, 3)) (ht : (pc : Int) + off = (tgt : Int)) (kt : Wo C G nL Q x σ kc ks tgt lv st) (kf : Wo C G nL Q y σ kc ks (pc + 3) lv st) : Wo C G nL Q (if a = b then x else y) σ kc ks pc lv (.int b :: .int a :: st) :=
  fun res hres hφ H locs hM hS ls hl => lv_icmp_eq hC.hx hC.hb hd ht (fun q => kt res (ite_t hres q) hφ H locs hM hS ls hl) (fun q => kf res (ite_f hres q) hφ H locs hM hS ls hl)
theorem r_if_ne (hC : CX C G own cc nL rt fr cl sl lo) (tgt : Nat) {a : Int32} {off : Int} (hd : decode cc pc = .ok (.ifCond .ne off, 3)) (ht : (pc : Int) + off = (tgt : Int)) (kt : Wo C G nL Q x σ kc ks tgt lv st) (kf : Wo C G nL Q y σ kc ks (pc + 3) lv st) : Wo C G nL Q (if a = 0 then y else x) σ kc ks pc lv (.int a :: st) :=
  fun res hres hφ H locs hM hS ls hl => lv_if_ne hC.hx hC.hb hd ht (fun q => kt res (ite_f hres q) hφ H locs hM hS ls hl) (fun q => kf res (ite_t hres q) hφ H locs hM hS ls hl)
theorem r_icmp_ne (hC : CX C G own cc nL rt fr cl sl lo) (tgt : Nat) {a b : Int32} {off : Int} (hd : decode cc pc = .ok (.if_icmp .ne off, 3)) (ht : (pc : Int) + off = (tgt : Int)) (kt : Wo C G nL Q x σ kc ks tgt lv st) (kf : Wo C G nL Q y σ kc ks (pc + 3) lv st) : Wo C G nL Q (if a = b then y else x) σ kc ks pc lv (.int b :: .int a :: st) :=
  fun res hres hφ H locs hM hS ls hl => lv_icmp_ne hC.hx hC.hb hd ht (fun q => kt res (ite_f hres q) hφ H locs hM hS ls hl) (fun q => kf res (ite_t hres q) hφ H locs hM hS ls hl)
theorem r_if_lt (hC : CX C G own cc nL rt fr cl sl lo) (tgt : Nat) {a : Int32} {off : Int} (hd : decode cc pc = .ok (.ifCond .lt off, 3)) (ht : (pc : Int) + off = (tgt : Int)) (kt : Wo C G nL Q x σ kc ks tgt lv st) (kf : Wo C G nL Q y σ kc ks (pc + 3) lv st) : Wo C G nL Q (if a < 0 then x else y) σ kc ks pc lv (.int a :: st) :=
  fun res hres hφ H locs hM hS ls hl => lv_if_lt hC.hx hC.hb hd ht (fun q => kt res (ite_t hres q) hφ H locs hM hS ls hl) (fun q => kf res (ite_f hres q) hφ H locs hM hS ls hl)
theorem r_icmp_lt (hC : CX C G own cc nL rt fr cl sl lo) (tgt : Nat) {a b : Int32} {off : Int} (hd : decode cc pc = .ok (.if_icmp .lt off, 3)) (ht : (pc : Int) + off = (tgt : Int)) (kt : Wo C G nL Q x σ kc ks tgt lv st) (kf : Wo C G nL Q y σ kc ks (pc + 3) lv st) : Wo C G nL Q (if a < b then x else y) σ kc ks pc lv (.int b :: .int a :: st) :=
  fun res hres hφ H locs hM hS ls hl => lv_icmp_lt hC.hx hC.hb hd ht (fun q => kt res (ite_t hres q) hφ H locs hM hS ls hl) (fun q => kf res (ite_f hres q) hφ H locs hM hS ls hl)
theorem r_if_ge (hC : CX C G own cc nL rt fr cl sl lo) (tgt : Nat) {a : Int32} {off : Int} (hd : decode cc pc = .ok (.ifCond .ge off, 3)) (ht : (pc : Int) + off = (tgt : Int)) (kt : Wo C G nL Q x σ kc ks tgt lv st) (kf : Wo C G nL Q y σ kc ks (pc + 3) lv st) : Wo C G nL Q (if 0 ≤ a then x else y) σ kc ks pc lv (.int a :: st) :=
  fun res hres hφ H locs hM hS ls hl => lv_if_ge hC.hx hC.hb hd ht (fun q => kt res (ite_t hres q) hφ H locs hM hS ls hl) (fun q => kf res (ite_f hres q) hφ H locs hM hS ls hl)
theorem r_icmp_ge (hC : CX C G own cc nL rt fr cl sl lo) (tgt : Nat) {a b : Int32} {off : Int} (hd : decode cc pc = .ok (.if_icmp .ge off, 3)) (ht : (pc : Int) + off = (tgt : Int)) (kt : Wo C G nL Q x σ kc ks tgt lv st) (kf : Wo C G nL Q y σ kc ks (pc + 3) lv st) : Wo C G nL Q (if b ≤ a then x else y) σ kc ks pc lv (.int b :: .int a :: st) :=
  fun res hres hφ H locs hM hS ls hl => lv_icmp_ge hC.hx hC.hb hd ht (fun q => kt res (ite_t hres q) hφ H locs hM hS ls hl) (fun q => kf res (ite_f hres q) hφ H locs hM hS ls hl)
theorem r_if_gt (hC : CX C G own cc nL rt fr cl sl lo) (tgt : Nat) {a : Int32} {off : Int} (hd : decode cc pc = .ok (.ifCond .gt off, 3)) (ht : (pc : Int) + off = (tgt : Int)) (kt : Wo C G nL Q x σ kc ks tgt lv st) (kf : Wo C G nL Q y σ kc ks (pc + 3) lv st) : Wo C G nL Q (if 0 < a then x else y) σ kc ks pc lv (.int a :: st) :=
  fun res hres hφ H locs hM hS ls hl => lv_if_gt hC.hx hC.hb hd ht (fun q => kt res (ite_t hres q) hφ H locs hM hS ls hl) (fun q => kf res (ite_f hres q) hφ H locs hM hS ls hl)
theorem r_icmp_gt (hC : CX C G own cc nL rt fr cl sl lo) (tgt : Nat) {a b : Int32} {off : Int} (hd : decode cc pc = .ok (.if_icmp .gt off, 3)) (ht : (pc : Int) + off = (tgt : Int)) (kt : Wo C G nL Q x σ kc ks tgt lv st) (kf : Wo C G nL Q y σ kc ks (pc + 3) lv st) : Wo C G nL Q (if b < a then x else y) σ kc ks pc lv (.int b :: .int a :: st) :=
  fun res hres hφ H locs hM hS ls hl => lv_icmp_gt hC.hx hC.hb hd ht (fun q => kt res (ite_t hres q) hφ H locs hM hS ls hl) (fun q => kf res (ite_f hres q) hφ H locs hM hS ls hl)
theorem r_if_le (hC : CX C G own cc nL rt fr cl sl lo) (tgt : Nat) {a : Int32} {off : Int} (hd : decode cc pc = .ok (.ifCond .le off, 3)) (ht : (pc : Int) + off = (tgt : Int)) (kt : Wo C G nL Q x σ kc ks tgt lv st) (kf : Wo C G nL Q y σ kc ks (pc + 3) lv st) : Wo C G nL Q (if a ≤ 0 then x else y) σ kc ks pc lv (.int a :: st) :=
  fun res hres hφ H locs hM hS ls hl => lv_if_le hC.hx hC.hb hd ht (fun q => kt res (ite_t hres q) hφ H locs hM hS ls hl) (fun q => kf res (ite_f hres q) hφ H locs hM hS ls hl)
theorem r_icmp_le (hC : CX C G own cc nL rt fr cl sl lo) (tgt : Nat) {a b : Int32} {off : Int} (hd : decode cc pc = .ok (.if_icmp .le off, 3)) (ht : (pc : Int) + off = (tgt : Int)) (kt : Wo C G nL Q x σ kc ks tgt lv st) (kf : Wo C G nL Q y σ kc ks (pc + 3) lv st) : Wo C G nL Q (if a ≤ b then x else y) σ kc ks pc lv (.int b :: .int a :: st) :=
  fun res hres hφ H locs hM hS ls hl => lv_icmp_le hC.hx hC.hb hd ht (fun q => kt res (ite_t hres q) hφ H locs hM hS ls hl) (fun q => kf res (ite_f hres q) hφ H locs hM hS ls hl)
theorem r_acmp_eq (hC : CX C G own cc nL rt fr cl sl lo) (tgt : Nat) {a b : Option Nat} {off : Int} (hd : decode cc pc = .ok (.if_acmp .eq off, 3)) (ht : (pc : Int) + off = (tgt : Int)) (kt : Wo C G nL Q x σ kc ks tgt lv st) (kf : Wo C G nL Q y σ kc ks (pc + 3) lv st) : Wo C G nL Q (if a = b then x else y) σ kc ks pc lv (va_rf b :: va_rf a :: st) :=
  fun res hres hφ H locs hM hS ls hl => lv_acmp_eq hC.hx hC.hb hd ht (fun q => kt res (ite_t hres q) hφ H locs hM hS ls hl) (fun q => kf res (ite_f hres q) hφ H locs hM hS ls hl)
theorem r_acmp_ne (hC : CX C G own cc nL rt fr cl sl lo) (tgt : Nat) {a b : Option Nat} {off : Int} (hd : decode cc pc = .ok (.if_acmp .ne off, 3)) (ht : (pc : Int) + off = (tgt : Int)) (kt : Wo C G nL Q x σ kc ks tgt lv st) (kf : Wo C G nL Q y σ kc ks (pc + 3) lv st) : Wo C G nL Q (if a = b then y else x) σ kc ks pc lv (va_rf b :: va_rf a :: st) :=
  fun res hres hφ H locs hM hS ls hl => lv_acmp_ne hC.hx hC.hb hd ht (fun q => kt res (ite_f hres q) hφ H locs hM hS ls hl) (fun q => kf res (ite_t hres q) hφ H locs hM hS ls hl)
/-- null, or not -/
def nul (r : Option Nat) (x y : Option β) : Option β := match r with
  | none => x
  | some _ => y
theorem r_ifnull (hC : CX C G own cc nL rt fr cl sl lo) (tgt : Nat) {r : Option Nat} {off : Int} (hd : decode cc pc = .ok (.ifnull off, 3)) (ht : (pc : Int) + off = (tgt : Int)) (kt : Wo C G nL Q x σ kc ks tgt lv st) (kf : Wo C G nL Q y σ kc ks (pc + 3) lv st) : Wo C G nL Q (nul r x y) σ kc ks pc lv (va_rf r :: st) := by
  intro res hres hφ H locs hM hS ls hl
  cases r with
  | none => exact lv_ifnullN hC.hx hC.hb hd ht (kt res hres hφ H locs hM hS ls hl)
  | some a => exact lv_ifnull hC.hx hC.hb hd (kf res hres hφ H locs hM hS ls hl)
theorem r_ifnonnull (hC : CX C G own cc nL rt fr cl sl lo) (tgt : Nat) {r : Option Nat} {off : Int} (hd : decode cc pc = .ok (.ifnonnull off, 3)) (ht : (pc : Int) + off = (tgt : Int)) (kt : Wo C G nL Q y σ kc ks tgt lv st) (kf : Wo C G nL Q x σ kc ks (pc + 3) lv st) : Wo C G nL Q (nul r x y) σ kc ks pc lv (va_rf r :: st) := by
  intro res hres hφ H locs hM hS ls hl
  cases r with
  | none => exact lv_ifnonnullN hC.hx hC.hb hd (kf res hres hφ H locs hM hS ls hl)
  | some a => exact lv_ifnonnull hC.hx hC.hb hd ht (kt res hres hφ H locs hM hS ls hl)
end R2
/-! the fields -/
def kdOf : FieldType → Nat
  | .int => 0
  | .boolean => 0
  | .long => 2
  | _ => 1
def dfl (kd : Nat) : Value := match kd with
  | 0 => .int 0
  | 1 => .null
  | _ => .long 0
/-- a class as the memory has it -/
def ClsOK (ci : Nat) (Cn : String) (T : u_T) (N : Nat) (ty0 : Nat → FieldType) : Prop := vwCl[ci]? = some (Cn, T, N) ∧ (∀ w ∈ u_ws Cn T N, w ∈ uW) ∧ (∀ k, k < N → parseFieldDescriptor (T k).2.2.1 = some (ty0 k)) ∧ (∀ a, a < N → ∀ b, b < N → a ≠ b → (T a).2.1 ≠ (T b).2.1) ∧ ∀ k, k < N → fk ci k = kdOf (ty0 k) ∧ defaultValue (ty0 k) = dfl (fk ci k)
section R3
variable {β : Type} {C : Cxt} {G : Glb} {own : String} {cc : ByteArray} {nL : Nat} {rt : Option FieldType} {fr cl sl lo : Nat} {Q : Pst β} {x y : Option β} {σ : Mem} {kc ks pc : Nat} {lv : List (Nat × Value)} {st : List Value}
/-- the field is named by its declarer, or is the same -/
theorem sameF (hC : CX C G own cc nL rt fr cl sl lo) {ref O n d : String} (h : O = ref ∨ Cond.sameField ref O n d ∈ uW) : ∀ z, (cS C).fieldFound? O n d = some z → (cS C).fieldFound? ref n d = some z := by
  intro z hz
  rcases h with h | h
  · rw [← h]; exact hz
  · exact u_same (hC.hts _ h) z hz
theorem core_get (hC : CX C G own cc nL rt fr cl sl lo) {H : Heap} {locs : List Loc} {ls : Array Slot} {Z : State → Prop} {ci : Nat} {Cn ref : String} {T : u_T} {N k index : Nat} {ty0 : Nat → FieldType} {h : Nat} (hcl : ClsOK ci Cn T N ty0) (hk : k < N) (hlink : (Cond.fieldLink own index ref (T k).2.1 (T k).2.2.1) ∈ uW) (hsame : (T k).1 = ref ∨ Cond.sameField ref (T k).1 (T k).2.1 (T k).2.2.1 ∈ uW)
    (hM : memK G σ H) (hT : (mT σ h).1 = ci + 1) (hd : decode cc pc = .ok (.getfield index, 3)) (kk : WC C H locs kc ks Z (F0 (cM C) (pc + 3) ls (vOf (fk ci k) σ h k :: st))) : WC C H locs kc ks Z (F0 (cM C) pc ls (.ref h :: st)) := by
  obtain ⟨h1, h2, h3, h4, h5⟩ := hcl
  obtain ⟨cell, q1, q2, q3, q4⟩ := (hM.2.1 h).1 ci _ hT h1
  obtain ⟨hS, hfc, kC, hkC, hkind⟩ := hC.hK.1.1.1 ci _ h1
  obtain ⟨cf, kf, fi, f, hi, hsl⟩ := hS k hk
  exact W.getf hC.hx hC.hb hC.hown (hC.hts _ hlink) (sameF hC hsame _ hi) (u_facts hfc hkC (u_lays hC.hts h2 hk) hi).1 q1 (by rw [q3]; exact fun h => by cases h) (v := vOf (fk ci k) σ h k) (by rw [hsl]; exact q4 k hk) rfl rfl hd kk
theorem core_getN (hC : CX C G own cc nL rt fr cl sl lo) {H : Heap} {locs : List Loc} {ls : Array Slot} {Z : State → Prop} {ci : Nat} {Cn ref host : String} {T : u_T} {N k index : Nat} {ty0 : Nat → FieldType} {h : Nat} (hcl : ClsOK ci Cn T N ty0) (hk : k < N) (hlink : (Cond.fieldLinkNest own index ref (T k).2.1 (T k).2.2.1 host) ∈ lw_tbl) (hsame : (T k).1 = ref)
    (hM : memK G σ H) (hT : (mT σ h).1 = ci + 1) (hd : decode cc pc = .ok (.getfield index, 3)) (kk : WC C H locs kc ks Z (F0 (cM C) (pc + 3) ls (vOf (fk ci k) σ h k :: st))) : WC C H locs kc ks Z (F0 (cM C) pc ls (.ref h :: st)) := by
  obtain ⟨h1, h2, h3, h4, h5⟩ := hcl
  obtain ⟨cell, q1, q2, q3, q4⟩ := (hM.2.1 h).1 ci _ hT h1
  obtain ⟨hS, hfc, kC, hkC, hkind⟩ := hC.hK.1.1.1 ci _ h1
  obtain ⟨cf, kf, fi, f, hi, hsl⟩ := hS k hk
  exact va_Wgetf hC.hx hC.hb hC.hown (va_Nw.use rfl (hC.hK.1.2.1 _ hlink rfl)) (by rw [← hsame]; exact hi) (u_facts hfc hkC (u_lays hC.hts h2 hk) hi).1 q1 (by rw [q3]; exact fun h => by cases h) (v := vOf (fk ci k) σ h k) (by rw [hsl]; exact q4 k hk) rfl rfl hd kk
/-- a field's int, reference, long -/
def gI (ci k : Nat) (σ : Mem) (r : Option Nat) (K : Int32 → Option β) : Option β := match r with
  | none => none
  | some h => if (mT σ h).1 = ci + 1 then K (mI σ h k) else none
def gR (ci k : Nat) (σ : Mem) (r : Option Nat) (K : Option Nat → Option β) : Option β := match r with
  | none => none
  | some h => if (mT σ h).1 = ci + 1 then K (mR σ h k) else none
theorem r_gI (hC : CX C G own cc nL rt fr cl sl lo) {ci k index N : Nat} {Cn ref : String} {T : u_T} {ty0 : Nat → FieldType} {r : Option Nat} {K : Int32 → Option β} (hcl : ClsOK ci Cn T N ty0) (hk : k < N) (hkd : fk ci k = 0) (hlink : (Cond.fieldLink own index ref (T k).2.1 (T k).2.2.1) ∈ uW) (hsame : (T k).1 = ref ∨ Cond.sameField ref (T k).1 (T k).2.1 (T k).2.2.1 ∈ uW) (hd : decode cc pc = .ok (.getfield index, 3))
    (kk : ∀ v, Wo C G nL Q (K v) σ kc ks (pc + 3) lv (.int v :: st)) : Wo C G nL Q (gI ci k σ r K) σ kc ks pc lv (va_rf r :: st) := by
  intro res hres hφ H locs hM hS ls hl
  cases r with
  | none => cases hres
  | some h =>
    simp only [gI] at hres
    split at hres
    · rename_i hT
      refine core_get hC hcl hk hlink hsame hM hT hd ?_
      rw [hkd]
      exact kk _ res hres hφ H locs hM hS ls hl
    · cases hres
theorem r_gIN (hC : CX C G own cc nL rt fr cl sl lo) {ci k index N : Nat} {Cn ref host : String} {T : u_T} {ty0 : Nat → FieldType} {r : Option Nat} {K : Int32 → Option β} (hcl : ClsOK ci Cn T N ty0) (hk : k < N) (hkd : fk ci k = 0) (hlink : (Cond.fieldLinkNest own index ref (T k).2.1 (T k).2.2.1 host) ∈ lw_tbl) (hsame : (T k).1 = ref) (hd : decode cc pc = .ok (.getfield index, 3))
    (kk : ∀ v, Wo C G nL Q (K v) σ kc ks (pc + 3) lv (.int v :: st)) : Wo C G nL Q (gI ci k σ r K) σ kc ks pc lv (va_rf r :: st) := by
  intro res hres hφ H locs hM hS ls hl
  cases r with
  | none => cases hres
  | some h =>
    simp only [gI] at hres
    split at hres
    · rename_i hT
      refine core_getN hC hcl hk hlink hsame hM hT hd ?_
      rw [hkd]
      exact kk _ res hres hφ H locs hM hS ls hl
    · cases hres
theorem r_gR (hC : CX C G own cc nL rt fr cl sl lo) {ci k index N : Nat} {Cn ref : String} {T : u_T} {ty0 : Nat → FieldType} {r : Option Nat} {K : Option Nat → Option β} (hcl : ClsOK ci Cn T N ty0) (hk : k < N) (hkd : fk ci k = 1) (hlink : (Cond.fieldLink own index ref (T k).2.1 (T k).2.2.1) ∈ uW) (hsame : (T k).1 = ref ∨ Cond.sameField ref (T k).1 (T k).2.1 (T k).2.2.1 ∈ uW) (hd : decode cc pc = .ok (.getfield index, 3))
    (kk : ∀ v, Wo C G nL Q (K v) σ kc ks (pc + 3) lv (va_rf v :: st)) : Wo C G nL Q (gR ci k σ r K) σ kc ks pc lv (va_rf r :: st) := by
  intro res hres hφ H locs hM hS ls hl
  cases r with
  | none => cases hres
  | some h =>
    simp only [gR] at hres
    split at hres
    · rename_i hT
      refine core_get hC hcl hk hlink hsame hM hT hd ?_
      rw [hkd]
      exact kk _ res hres hφ H locs hM hS ls hl
    · cases hres
/-- the cell of an object with one field changed -/
theorem okAt_field {ci k : Nat} {Cn : String} {T : u_T} {N : Nat} {ty0 : Nat → FieldType} {H' : Heap} {cell : Cell} {h : Nat} {σ' : Mem} {v : Value} (hC : CX C G own cc nL rt fr cl sl lo) (hcl : ClsOK ci Cn T N ty0) (hk : k < N) (hT : (mT σ h).1 = ci + 1) (hT' : mT σ' = mT σ) (q2 : cell.cls = G.1.1 ci) (q3 : cell.vm = .none) (q4 : ∀ j, j < N → cell.slots[G.1.2 ci j]? = some (vOf (fk ci j) σ h j)) (e1 : H'[h]? = some (cell.setSlot (G.1.2 ci k) v)) (hv : vOf (fk ci k) σ' h k = v) (ho : ∀ j, j ≠ k → ∀ kd, vOf kd σ' h j = vOf kd σ h j) : okAt G σ' H' h := by
  obtain ⟨h1, h2, h3, h4, h5⟩ := hcl
  have hap : ∀ a b, a < N → b < N → a ≠ b → G.1.2 ci a ≠ G.1.2 ci b := va_apart (own := own) (D := G.1) (cl := vwCl) (tys := tysG G) hC.hts h2 ty0 h3 h4 hC.hK.1.1 h1
  have hlt := vwCl_len h1
  refine ⟨fun ci' r hc hr => ?_, fun t ht h7 => ?_⟩
  · rw [hT', hT] at hc
    have hcc : ci' = ci := by omega
    subst hcc
    have hrr : r = (Cn, T, N) := Option.some.inj (hr.symm.trans h1)
    subst hrr
    refine ⟨_, e1, q2, q3, fun j hj => ?_⟩
    have hs := t_set q4 hap hk v j hj
    rw [hs]
    by_cases hjk : j = k
    · subst hjk
      simp [updV, hv]
    · simp [updV, hjk, ho j hjk]
  · rw [hT', hT] at ht
    omega
theorem fits_of {ty : FieldType} {kd : Nat} (hkd : kdOf ty = kd) {σ : Mem} {a k : Nat} (hb : ty = .boolean → mI σ a k = 0 ∨ mI σ a k = 1) (h8 : ty = .int ∨ ty = .boolean ∨ ty = .long ∨ (∃ n, ty = .object n) ∨ ∃ t, ty = .array t) : narrow ty (vOf kd σ a k) = vOf kd σ a k ∧ fits ty (vOf kd σ a k) = true := by
  subst hkd
  rcases h8 with rfl | rfl | rfl | ⟨n, rfl⟩ | ⟨t, rfl⟩
  · exact ⟨rfl, rfl⟩
  · rcases hb rfl with h | h <;> (simp only [kdOf, vOf, h]; exact ⟨by decide, by decide⟩)
  · exact ⟨rfl, rfl⟩
  · simp only [kdOf, vOf]
    cases mR σ a k <;> exact ⟨rfl, rfl⟩
  · simp only [kdOf, vOf]
    cases mR σ a k <;> exact ⟨rfl, rfl⟩
theorem vOf_sI {σ : Mem} {h k : Nat} {v : Int32} : vOf 0 (sI σ h k v) h k = .int v := by simp [vOf, sI, mI, up2]
theorem vOf_sI_o {σ : Mem} {h k : Nat} {v : Int32} (x j : Nat) (hne : ¬ (x = h ∧ j = k)) (kd : Nat) : vOf kd (sI σ h k v) x j = vOf kd σ x j := by
  unfold vOf
  split
  · simp only [sI, mI, up2, if_neg hne]
  · rfl
  · rfl
theorem vOf_sR {σ : Mem} {h k : Nat} {v : Option Nat} : vOf 1 (sR σ h k v) h k = va_rf v := by simp [vOf, sR, mR, up2]
theorem vOf_sR_o {σ : Mem} {h k : Nat} {v : Option Nat} (x j : Nat) (hne : ¬ (x = h ∧ j = k)) (kd : Nat) : vOf kd (sR σ h k v) x j = vOf kd σ x j := by
  unfold vOf
  split
  · rfl
  · simp only [sR, mR, up2, if_neg hne]
  · rfl
theorem core_put (hC : CX C G own cc nL rt fr cl sl lo) {H : Heap} {locs : List Loc} {ls : Array Slot} {Z : State → Prop} {ci : Nat} {Cn ref : String} {T : u_T} {N k index : Nat} {ty0 : Nat → FieldType} {h : Nat} {v : Value} {σ' : Mem} (hcl : ClsOK ci Cn T N ty0) (hk : k < N) (hlink : (Cond.fieldLink own index ref (T k).2.1 (T k).2.2.1) ∈ uW) (hsame : (T k).1 = ref ∨ Cond.sameField ref (T k).1 (T k).2.1 (T k).2.2.1 ∈ uW)
    (hfin : (T k).2.2.2 = false ∨ ((T k).2.2.2 = true ∧ (cF C).name = "<init>" ∧ (T k).1 = own)) (hn : narrow (ty0 k) v = v) (hfit : fits (ty0 k) v = true) (hM : memK G σ H) (hS : va_S (gA G) (cS C).heap H locs) (hT : (mT σ h).1 = ci + 1) (hT' : mT σ' = mT σ) (hZ' : mZ σ' = mZ σ) (hv : vOf (fk ci k) σ' h k = v) (ho : ∀ a j, ¬ (a = h ∧ j = k) → ∀ kd, vOf kd σ' a j = vOf kd σ a j) (hd : decode cc pc = .ok (.putfield index, 3))
    (kk : ∀ (H1 : Heap) (locs1 : List Loc), memK G σ' H1 → va_S (gA G) (cS C).heap H1 locs1 → WC C H1 locs1 kc ks Z (F0 (cM C) (pc + 3) ls st)) : WC C H locs kc ks Z (F0 (cM C) pc ls (v :: .ref h :: st)) := by
  have hcl0 := hcl
  obtain ⟨h1, h2, h3, h4, h5⟩ := hcl
  have hlt := vwCl_len h1
  obtain ⟨cell, q1, q2, q3, q4⟩ := (hM.2.1 h).1 ci _ hT h1
  obtain ⟨hSl, hfc, kC, hkC, hkind⟩ := hC.hK.1.1.1 ci _ h1
  obtain ⟨cf, kf, fi, f, hi, hsl⟩ := hSl k hk
  have hst := (u_facts hfc hkC (u_lays hC.hts h2 hk) hi).1
  have hin := sameF hC hsame _ hi
  have hA : gA G h := hM.2.2.2.1 h (by omega) (by omega)
  have fin : ∀ H' : Heap, H'[h]? = some (cell.setSlot f.slot v) → H'.size = H.size → (∀ q, q ≠ h → H'[q]? = H[q]?) → WC C H' (locs ++ [⟨h, f.slot⟩]) kc ks Z (F0 (cM C) (pc + 3) ls st) := by
    intro H' e1 e2 e3
    rw [hsl] at e1
    exact kk H' _ (hM.put h hT' hZ' (fun x hx kd j => ho x j (fun z => hx z.1) kd) e2 e3 (okAt_field hC hcl0 hk hT hT' q2 q3 q4 e1 hv (fun j hj kd => ho h j (fun z => hj z.2) kd))) (hS.put e2 e3 hA)
  rcases hfin with hf | ⟨hf, hname, hown2⟩
  · have hlay := hC.hts _ (h2 _ (u_in_lay hk))
    unfold u_lay at hlay
    rw [if_neg (by rw [hf]; decide)] at hlay
    have h6 := u_store hfc hkC hkind hlay hi (h3 k hk) hn hfit
    exact W.putK hC.hx hC.hb (f := f) ⟨hC.hown, hC.hts _ hlink, ⟨_, _, _, hin⟩, hst⟩ (by rw [q2]; exact h6) q1 q3 (by rw [hsl]; exact k2_hasslot (q4 k hk)) rfl rfl hd fin
  · have hlay := hC.hts _ (h2 _ (u_in_lay hk))
    unfold u_lay at hlay
    rw [if_pos hf] at hlay
    have hcf : (cM C).cls = cf := by
      obtain ⟨_, _, c', _, _, _, -, -, hf', -, -, -, hown3, -⟩ := Cond.laysFinal_spec hlay
      have e1 : c' = cf := by have := hi.symm.trans hf'; simp at this; exact this.1.symm
      rw [hown2] at hown3
      rw [← e1]; exact Option.some.inj (hC.hown.symm.trans hown3)
    have h6 := u_fits hfc hkC hkind (Or.inr hlay) hi (h3 k hk) hn hfit
    exact W.putFinK hC.hx hC.hb hC.hown (hC.hts _ hlink) hin hst hcf hname (by rw [q2]; exact h6) q1 q3 (by rw [hsl]; exact k2_hasslot (q4 k hk)) rfl rfl hd fin
/-- a field's int, boolean, reference is written -/
def pI (ci k : Nat) (σ : Mem) (r : Option Nat) (v : Int32) (K : Mem → Option β) : Option β := match r with
  | none => none
  | some h => if (mT σ h).1 = ci + 1 then K (sI σ h k v) else none
def pB (ci k : Nat) (σ : Mem) (r : Option Nat) (v : Int32) (K : Mem → Option β) : Option β := match r with
  | none => none
  | some h => if (mT σ h).1 = ci + 1 ∧ (v = 0 ∨ v = 1) then K (sI σ h k v) else none
def pR (ci k : Nat) (σ : Mem) (r : Option Nat) (v : Option Nat) (K : Mem → Option β) : Option β := match r with
  | none => none
  | some h => if (mT σ h).1 = ci + 1 then K (sR σ h k v) else none
theorem r_pI (hC : CX C G own cc nL rt fr cl sl lo) {ci k index N : Nat} {Cn ref : String} {T : u_T} {ty0 : Nat → FieldType} {r : Option Nat} {v : Int32} {K : Mem → Option β} (hcl : ClsOK ci Cn T N ty0) (hk : k < N) (hty : ty0 k = .int) (hlink : (Cond.fieldLink own index ref (T k).2.1 (T k).2.2.1) ∈ uW) (hsame : (T k).1 = ref ∨ Cond.sameField ref (T k).1 (T k).2.1 (T k).2.2.1 ∈ uW) (hfin : (T k).2.2.2 = false ∨ ((T k).2.2.2 = true ∧ (cF C).name = "<init>" ∧ (T k).1 = own)) (hd : decode cc pc = .ok (.putfield index, 3))
    (kk : ∀ σ', Wo C G nL Q (K σ') σ' kc ks (pc + 3) lv st) : Wo C G nL Q (pI ci k σ r v K) σ kc ks pc lv (.int v :: va_rf r :: st) := by
  intro res hres hφ H locs hM hS ls hl
  cases r with
  | none => cases hres
  | some h =>
    simp only [pI] at hres
    split at hres
    · rename_i hT
      have hkd : fk ci k = 0 := by rw [(hcl.2.2.2.2 k hk).1, hty]; rfl
      exact core_put hC (σ' := sI σ h k v) hcl hk hlink hsame hfin (by rw [hty]; rfl) (by rw [hty]; rfl) hM hS hT rfl rfl (by rw [hkd]; exact vOf_sI) (fun a j hne kd => vOf_sI_o a j hne kd) hd (fun H1 locs1 hM1 hS1 => kk _ res hres hφ H1 locs1 hM1 hS1 ls hl)
    · cases hres
theorem r_pB (hC : CX C G own cc nL rt fr cl sl lo) {ci k index N : Nat} {Cn ref : String} {T : u_T} {ty0 : Nat → FieldType} {r : Option Nat} {v : Int32} {K : Mem → Option β} (hcl : ClsOK ci Cn T N ty0) (hk : k < N) (hty : ty0 k = .boolean) (hlink : (Cond.fieldLink own index ref (T k).2.1 (T k).2.2.1) ∈ uW) (hsame : (T k).1 = ref ∨ Cond.sameField ref (T k).1 (T k).2.1 (T k).2.2.1 ∈ uW) (hfin : (T k).2.2.2 = false ∨ ((T k).2.2.2 = true ∧ (cF C).name = "<init>" ∧ (T k).1 = own)) (hd : decode cc pc = .ok (.putfield index, 3))
    (kk : ∀ σ', Wo C G nL Q (K σ') σ' kc ks (pc + 3) lv st) : Wo C G nL Q (pB ci k σ r v K) σ kc ks pc lv (.int v :: va_rf r :: st) := by
  intro res hres hφ H locs hM hS ls hl
  cases r with
  | none => cases hres
  | some h =>
    simp only [pB] at hres
    split at hres
    · rename_i hT
      have hkd : fk ci k = 0 := by rw [(hcl.2.2.2.2 k hk).1, hty]; rfl
      have hnf : narrow .boolean (.int v) = .int v ∧ fits .boolean (.int v) = true := by rcases hT.2 with h | h <;> (subst h; exact ⟨by decide, by decide⟩)
      exact core_put hC (σ' := sI σ h k v) hcl hk hlink hsame hfin (by rw [hty]; exact hnf.1) (by rw [hty]; exact hnf.2) hM hS hT.1 rfl rfl (by rw [hkd]; exact vOf_sI) (fun a j hne kd => vOf_sI_o a j hne kd) hd (fun H1 locs1 hM1 hS1 => kk _ res hres hφ H1 locs1 hM1 hS1 ls hl)
    · cases hres
theorem r_pR (hC : CX C G own cc nL rt fr cl sl lo) {ci k index N : Nat} {Cn ref : String} {T : u_T} {ty0 : Nat → FieldType} {r v : Option Nat} {K : Mem → Option β} (hcl : ClsOK ci Cn T N ty0) (hk : k < N) (hkd : fk ci k = 1) (hty : (∃ n, ty0 k = .object n) ∨ ∃ t, ty0 k = .array t) (hlink : (Cond.fieldLink own index ref (T k).2.1 (T k).2.2.1) ∈ uW) (hsame : (T k).1 = ref ∨ Cond.sameField ref (T k).1 (T k).2.1 (T k).2.2.1 ∈ uW) (hfin : (T k).2.2.2 = false ∨ ((T k).2.2.2 = true ∧ (cF C).name = "<init>" ∧ (T k).1 = own)) (hd : decode cc pc = .ok (.putfield index, 3))
    (kk : ∀ σ', Wo C G nL Q (K σ') σ' kc ks (pc + 3) lv st) : Wo C G nL Q (pR ci k σ r v K) σ kc ks pc lv (va_rf v :: va_rf r :: st) := by
  intro res hres hφ H locs hM hS ls hl
  cases r with
  | none => cases hres
  | some h =>
    simp only [pR] at hres
    split at hres
    · rename_i hT
      have hnf : narrow (ty0 k) (va_rf v) = va_rf v ∧ fits (ty0 k) (va_rf v) = true := by
        rcases hty with ⟨n, e⟩ | ⟨t, e⟩ <;> rw [e] <;> cases v <;> exact ⟨rfl, rfl⟩
      exact core_put hC (σ' := sR σ h k v) hcl hk hlink hsame hfin hnf.1 hnf.2 hM hS hT rfl rfl (by rw [hkd]; exact vOf_sR) (fun a j hne kd => vOf_sR_o a j hne kd) hd (fun H1 locs1 hM1 hS1 => kk _ res hres hφ H1 locs1 hM1 hS1 ls hl)
    · cases hres
end R3
