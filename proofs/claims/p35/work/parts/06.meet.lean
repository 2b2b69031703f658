section R6
variable {α β : Type} {C : Cxt} {G : Glb} {own : String} {cc : ByteArray} {nL : Nat} {rt : Option FieldType} {fr cl sl lo : Nat} {Q : Pst β} {σ : Mem} {kc ks pc : Nat} {lv : List (Nat × Value)} {st : List Value}
/-! CONTRACTS: a method does what its function does; 'rv': the answer as a value -/
def rvI (v : Int32) : Option Value := some (.int v)
def rvU (_ : Unit) : Option Value := none
def rvR (r : Option Nat) : Option Value := some (va_rf r)
def rvJ (v : Int64) : Option Value := some (.long v)
def rvD (v : UInt64) : Option Value := some (.double v)
def QG (G : Glb) (rv : α → Option Value) (r : α × Mem) : Array Value → State → Outcome → State → Prop := fun _ s o t => o = .returned (rv r.1) ∧ memK G r.2 t.heap ∧ va_F (gA G) s t
def Ct (rv : α → Option Value) (l : Launch) (y : MethodName) (ws : List Cond) (rm : Room) (mc ms : Nat) (G : Glb) (av : List Value) (σ : Mem) (x : Option (α × Mem)) : Prop := ∀ r, x = some r → Met l y ws rm (va_Pc av (WB G σ)) (QG G rv r) mc ms (gA G)
def QP (C : Cxt) (G : Glb) (rv : α → Option Value) (mc ms : Nat) : Pst (α × Mem) := (fun _ => True, fun r => MQ (cB C) (QG G rv r) (cA C) (cS C) mc ms (gA G))
/-- from the body's walk to the contract -/
theorem entry_of (hC : CX C G own cc nL rt fr cl sl lo) {av : List Value} (hn : (lg_sl av).length ≤ nL) {x : Option β} (hb : Wo C G nL Q x σ 0 0 0 (lv_args 0 av) []) {res : β} (hr : x = some res) (hφ : Q.1 res) (hM : memK G σ (cS C).heap) : WC C (cS C).heap [] 0 0 (Q.2 res) (entryFrame (cM C) av.toArray nL) := by
  rw [lg_entry_eq]
  exact hb res hr hφ _ _ hM va_S.rf _ (lv_entry av hn)
theorem Ct.of {rv : α → Option Value} {l : Launch} {y : MethodName} {mc ms : Nat} {av : List Value} {x : Option (α × Mem)} (hl : l.stackTraces = false) (hy : plainFor y = true) (hn : (lg_sl av).length ≤ nL)
    (body : ∀ C : Cxt, CX C G y.cls cc nL rt fr mc ms lo → (cF C).name = y.name → Wo C G nL (QP C G rv mc ms) x σ 0 0 0 (lv_args 0 av) []) : Ct rv l y (Cond.code y cc nL rt :: uW) { frames := fr, cells := mc, slots := ms, locals := lo } mc ms G av σ x := by
  intro r hr
  refine va_MetF hy rfl ?_
  intro p e s m args below meth c s₁ B hml hv
  obtain ⟨rfl, hKB, hM⟩ := hv
  have hts := atoms_spec (ws := Cond.code y cc nL rt :: uW) B.pre
  have hC : CX (p, l, e, { frames := fr, cells := mc, slots := ms, locals := lo }, s, m, av.toArray, below, meth, c) G y.cls cc nL rt fr mc ms lo := ⟨B.exec, B.bytes, hml, findClass_of_methodNamed B.named, fun w hw => hts w (List.mem_cons_of_mem _ hw), hKB, B.notSynchronized, B.returns, rfl, hl, by show G.2.2.1 ≤ s.heap.size; rw [hM.1]; exact hM.2.2.2.2⟩
  exact entry_of hC hn (body _ hC (name_of_methodNamed B.named B.method).1) hr trivial hM
/-! the ends -/
theorem end_F (hC : CX C G own cc nL rt fr cl sl lo) {t : State} {H : Heap} {locs : List Loc} (hS : va_S (gA G) (cS C).heap H locs) (ht : t.heap = H) : va_F (gA G) (cS C) t := hS.F ht
theorem e_I (hC : CX C G own cc nL (some .int) fr cl sl lo) {mc ms : Nat} {v : Int32} (hk : kc ≤ mc ∧ ks ≤ ms) (hd : decode cc pc = .ok (.ireturn, 1)) : Wo C G nL (QP C G rvI mc ms) (some (v, σ)) σ kc ks pc lv [.int v] := by
  intro res hres hφ H locs hM hS ls hl
  cases hres
  exact W.widen hk.1 hk.2 (W.iret hC.hx hC.hb hC.hr (fun t ht hW => ⟨rfl, by rw [ht]; exact hM, hS.F ht⟩) hS.2.2 hd hC.hlk)
/-- a boolean answer -/
def bo (v : Int32) (x : Option β) : Option β := if v = 0 ∨ v = 1 then x else none
theorem nar_b {v : Int32} (h : v = 0 ∨ v = 1) : narrow .boolean (.int v) = .int v := by rcases h with h | h <;> (subst h; decide)
theorem e_B (hC : CX C G own cc nL (some .boolean) fr cl sl lo) {mc ms : Nat} {v : Int32} (hk : kc ≤ mc ∧ ks ≤ ms) (hd : decode cc pc = .ok (.ireturn, 1)) : Wo C G nL (QP C G rvI mc ms) (bo v (some (v, σ))) σ kc ks pc lv [.int v] := by
  intro res hres hφ H locs hM hS ls hl
  unfold bo at hres
  split at hres
  · rename_i hv
    cases hres
    exact W.widen hk.1 hk.2 (W.zret hC.hx hC.hb hC.hr (nar_b hv) (fun t ht hW => ⟨rfl, by rw [ht]; exact hM, hS.F ht⟩) hS.2.2 hd hC.hlk)
  · cases hres
theorem e_U (hC : CX C G own cc nL none fr cl sl lo) {mc ms : Nat} (hk : kc ≤ mc ∧ ks ≤ ms) (hd : decode cc pc = .ok (.return_, 1)) : Wo C G nL (QP C G rvU mc ms) (some ((), σ)) σ kc ks pc lv [] := by
  intro res hres hφ H locs hM hS ls hl
  cases hres
  exact W.widen hk.1 hk.2 (W.vret hC.hx hC.hb hC.hr (fun t ht hW => ⟨rfl, by rw [ht]; exact hM, hS.F ht⟩) hS.2.2 hd hC.hlk)
theorem e_R {ft : FieldType} (hC : CX C G own cc nL (some ft) fr cl sl lo) (hft : (∃ n, ft = .object n) ∨ ∃ t, ft = .array t) {mc ms : Nat} {r : Option Nat} (hk : kc ≤ mc ∧ ks ≤ ms) (hd : decode cc pc = .ok (.areturn, 1)) : Wo C G nL (QP C G rvR mc ms) (some (r, σ)) σ kc ks pc lv [va_rf r] := by
  intro res hres hφ H locs hM hS ls hl
  cases hres
  exact W.widen hk.1 hk.2 (W.aret hC.hx hC.hb hC.hr hft (by cases r with | none => exact Or.inl rfl | some a => exact Or.inr ⟨a, rfl⟩) (fun t ht hW => ⟨rfl, by rw [ht]; exact hM, hS.F ht⟩) hS.2.2 hd hC.hlk)
theorem e_J (hC : CX C G own cc nL (some .long) fr cl sl lo) {mc ms : Nat} {v : Int64} (hk : kc ≤ mc ∧ ks ≤ ms) (hd : decode cc pc = .ok (.lreturn, 1)) : Wo C G nL (QP C G rvJ mc ms) (some (v, σ)) σ kc ks pc lv [.long v] := by
  intro res hres hφ H locs hM hS ls hl
  cases hres
  exact W.widen hk.1 hk.2 (W.lret hC.hx hC.hb hC.hr (fun t ht hW => ⟨rfl, by rw [ht]; exact hM, hS.F ht⟩) hS.2.2 hd hC.hlk)
theorem e_D (hC : CX C G own cc nL (some .double) fr cl sl lo) {mc ms : Nat} {v : UInt64} (hk : kc ≤ mc ∧ ks ≤ ms) (hd : decode cc pc = .ok (.dreturn, 1)) : Wo C G nL (QP C G rvD mc ms) (some (v, σ)) σ kc ks pc lv [.double v] := by
  intro res hres hφ H locs hM hS ls hl
  cases hres
  exact W.widen hk.1 hk.2 (W.dret hC.hx hC.hb hC.hr (fun t ht hW => ⟨rfl, by rw [ht]; exact hM, hS.F ht⟩) hS.2.2 hd hC.hlk)
end R6
