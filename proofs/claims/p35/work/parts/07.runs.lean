section R7
variable {α β : Type} {C : Cxt} {G : Glb} {own : String} {cc : ByteArray} {nL : Nat} {rt : Option FieldType} {fr cl sl lo : Nat} {Q : Pst β} {σ : Mem} {kc ks pc : Nat} {lv : List (Nat × Value)} {st st0 : List Value}
/-! CALLS -/
theorem run_S {H : Heap} {locs L : List Loc} {st₀ t T' : State} (h0 : st₀.heap = H) (hS : va_S (gA G) (cS C).heap H locs) (hL : ∀ q ∈ L, gA G q.base) (hF : va_F (gA G) st₀ t) (e1 : T'.heap = t.heap) : va_S (gA G) (cS C).heap T'.heap (locs ++ L) := by
  obtain ⟨hz, hk⟩ := hF
  rw [h0] at hz hk
  refine ⟨Nat.le_trans hS.1 (by rw [e1]; exact hz), fun q h1 h2 => ?_, fun q hq => ?_⟩
  · rw [e1, hk q (Nat.lt_of_lt_of_le h1 hS.1) h2]
    exact hS.2.1 q h1 h2
  · rcases List.mem_append.mp hq with h | h
    · exact hS.2.2 q h
    · exact hL q h
theorem run_P {rv : α → Option Value} {r : α × Mem} {a : Array Value} {H : Heap} {locs : List Loc} {ls : Array Slot} {Z : State → Prop} {mc ms : Nat} (hS : va_S (gA G) (cS C).heap H locs)
    (hr : va_Run (cP C) (cL C) (cE C) (cR C) (cS C) (cM C) (cA C) (cB C) (cF C) (cC C) H locs kc ks mc ms (F0 (cM C) pc ls st0) st (QG G rv r a) (gA G))
    (kk : ∀ (H1 : Heap) (locs1 : List Loc), memK G r.2 H1 → va_S (gA G) (cS C).heap H1 locs1 → WC C H1 locs1 (kc + mc) (ks + ms) Z (F0 (cM C) (pc + 3) ls ((rv r.1).toList ++ st))) : WC C H locs kc ks Z (F0 (cM C) pc ls st0) := by
  intro T hT X
  obtain ⟨v, st₀, t, T', L, h0, X', hL, e1, e2, ⟨hv, hm, hF⟩, st⟩ := hr T hT X
  cases hv
  obtain ⟨t2, a1, b1⟩ := kk T'.heap (locs ++ L) (by rw [e1]; exact hm) (run_S h0 hS hL hF e1) T' rfl X'
  exact ⟨t2, st t2 a1, b1⟩
/-- a call of a method that only returns; that returns or throws -/
def cl1 (x : Option (α × Mem)) (K : α → Mem → Option β) : Option β := match x with
  | none => none
  | some r => K r.1 r.2
/-- the receiver's address, its class known -/
def ob (ci : Nat) (σ : Mem) (r : Option Nat) (K : Nat → Option β) : Option β := match r with
  | none => none
  | some h => if (mT σ h).1 = ci + 1 then K h else none
theorem good_u {w : Cond} (h : w ∈ uW) : w ∈ uW ∧ ((w.onTables && w.keeps) = true ∨ ∃ ty, w = .arrayClass ty) := ⟨h, good_of_word (List.mem_filter.mp h).2⟩
theorem good_c {cw : Cond} (h : cw ∈ uW) : GoodIn uW (cw :: uW) := fun w hw => (List.mem_cons.mp hw).elim (fun e => by rw [e]; exact good_u h) good_u
theorem good_V {own Cn : String} {index : Nat} {y : MethodName} {cw : Cond} (h1 : Cond.methodLink own index y ∈ uW) (h2 : Cond.instanceMethod y ∈ uW) (h3 : Cond.selects Cn y y ∈ uW) (h4 : Cond.initialized Cn ∈ uW) (h5 : cw ∈ uW) : GoodIn uW (wsV own index Cn y (cw :: uW)) := by
  intro w hw
  rcases List.mem_append.mp (show w ∈ ([.methodLink own index y, .instanceMethod y, .selects Cn y y, .initialized Cn] : List Cond) ++ (cw :: uW) from hw) with h | h
  · simp only [List.mem_cons, List.not_mem_nil, or_false] at h
    rcases h with rfl | rfl | rfl | rfl
    · exact good_u h1
    · exact good_u h2
    · exact good_u h3
    · exact good_u h4
  · exact good_c h5 w h
theorem good_S {own : String} {index : Nat} {y : MethodName} {cw : Cond} (h1 : Cond.methodLink own index y ∈ uW) (h2 : Cond.static y ∈ uW) (h4 : Cond.initialized y.cls ∈ uW) (h5 : cw ∈ uW) : GoodIn uW (va_wsS own index y (cw :: uW)) := by
  intro w hw
  rcases List.mem_append.mp (show w ∈ ([.methodLink own index y, .static y, .initialized y.cls] : List Cond) ++ (cw :: uW) from hw) with h | h
  · simp only [List.mem_cons, List.not_mem_nil, or_false] at h
    rcases h with rfl | rfl | rfl
    · exact good_u h1
    · exact good_u h2
    · exact good_u h4
  · exact good_c h5 w h
/-- a method's name as its calls want it -/
def Yd (y : MethodName) (n : Nat) : Prop := y.cls ≠ "java/lang/invoke/MethodHandle" ∧ y.cls ≠ "java/lang/invoke/VarHandle" ∧ (parseMethodDescriptor y.desc).map (fun d => d.parameters.length) = some n
theorem pre_S (hC : CX C G own cc nL rt fr cl sl lo) {H : Heap} {locs : List Loc} (hM : memK G σ H) (hS : va_S (gA G) (cS C).heap H locs) {av : List Value} : PreS (cS C) H (va_Pc av (WB G σ)) av :=
  ⟨WB.blind, fun U hU hW => ⟨rfl, KB.warm hW (by rw [hU]; exact hS.2.1) hC.hK, by rw [hU]; exact hM⟩⟩
theorem pre_V (hC : CX C G own cc nL rt fr cl sl lo) {H : Heap} {locs : List Loc} (hM : memK G σ H) (hS : va_S (gA G) (cS C).heap H locs) {av : List Value} {h ci : Nat} {q : vw_C} (hT : (mT σ h).1 = ci + 1) (hr : vwCl[ci]? = some q) : PreV (cS C) H q.1 h (va_Pc (.ref h :: av) (WB G σ)) av := by
  obtain ⟨cell, q1, q2, q3, -⟩ := obj_at hC hM hT hr
  exact ⟨WB.blind, ⟨cell, q1, q2, q3⟩, fun U hU hW => ⟨rfl, KB.warm hW (by rw [hU]; exact hS.2.1) hC.hK, by rw [hU]; exact hM⟩⟩
theorem call_V (hC : CX C G own cc nL rt fr cl sl lo) {rv : α → Option Value} {y : MethodName} {bytes : ByteArray} {mL n index ci : Nat} {ret : Option FieldType} {fr' mc ms lo' : Nat} {av : List Value} {Cn : String} {T : u_T} {N : Nat} {r : Option Nat} {f : Nat → Option (α × Mem)} {K : α → Mem → Option β} (hcl : vwCl[ci]? = some (Cn, T, N)) (hyc : y.cls = Cn) (hct : ∀ h, Ct rv (cL C) y (Cond.code y bytes mL ret :: uW) { frames := fr', cells := mc, slots := ms, locals := lo' } mc ms G (.ref h :: av) σ (f h))
    (h1 : Cond.methodLink own index y ∈ uW) (h2 : Cond.instanceMethod y ∈ uW) (h3 : Cond.selects Cn y y ∈ uW) (h4 : Cond.initialized Cn ∈ uW) (h5 : Cond.code y bytes mL ret ∈ uW) (hy : Yd y n) (hn : av.length = n) (hR : fr' + 1 ≤ fr ∧ 8 + (mL + 11) + lo' ≤ lo) (hf : kc + mc ≤ cl ∧ ks + ms ≤ sl) (hst : st0 = av.reverse ++ va_rf r :: st) (hW : (st.map fun v => v.category).sum ≤ 8) (hd : decode cc pc = .ok (.invokevirtual index, 3))
    (kk : ∀ v σ', Wo C G nL Q (K v σ') σ' (kc + mc) (ks + ms) (pc + 3) lv ((rv v).toList ++ st)) : Wo C G nL Q (ob ci σ r fun h => cl1 (f h) K) σ kc ks pc lv st0 := by
  intro res hres hφ H locs hM hS ls hl
  subst hst
  cases r with
  | none => cases hres
  | some h =>
    simp only [ob] at hres
    split at hres
    · rename_i hT
      cases hx : f h with
      | none => rw [hx] at hres; cases hres
      | some q =>
        rw [hx] at hres
        have hR0 := hC.hR
        exact run_P hS (va_runV (As := av) (rest := st) ⟨hC.hx, hC.hb, hC.hml, hC.hown, hC.hts⟩ (hct h q hx) (cwV n hC.hts (good_V h1 h2 h3 h4 h5) rfl rfl rfl ⟨hyc, hy⟩ (by rw [hR0]; exact hR)) (pre_V hC hM hS hT hcl) rfl hn hl.1 rfl (by show 2 * 0 + _ ≤ 8; omega) hd (by rw [hR0]; exact hf)) (fun H1 locs1 hM1 hS1 => kk _ _ res hres hφ H1 locs1 hM1 hS1 ls hl)
    · cases hres
theorem call_S (hC : CX C G own cc nL rt fr cl sl lo) {rv : α → Option Value} {y : MethodName} {bytes : ByteArray} {mL n index : Nat} {ret : Option FieldType} {fr' mc ms lo' : Nat} {av : List Value} {x : Option (α × Mem)} {K : α → Mem → Option β} (hct : Ct rv (cL C) y (Cond.code y bytes mL ret :: uW) { frames := fr', cells := mc, slots := ms, locals := lo' } mc ms G av σ x)
    (h1 : Cond.methodLink own index y ∈ uW) (h2 : Cond.static y ∈ uW) (h4 : Cond.initialized y.cls ∈ uW) (h5 : Cond.code y bytes mL ret ∈ uW) (hy : Yd y n) (hn : av.length = n) (hR : fr' + 1 ≤ fr ∧ 8 + (mL + 11) + lo' ≤ lo) (hf : kc + mc ≤ cl ∧ ks + ms ≤ sl) (hst : st0 = av.reverse ++ st) (hW : (st.map fun v => v.category).sum ≤ 8) (hd : decode cc pc = .ok (.invokestatic index, 3))
    (kk : ∀ v σ', Wo C G nL Q (K v σ') σ' (kc + mc) (ks + ms) (pc + 3) lv ((rv v).toList ++ st)) : Wo C G nL Q (cl1 x K) σ kc ks pc lv st0 := by
  intro res hres hφ H locs hM hS ls hl
  subst hst
  cases hx : x with
  | none => rw [hx] at hres; cases hres
  | some q =>
    rw [hx] at hres
    have hR0 := hC.hR
    exact run_P hS (va_runS (As := av) (rest := st) ⟨hC.hx, hC.hb, hC.hml, hC.hown, hC.hts⟩ (hct q hx) (va_cwS n hC.hts (good_S h1 h2 h4 h5) rfl rfl rfl hy (by rw [hR0]; exact hR)) (pre_S hC hM hS) rfl hn hl.1 rfl (by show 2 * 0 + _ ≤ 8; omega) hd (by rw [hR0]; exact hf)) (fun H1 locs1 hM1 hS1 => kk _ _ res hres hφ H1 locs1 hM1 hS1 ls hl)
/-- a private static method of the nest's host -/
theorem call_SN (hC : CX C G own cc nL rt fr cl sl lo) {rv : α → Option Value} {y : MethodName} {bytes : ByteArray} {mL n index : Nat} {ret : Option FieldType} {host : String} {fr' mc ms lo' : Nat} {av : List Value} {x : Option (α × Mem)} {K : α → Mem → Option β} (hct : Ct rv (cL C) y (Cond.code y bytes mL ret :: uW) { frames := fr', cells := mc, slots := ms, locals := lo' } mc ms G av σ x)
    (h1 : Cond.methodLinkNest own index y host ∈ lw_tbl) (h2 : Cond.static y ∈ uW) (h4 : Cond.initialized y.cls ∈ uW) (h5 : Cond.code y bytes mL ret ∈ uW) (hy : Yd y n) (hn : av.length = n) (hR : fr' + 1 ≤ fr ∧ 8 + (mL + 11) + lo' ≤ lo) (hf : kc + mc ≤ cl ∧ ks + ms ≤ sl) (hst : st0 = av.reverse ++ st) (hW : (st.map fun v => v.category).sum ≤ 8) (hd : decode cc pc = .ok (.invokestatic index, 3))
    (kk : ∀ v σ', Wo C G nL Q (K v σ') σ' (kc + mc) (ks + ms) (pc + 3) lv ((rv v).toList ++ st)) : Wo C G nL Q (cl1 x K) σ kc ks pc lv st0 := by
  intro res hres hφ H locs hM hS ls hl
  subst hst
  cases hx : x with
  | none => rw [hx] at hres; cases hres
  | some q =>
    rw [hx] at hres
    have hR0 := hC.hR
    exact run_P hS (va_runSN (As := av) (rest := st) ⟨hC.hx, hC.hb, hC.hml, hC.hown, hC.hts⟩ (hct q hx) ⟨va_cnB n hC.hts (good_c h5) rfl rfl rfl (hC.hK.1.2.1 _ h1 rfl) (hC.hts _ h4) hy (by rw [hR0]; exact hR), hC.hts _ h2, trivial⟩ (pre_S hC hM hS) rfl hn hl.1 rfl (by show 2 * 0 + _ ≤ 8; omega) hd (by rw [hR0]; exact hf)) (fun H1 locs1 hM1 hS1 => kk _ _ res hres hφ H1 locs1 hM1 hS1 ls hl)
/-- constructors: of one's own class or of another that may be seen; of a nest mate, private -/
theorem call_I (hC : CX C G own cc nL rt fr cl sl lo) {y : MethodName} {bytes : ByteArray} {mL n index : Nat} {fr' mc ms lo' : Nat} {av : List Value} {r : Option Nat} {ci : Nat} {f : Nat → Option (Unit × Mem)} {K : Mem → Option β} (hct : ∀ h, Ct rvU (cL C) y (Cond.code y bytes mL none :: uW) { frames := fr', cells := mc, slots := ms, locals := lo' } mc ms G (.ref h :: av) σ (f h))
    (h1 : Cond.methodLink own index y ∈ uW) (h2 : Cond.instanceMethod y ∈ uW) (h4 : Cond.initialized y.cls ∈ uW) (h5 : Cond.code y bytes mL none ∈ uW) (hy1 : y.name = "<init>") (hy : Yd y n) (hn : av.length = n) (hR : fr' + 1 ≤ fr ∧ 8 + (mL + 11) + lo' ≤ lo) (hf : kc + mc ≤ cl ∧ ks + ms ≤ sl) (hst : st0 = av.reverse ++ va_rf r :: st) (hW : (st.map fun v => v.category).sum ≤ 8) (hd : decode cc pc = .ok (.invokespecial index, 3))
    (kk : ∀ σ', Wo C G nL Q (K σ') σ' (kc + mc) (ks + ms) (pc + 3) lv st) : Wo C G nL Q (ob ci σ r fun h => cl1 (f h) (fun _ σ' => K σ')) σ kc ks pc lv st0 := by
  intro res hres hφ H locs hM hS ls hl
  subst hst
  cases r with
  | none => cases hres
  | some h =>
    simp only [ob] at hres
    split at hres
    · rename_i hT
      cases hx : f h with
      | none => rw [hx] at hres; cases hres
      | some q =>
        rw [hx] at hres
        have hR0 := hC.hR
        exact run_P hS (va_runI (As := av) (rest := st) ⟨hC.hx, hC.hb, hC.hml, hC.hown, hC.hts⟩ (hct h q hx) (cwI n hC.hts (good_c h5) rfl rfl rfl (hC.hts _ h4) (hC.hts _ h1) (hC.hts _ h2) hy1 hy (by rw [hR0]; exact hR)) ⟨WB.blind, fun U hU hW => ⟨rfl, KB.warm hW (by rw [hU]; exact hS.2.1) hC.hK, by rw [hU]; exact hM⟩⟩ rfl hn hl.1 rfl (by show 2 * 0 + _ ≤ 8; omega) hd (by rw [hR0]; exact hf)) (fun H1 locs1 hM1 hS1 => kk _ res hres hφ H1 locs1 hM1 hS1 ls hl)
    · cases hres
theorem call_IN (hC : CX C G own cc nL rt fr cl sl lo) {y : MethodName} {bytes : ByteArray} {mL n index : Nat} {host : String} {fr' mc ms lo' : Nat} {av : List Value} {r : Option Nat} {ci : Nat} {f : Nat → Option (Unit × Mem)} {K : Mem → Option β} (hct : ∀ h, Ct rvU (cL C) y (Cond.code y bytes mL none :: uW) { frames := fr', cells := mc, slots := ms, locals := lo' } mc ms G (.ref h :: av) σ (f h))
    (h1 : Cond.methodLinkNest own index y host ∈ lw_tbl) (h2 : Cond.instanceMethod y ∈ uW) (h4 : Cond.initialized y.cls ∈ uW) (h5 : Cond.code y bytes mL none ∈ uW) (hy1 : y.name = "<init>") (hy : Yd y n) (hn : av.length = n) (hR : fr' + 1 ≤ fr ∧ 8 + (mL + 11) + lo' ≤ lo) (hf : kc + mc ≤ cl ∧ ks + ms ≤ sl) (hst : st0 = av.reverse ++ va_rf r :: st) (hW : (st.map fun v => v.category).sum ≤ 8) (hd : decode cc pc = .ok (.invokespecial index, 3))
    (kk : ∀ σ', Wo C G nL Q (K σ') σ' (kc + mc) (ks + ms) (pc + 3) lv st) : Wo C G nL Q (ob ci σ r fun h => cl1 (f h) (fun _ σ' => K σ')) σ kc ks pc lv st0 := by
  intro res hres hφ H locs hM hS ls hl
  subst hst
  cases r with
  | none => cases hres
  | some h =>
    simp only [ob] at hres
    split at hres
    · rename_i hT
      cases hx : f h with
      | none => rw [hx] at hres; cases hres
      | some q =>
        rw [hx] at hres
        have hR0 := hC.hR
        exact run_P hS (va_runIN (As := av) (rest := st) ⟨hC.hx, hC.hb, hC.hml, hC.hown, hC.hts⟩ (hct h q hx) ⟨va_cnB n hC.hts (good_c h5) rfl rfl rfl (hC.hK.1.2.1 _ h1 rfl) (hC.hts _ h4) hy (by rw [hR0]; exact hR), hy1, hC.hts _ h2⟩ ⟨WB.blind, fun U hU hW => ⟨rfl, KB.warm hW (by rw [hU]; exact hS.2.1) hC.hK, by rw [hU]; exact hM⟩⟩ rfl hn hl.1 rfl (by show 2 * 0 + _ ≤ 8; omega) hd (by rw [hR0]; exact hf)) (fun H1 locs1 hM1 hS1 => kk _ res hres hφ H1 locs1 hM1 hS1 ls hl)
    · cases hres
theorem call_O (hC : CX C G own cc nL rt fr cl sl lo) {index : Nat} {r : Option Nat} {x : Option β} {ci : Nat} (h1 : Cond.methodLink own index objectInit ∈ uW) (h2 : Cond.instanceMethod objectInit ∈ uW) (h3 : Cond.code objectInit ⟨#[0xb1]⟩ 1 none ∈ uW) (hf : 1 ≤ fr) (hlo : (st.map fun v => v.category).sum + 12 ≤ lo) (hd : decode cc pc = .ok (.invokespecial index, 3))
    (k : Wo C G nL Q x σ kc ks (pc + 3) lv st) : Wo C G nL Q (ob ci σ r fun _ => x) σ kc ks pc lv (va_rf r :: st) := by
  intro res hres hφ H locs hM hS ls hl
  cases r with
  | none => cases hres
  | some h =>
    simp only [ob] at hres
    split at hres
    · refine W.objInit hC.hx hC.hb hC.hown (hC.hts _ h1) (hC.hts _ h2) (hC.hts _ h3) rfl (by rw [hC.hml]; exact hl.1) rfl hd (by rw [hC.hR]; exact hf) (by rw [hC.hR]; show 2 * 0 + _ + 12 ≤ lo; omega) ?_
      exact k res hres hφ H locs hM hS ls hl
    · cases hres
end R7
