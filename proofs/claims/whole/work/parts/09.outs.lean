section R8
variable {α β γ : Type} {C : Cxt} {G : Glb} {own : String} {cc : ByteArray} {nL : Nat} {rt : Option FieldType} {fr cl sl lo : Nat} {Q : Pst β} {σ : Mem} {kc ks pc : Nat} {lv : List (Nat × Value)} {st st0 : List Value}
/-! CALLS OF METHODS THAT MAY THROW -/
/-- the exception goes on to the caller -/
def thr {γ : Type} (k : Nat) (σ : Mem) : Option ((γ ⊕ Nat) × Mem) := some (.inr k, σ)
theorem thr_out {rv : γ → Option Value} {mc ms k : Nat} {b : Bool} (hC : CX C G own cc nL rt fr cl sl lo) (hE : ∀ z ∈ (cC C).exceptionTable.toList, False) {res : (γ ⊕ Nat) × Mem} {σ' : Mem} (hres : thr k σ' = some res) {H : Heap} {locs : List Loc} {ls : Array Slot} {q : Addr} {ce : Cell} (hk : kc ≤ mc ∧ ks ≤ ms) (hM : memK G σ' H) (hS : va_S (gA G) (cS C).heap H locs) (h1 : H[q]? = some ce) (h2 : ce.vm = .none) (h3 : (cS C).vm.findClass (exN k) = some ce.cls) : WX C H locs kc ks ((QT C G rv mc ms b).2 res) (F0 (cM C) pc ls st) q := by
  cases hres
  exact vx_out (fun z hz => (hE z hz).elim) hC.hlk h1 h2 h3 (fun t ht hA => ⟨k, rfl, rfl, by rw [ht]; exact hM, hS.F ht⟩) hS.2.2 hk.1 hk.2
theorem callX_V (hC : CX C G own cc nL rt fr cl sl lo) (hE : ∀ z ∈ (cC C).exceptionTable.toList, False) {rv : α → Option Value} {rw : γ → Option Value} {y : MethodName} {bytes : ByteArray} {mL n index ci : Nat} {ret : Option FieldType} {fr' mc ms xc xs lo' MC MS : Nat} {b : Bool} {av : List Value} {Cn : String} {T : u_T} {N : Nat} {r : Option Nat} {f : Nat → Option ((α ⊕ Nat) × Mem)} {K : α → Mem → Option ((γ ⊕ Nat) × Mem)} (hcl : vwCl[ci]? = some (Cn, T, N)) (hyc : y.cls = Cn) (hct : ∀ h, Xt rv (cL C) y (Cond.code y bytes mL ret :: uW) fr' lo' mc ms xc xs G (.ref h :: av) σ (f h))
    (h1 : Cond.methodLink own index y ∈ uW) (h2 : Cond.instanceMethod y ∈ uW) (h3 : Cond.selects Cn y y ∈ uW) (h4 : Cond.initialized Cn ∈ uW) (h5 : Cond.code y bytes mL ret ∈ uW) (hy : Yd y n) (hn : av.length = n) (hR : fr' + 1 ≤ fr ∧ 8 + (mL + 11) + lo' ≤ lo) (hf : kc + mc ≤ cl ∧ ks + ms ≤ sl) (hg : b = true → (kc + xc ≤ cl ∧ ks + xs ≤ sl) ∧ kc + xc ≤ MC ∧ ks + xs ≤ MS) (hst : st0 = av.reverse ++ va_rf r :: st) (hW : (st.map fun v => v.category).sum ≤ 8) (hd : decode cc pc = .ok (.invokevirtual index, 3))
    (kk : ∀ v σ', Wo C G nL (QT C G rw MC MS b) (K v σ') σ' (kc + mc) (ks + ms) (pc + 3) lv ((rv v).toList ++ st)) : Wo C G nL (QT C G rw MC MS b) (ob ci σ r fun h => cx1 (f h) K thr) σ kc ks pc lv st0 := by
  intro res hres hφ H locs hM hS ls hl
  subst hst
  cases r with
  | none => cases hres
  | some h =>
    simp only [ob] at hres
    split at hres
    · rename_i hT
      cases hx : f h with
      | none => rw [hx] at hres; cases hres
      | some q =>
        rw [hx] at hres
        obtain ⟨u, σ1⟩ := q
        have hR0 := hC.hR
        cases u with
        | inl v =>
          refine run_X hS (vx_runV (As := av) (rest := st) ⟨hC.hx, hC.hb, hC.hml, hC.hown, hC.hts⟩ (hct h _ hx) (cwV n hC.hts (good_V h1 h2 h3 h4 h5) rfl rfl rfl ⟨hyc, hy⟩ (by rw [hR0]; exact hR)) (pre_V hC hM hS hT hcl) rfl hn hl.1 rfl (by show 2 * 0 + _ ≤ 8; omega) hd (by rw [hR0]; exact hf)) (fun k ce q9 H1 locs1 hr hM1 hS1 g1 g2 g3 => by cases hr) (fun v H1 locs1 hr hM1 hS1 => ?_)
          cases hr
          exact kk _ _ res hres hφ H1 locs1 hM1 hS1 ls hl
        | inr k =>
          have hb : b = true := by
            have e : (.inr k, σ1) = res := Option.some.inj hres
            rw [← hφ, ← e]; rfl
          refine run_X hS (vx_runV (As := av) (rest := st) ⟨hC.hx, hC.hb, hC.hml, hC.hown, hC.hts⟩ (hct h _ hx) (cwV n hC.hts (good_V h1 h2 h3 h4 h5) rfl rfl rfl ⟨hyc, hy⟩ (by rw [hR0]; exact hR)) (pre_V hC hM hS hT hcl) rfl hn hl.1 rfl (by show 2 * 0 + _ ≤ 8; omega) hd (by rw [hR0]; exact (hg hb).1)) (fun k ce q9 H1 locs1 hr hM1 hS1 g1 g2 g3 => ?_) (fun v H1 locs1 hr hM1 hS1 => by cases hr)
          cases hr
          exact thr_out hC hE hres (hg hb).2 hM1 hS1 g1 g2 g3
    · cases hres
theorem callX_S (hC : CX C G own cc nL rt fr cl sl lo) (hE : ∀ z ∈ (cC C).exceptionTable.toList, False) {rv : α → Option Value} {rw : γ → Option Value} {y : MethodName} {bytes : ByteArray} {mL n index : Nat} {ret : Option FieldType} {fr' mc ms xc xs lo' MC MS : Nat} {b : Bool} {av : List Value} {x : Option ((α ⊕ Nat) × Mem)} {K : α → Mem → Option ((γ ⊕ Nat) × Mem)} (hct : Xt rv (cL C) y (Cond.code y bytes mL ret :: uW) fr' lo' mc ms xc xs G av σ x)
    (h1 : Cond.methodLink own index y ∈ uW) (h2 : Cond.static y ∈ uW) (h4 : Cond.initialized y.cls ∈ uW) (h5 : Cond.code y bytes mL ret ∈ uW) (hy : Yd y n) (hn : av.length = n) (hR : fr' + 1 ≤ fr ∧ 8 + (mL + 11) + lo' ≤ lo) (hf : kc + mc ≤ cl ∧ ks + ms ≤ sl) (hg : b = true → (kc + xc ≤ cl ∧ ks + xs ≤ sl) ∧ kc + xc ≤ MC ∧ ks + xs ≤ MS) (hst : st0 = av.reverse ++ st) (hW : (st.map fun v => v.category).sum ≤ 8) (hd : decode cc pc = .ok (.invokestatic index, 3))
    (kk : ∀ v σ', Wo C G nL (QT C G rw MC MS b) (K v σ') σ' (kc + mc) (ks + ms) (pc + 3) lv ((rv v).toList ++ st)) : Wo C G nL (QT C G rw MC MS b) (cx1 x K thr) σ kc ks pc lv st0 := by
  intro res hres hφ H locs hM hS ls hl
  subst hst
  cases hx : x with
  | none => rw [hx] at hres; cases hres
  | some q =>
    rw [hx] at hres
    obtain ⟨u, σ1⟩ := q
    have hR0 := hC.hR
    cases u with
    | inl v =>
      refine run_X hS (vx_runS (As := av) (rest := st) ⟨hC.hx, hC.hb, hC.hml, hC.hown, hC.hts⟩ (hct _ hx) (va_cwS n hC.hts (good_S h1 h2 h4 h5) rfl rfl rfl hy (by rw [hR0]; exact hR)) (pre_S hC hM hS) rfl hn hl.1 rfl (by show 2 * 0 + _ ≤ 8; omega) hd (by rw [hR0]; exact hf)) (fun k ce q9 H1 locs1 hr hM1 hS1 g1 g2 g3 => by cases hr) (fun v H1 locs1 hr hM1 hS1 => ?_)
      cases hr
      exact kk _ _ res hres hφ H1 locs1 hM1 hS1 ls hl
    | inr k =>
      have hb : b = true := by
        have e : (.inr k, σ1) = res := Option.some.inj hres
        rw [← hφ, ← e]; rfl
      refine run_X hS (vx_runS (As := av) (rest := st) ⟨hC.hx, hC.hb, hC.hml, hC.hown, hC.hts⟩ (hct _ hx) (va_cwS n hC.hts (good_S h1 h2 h4 h5) rfl rfl rfl hy (by rw [hR0]; exact hR)) (pre_S hC hM hS) rfl hn hl.1 rfl (by show 2 * 0 + _ ≤ 8; omega) hd (by rw [hR0]; exact (hg hb).1)) (fun k ce q9 H1 locs1 hr hM1 hS1 g1 g2 g3 => ?_) (fun v H1 locs1 hr hM1 hS1 => by cases hr)
      cases hr
      exact thr_out hC hE hres (hg hb).2 hM1 hS1 g1 g2 g3
/-- a call under handlers: 'hh' the table; each exception that may come has its row, or none -/
def Hnd (C : Cxt) (own : String) (pc : Nat) (hh : List (Nat × Nat × Nat × Nat)) (k hp : Nat) : Prop := ∃ (pre suf : List (Nat × Nat × Nat × Nat)) (s0 e0 ct : Nat), hh = pre ++ (s0, e0, hp, ct) :: suf ∧ (s0 ≤ pc ∧ pc < e0) ∧ ct ≠ 0 ∧ Cond.classLink own ct (exN k) ∈ uW ∧ Cond.castable (exN k) (exN k) ∈ lw_tbl ∧ ∀ z ∈ pre, z.2.2.2 ≠ 0 ∧ ∃ k', Cond.classLink own z.2.2.2 (exN k') ∈ uW ∧ va_Nc (exN k) (exN k') (cS C)
theorem map_split {α γ : Type} (g : α → γ) : ∀ (l : List α) (p : List γ) (x : γ) (s : List γ), l.map g = p ++ x :: s → ∃ p' x' s', l = p' ++ x' :: s' ∧ p'.map g = p ∧ g x' = x
  | [], p, x, s, h => by cases p <;> cases h
  | a :: l, [], x, s, h => by
    simp only [List.map_cons, List.nil_append, List.cons.injEq] at h
    exact ⟨[], a, l, rfl, rfl, h.1⟩
  | a :: l, b :: p, x, s, h => by
    simp only [List.map_cons, List.cons_append, List.cons.injEq] at h
    obtain ⟨p', x', s', h1, h2, h3⟩ := map_split g l p x s h.2
    exact ⟨a :: p', x', s', by rw [h1]; rfl, by rw [List.map_cons, h2, h.1], h3⟩
theorem hnd_go (hC : CX C G own cc nL rt fr cl sl lo) {hh : List (Nat × Nat × Nat × Nat)} (hE : (cC C).exceptionTable.toList.map (fun h => (h.startPc, h.endPc, h.handlerPc, h.catchType)) = hh) {k hp : Nat} (hk : Hnd C own pc hh k hp) {H : Heap} {locs : List Loc} {ls : Array Slot} {Z : State → Prop} {q : Addr} {ce : Cell} (h1 : H[q]? = some ce) (h2 : ce.vm = .none) (h3 : (cS C).vm.findClass (exN k) = some ce.cls)
    (kk : WC C H locs kc ks Z (F0 (cM C) hp ls [.ref q])) : WX C H locs kc ks Z (F0 (cM C) pc ls st) q := by
  obtain ⟨pre, suf, s0, e0, ct, a1, a2, a3, a4, a5, a6⟩ := hk
  rw [a1] at hE
  obtain ⟨p', x', s', b1, b2, b3⟩ := map_split _ _ _ _ _ hE
  simp only [Prod.mk.injEq] at b3
  obtain ⟨c1, c2, c3, c4⟩ := b3
  subst c3
  refine vx_catch hC.hown p' x' s' b1 (fun z hz => Or.inr ?_) (by simp [covers, c1, c2, a2]) (by rw [c4]; exact a3) (by rw [c4]; exact hC.hts _ a4) (va_Nw.use rfl (hC.hK.1.2.1 _ a5 rfl)) h1 h2 h3 kk
  have hz2 : (z.startPc, z.endPc, z.handlerPc, z.catchType) ∈ pre := by rw [← b2]; exact List.mem_map.mpr ⟨z, hz, rfl⟩
  obtain ⟨d1, k', d2, d3⟩ := a6 _ hz2
  exact ⟨d1, _, hC.hts _ d2, d3⟩
theorem callH_V (hC : CX C G own cc nL rt fr cl sl lo) {hh : List (Nat × Nat × Nat × Nat)} (hE : (cC C).exceptionTable.toList.map (fun h => (h.startPc, h.endPc, h.handlerPc, h.catchType)) = hh) {rv : α → Option Value} {y : MethodName} {bytes : ByteArray} {mL n index ci : Nat} {ret : Option FieldType} {fr' mc ms xc xs lo' : Nat} {av : List Value} {Cn : String} {T : u_T} {N : Nat} {r : Option Nat} {f : Nat → Option ((α ⊕ Nat) × Mem)} {K : α → Mem → Option β} {E : Nat → Mem → Option β} (hcl : vwCl[ci]? = some (Cn, T, N)) (hyc : y.cls = Cn) (hct : ∀ h, Xt rv (cL C) y (Cond.code y bytes mL ret :: uW) fr' lo' mc ms xc xs G (.ref h :: av) σ (f h))
    (h1 : Cond.methodLink own index y ∈ uW) (h2 : Cond.instanceMethod y ∈ uW) (h3 : Cond.selects Cn y y ∈ uW) (h4 : Cond.initialized Cn ∈ uW) (h5 : Cond.code y bytes mL ret ∈ uW) (hy : Yd y n) (hn : av.length = n) (hR : fr' + 1 ≤ fr ∧ 8 + (mL + 11) + lo' ≤ lo) (hf : kc + mc ≤ cl ∧ ks + ms ≤ sl) (hg : kc + xc ≤ cl ∧ ks + xs ≤ sl) (hst : st0 = av.reverse ++ va_rf r :: st) (hW : (st.map fun v => v.category).sum ≤ 8) (hd : decode cc pc = .ok (.invokevirtual index, 3))
    (kx : ∀ k σ', E k σ' = none ∨ ∃ hp, Hnd C own pc hh k hp ∧ ∀ q, Wo C G nL Q (E k σ') σ' (kc + xc) (ks + xs) hp lv [va_rf (some q)])
    (kk : ∀ v σ', Wo C G nL Q (K v σ') σ' (kc + mc) (ks + ms) (pc + 3) lv ((rv v).toList ++ st)) : Wo C G nL Q (ob ci σ r fun h => cx1 (f h) K E) σ kc ks pc lv st0 := by
  intro res hres hφ H locs hM hS ls hl
  subst hst
  cases r with
  | none => cases hres
  | some h =>
    simp only [ob] at hres
    split at hres
    · rename_i hT
      cases hx : f h with
      | none => rw [hx] at hres; cases hres
      | some q =>
        rw [hx] at hres
        obtain ⟨u, σ1⟩ := q
        have hR0 := hC.hR
        cases u with
        | inl v =>
          refine run_X hS (vx_runV (As := av) (rest := st) ⟨hC.hx, hC.hb, hC.hml, hC.hown, hC.hts⟩ (hct h _ hx) (cwV n hC.hts (good_V h1 h2 h3 h4 h5) rfl rfl rfl ⟨hyc, hy⟩ (by rw [hR0]; exact hR)) (pre_V hC hM hS hT hcl) rfl hn hl.1 rfl (by show 2 * 0 + _ ≤ 8; omega) hd (by rw [hR0]; exact hf)) (fun k ce q9 H1 locs1 hr hM1 hS1 g1 g2 g3 => by cases hr) (fun v H1 locs1 hr hM1 hS1 => ?_)
          cases hr
          exact kk _ _ res hres hφ H1 locs1 hM1 hS1 ls hl
        | inr k =>
          refine run_X hS (vx_runV (As := av) (rest := st) ⟨hC.hx, hC.hb, hC.hml, hC.hown, hC.hts⟩ (hct h _ hx) (cwV n hC.hts (good_V h1 h2 h3 h4 h5) rfl rfl rfl ⟨hyc, hy⟩ (by rw [hR0]; exact hR)) (pre_V hC hM hS hT hcl) rfl hn hl.1 rfl (by show 2 * 0 + _ ≤ 8; omega) hd (by rw [hR0]; exact hg)) (fun k ce q9 H1 locs1 hr hM1 hS1 g1 g2 g3 => ?_) (fun v H1 locs1 hr hM1 hS1 => by cases hr)
          cases hr
          have hres' : E k σ1 = some res := hres
          rcases kx k σ1 with e | ⟨hp, e1, e2⟩
          · rw [e] at hres'; cases hres'
          · exact hnd_go hC hE e1 g1 g2 g3 (e2 q9 res hres' hφ H1 locs1 hM1 hS1 ls hl)
    · cases hres
/-! throw new E() -/
def exA (own : String) (ic k : Nat) : List Cond := vx_at0 own ic (exN k) ["java/lang/RuntimeException", "java/lang/Exception"]
theorem tab_w (hC : CX C G own cc nL rt fr cl sl lo) {L : List Cond} (h : ∀ w ∈ L, w ∈ lw_tbl ∧ (goodWord w || ngk w) = true) : (∀ w ∈ L, w.before (cA C) (cS C) = true) ∧ ∀ w ∈ L, vx_ot w = true := by
  refine ⟨fun w hw => ?_, fun w hw => ?_⟩
  · obtain ⟨h1, h2⟩ := h w hw
    rcases Bool.or_eq_true _ _ |>.mp h2 with g | g
    · exact hC.hts _ (List.mem_filter.mpr ⟨h1, g⟩)
    · exact va_Nw.use (ng_tab g) (hC.hK.1.2.1 _ h1 g)
  · obtain ⟨h1, h2⟩ := h w hw
    rcases Bool.or_eq_true _ _ |>.mp h2 with g | g
    · simp [vx_ot, g]
    · simp [vx_ot, ng_tab g]
theorem r_throw {rw : γ → Option Value} {b : Bool} (hC : CX C G own cc nL rt fr cl sl lo) (hE : ∀ z ∈ (cC C).exceptionTable.toList, False) {k ik ic MC MS : Nat} (hk0 : k = 1 ∨ k = 2 ∨ k = 3) (h1 : Cond.classLink own ik (exN k) ∈ uW) (h2 : Cond.initialized (exN k) ∈ uW) (h3 : ∀ w ∈ exA own ic k, w ∈ lw_tbl ∧ (goodWord w || ngk w) = true)
    (d0 : decode cc pc = .ok (.new ik, 3)) (d3 : decode cc (pc + 3) = .ok (.dup, 1)) (d4 : decode cc (pc + 4) = .ok (.invokespecial ic, 3)) (d7 : decode cc (pc + 7) = .ok (.athrow, 1)) (hf : 5 < fr) (hlo : (st.map fun v => v.category).sum + 81 ≤ lo) (hb9 : b = true → (kc + 1 ≤ cl ∧ ks + 6 ≤ sl) ∧ kc + 1 ≤ MC ∧ ks + 6 ≤ MS) : Wo C G nL (QT C G rw MC MS b) (thr k (sB σ)) σ kc ks pc lv st := by
  intro res hres hφ H locs hM hS ls hl
  have h0 := hM.1
  obtain ⟨w1, w2⟩ := tab_w hC h3
  have hgood : ∀ w ∈ Cond.classLink own ik (exN k) :: Cond.initialized (exN k) :: vx_at0 own ic (exN k) ["java/lang/RuntimeException", "java/lang/Exception"], vx_ot w = true := by
    intro w hw
    rcases List.mem_cons.mp hw with rfl | hw
    · rfl
    rcases List.mem_cons.mp hw with rfl | hw
    · rfl
    exact w2 w hw
  have hfit : Bundle.fit (exN k) = true := by rcases hk0 with rfl | rfl | rfl <;> decide
  cases hres
  obtain ⟨hc, hg⟩ := hb9 (hφ.symm.trans rfl)
  have hR0 := hC.hR
  -- the walk of the kit's row, with the heap's size beside
  intro T hT X
  have htr : (cE C).platform.stackTraces = false := (show (cE C).platform.stackTraces = (cL C).stackTraces by rw [X.admits.platform]).trans hC.hl
  have Y := vx_rebase X (R' := { frames := (cR C).frames, locals := (cR C).locals, cells := 1, slots := 6 }) (Nat.le_refl _) (Nat.le_refl _) (by rw [hR0]; exact hc.1) (by rw [hR0]; exact hc.2)
  obtain ⟨s', hA⟩ : ∃ z, z = (T.setVm (cS C).vm).setFrames (.invoking (cM C) (cA C) :: cB C) := ⟨_, rfl⟩
  rw [← hA] at Y
  have hvm : s'.vm = (cS C).vm := by rw [hA]; rfl
  have hhp : s'.heap = H := by rw [hA]; exact hT
  have hW0 : (cS C).WarmedH s'.vm := by rw [hvm]; exact State.WarmedH.refl (cS C)
  have hat' : ∀ w ∈ vx_at0 own ic (exN k) ["java/lang/RuntimeException", "java/lang/Exception"], w.before (cA C) s' = true := fun w hw => vx_ot_at hW0 hvm.symm (w2 w hw) (w1 w hw)
  have hk' : (Cond.classLink own ik (exN k)).before (cA C) s' = true := vx_ot_at hW0 hvm.symm (hgood _ List.mem_cons_self) (hC.hts _ h1)
  have hini' : (Cond.initialized (exN k)).before (cA C) s' = true := vx_ot_at hW0 hvm.symm (hgood _ (List.mem_cons_of_mem _ List.mem_cons_self)) (hC.hts _ h2)
  have hU' : vx_Zq Bundle.tN "UNASSIGNED_STACK" Bundle.steD (gA G) s' s'.heap := by rw [hhp]; exact vx_Zq.moved hW0.alike (hC.hK.2.1.kept hS.2.1)
  have hN' : vx_Zq Bundle.tN "SUPPRESSED_SENTINEL" Bundle.listD (gA G) s' s'.heap := by rw [hhp]; exact vx_Zq.moved hW0.alike (hC.hK.2.2.1.kept hS.2.1)
  have h : ∀ w ∈ Bundle.ownAtoms0 own ic (exN k) ["java/lang/RuntimeException", "java/lang/Exception"], w.before (cA C) s' = true := vx_own hat' (vx_isRefq hU'.1) (vx_isRefq hN'.1) hU'.2.word hN'.2.word
  have hown' : s'.vm.findClass own = some (cM C).cls := by rw [hvm]; exact hC.hown
  have hins : (Cond.instantiable (exN k) 6).before (cA C) s' = true := h _ (by simp [Bundle.ownAtoms0])
  obtain ⟨vm₁, cX, kX, hfX, hkX, -, -, X₁, st1⟩ := Y.newCold hC.hx (own := own) (C := exN k) (index := ik) (n := 6) hown' hk' hins hini'
    (g := F0 (cM C) pc ls st) rfl (by rw [hC.hb]; exact d0) (Nat.le_refl _) (Nat.le_refl _)
  generalize hT1 : (T.setVm vm₁).pushCell { cls := cX, slots := kX.instanceTypes.map defaultValue, vm := .none } = T1 at X₁ st1
  have hcat : (Value.ref T.heap.size).category = 1 := rfl
  have hcellA : T1.heap[T.heap.size]? = some (freshCell cX kX) := by rw [← hT1]; exact State.heap_pushCell_size _ _
  have d3' : decode (cC C).code (pc + 3) = .ok (.dup, 1) := by rw [hC.hb]; exact d3
  obtain ⟨U, hsteps, hrun, hend, hW, hsame, ce, hce, hO⟩ := X₁.ctorThrow0 hC.hx htr (own := own) (cls := exN k) (names := ["java/lang/RuntimeException", "java/lang/Exception"]) (ic := ic) hown' hfit (by decide) h (fun x hx => nomatch hx) hfX hkX hcellA (by rw [hhp, hT]; exact Nat.le_refl _)
    (g := { method := cM C, pc := pc + 4, locals := ls, stack := .ref T.heap.size :: .ref T.heap.size :: st, locked := none }) rfl (by rw [hC.hml]; exact hl.1) rfl rfl (rest := st) rfl
    (by rw [hC.hb]; exact d4) (by rw [hC.hb]; exact d7) (fun z hz => (hE z hz).elim) (by rw [hR0]; show 2 + 3 < fr; omega) (by rw [hR0]; show _ ≤ lo; simp only [List.map_cons, List.sum_cons, hcat, List.length_cons, List.length_nil]; omega) hC.hlk
  obtain ⟨f1, f2⟩ := vx_frame hsame
  have hsz : U.heap.size = mZ σ + 1 := by
    have a1 : T.heap.size < U.heap.size := (Array.getElem?_eq_some_iff.mp hce).1
    have a2 : U.heap.size ≤ s'.heap.size + 1 := hsame.2.2.1
    rw [hhp] at a2
    rw [hT] at a1
    omega
  rw [hhp] at f1 f2
  have hWs : (cS C).WarmedH U.vm := State.WarmedH.trans hW0 hW
  have hcl : (cS C).vm.findClass (exN k) = some ce.cls := by
    have h9 := hO.cls
    rw [hvm] at h9
    exact h9
  have hall : (cS C).sameButNew ({ U with vm := (cS C).vm } : State) locs MC MS := by
    subst hA
    obtain ⟨e1, e2⟩ := hsame
    rw [State.setFrames_setFrames] at e1
    have h2 : (T.setVm (cS C).vm).sameButNew ({ U with vm := (cS C).vm } : State) [] (0 + 1) (0 + 6) := ⟨e1, e2⟩
    have h3 := X.same.trans h2
    rw [List.append_nil] at h3
    exact h3.mono hg.1 hg.2
  have hMU : memK G (sB σ) U.heap := hM.bump hsz (fun q hq => f2 q (by omega) (fun z hz => nomatch hz))
  have hFU : va_F (gA G) (cS C) U := by
    refine ⟨Nat.le_trans hS.1 f1, fun q g1 g2 => ?_⟩
    rw [f2 q (Nat.lt_of_lt_of_le g1 hS.1) (fun z hz => nomatch hz)]
    exact hS.2.1 q g1 g2
  refine ⟨U, ?_, .threw T.heap.size, hrun, hend, Or.inr ⟨T.heap.size, rfl, exN k, ce, locs, ⟨k, rfl, rfl, hMU, hFU⟩, hce, hO.vm, hcl, hWs, hall, hS.2.2⟩⟩
  refine st1 _ ?_
  show Steps (cP C).tables (cE C) (cB C) (T1.setTop { method := cM C, pc := pc + 3, locals := ls, stack := .ref T.heap.size :: st, locked := none }) _
  jvm_step X₁.here [X₁.here.top, hC.hx, d3', Value.category]
  exact hsteps
end R8
