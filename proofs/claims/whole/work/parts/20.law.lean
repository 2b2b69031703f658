/-! THE CLAIM OUT OF ONE WALK OF THE LAW'S BODY. Your part is whole_start (and what it stands on); all else here is the same for every law, but numbers. -/
def R_law : String := "FlushGardenLaw"
def lw_P (b : Addr) (xs : List Int32) (args : Array Value) (s : State) : Prop := args = #[.ref b] ∧ s.IntsAt b xs ∧ xs.length ≤ 2560 ∧ (Jvm.Cond.and given_1 narrow_1).before args s = true
/-- what a walk over the start with the record d0 says of its end, said of the start itself -/
theorem lw_closed {s t : State} {o : Outcome} {d0 : Drawn} {L : List Loc} {k n : Nat} (hd0 : s.drawn.sameBut d0 lw_cs) (hv : ∃ v, o = .returned v) (hW : (s.setDrawn d0).WarmedH t.vm) (hs : (s.setDrawn d0).sameButNew ({ t with vm := s.vm } : State) L k n) : State.butDraws s t lw_cs (fun t1 => Framed s o t1 L k n) := by
  have h2 : t.drawn = d0 := congrArg State.drawn hs.1
  refine ⟨⟨hv, hW, State.sameButNew.setDrawn hs s.drawn⟩, ?_, by decide⟩
  rw [h2]
  exact hd0
def lw_Q (_ : Array Value) (s : State) (o : Outcome) (t : State) : Prop := o = .returned (some (.int 1)) ∧ State.butDraws s t lw_cs (fun t1 => Framed s o t1 [] 686331 7037111)
def lw_Z (below : List Frame) (a : Array Value) (s : State) : State → Prop := fun t => ∃ o, t.status = .running ∧ Ended t below o ∧ lw_Q a s o t
/-- the law's own end, with 1 on the stack, nothing written that was there before, its room as the claim has it; d0: the record of draws at this point (at the entry s.drawn: begin with 'refine W.base ?_' and 'have hd0 := Drawn.sameBut.refl s.drawn lw_cs') -/
theorem lw_ret {p : Program} {l : Launch} {e : Env} {s : State} {m : MethodId} {below : List Frame} {meth : Method} {c : Code} {b : Nat} {d0 : Drawn} (hd0 : s.drawn.sameBut d0 lw_cs) (hx : p.tables.exec = Jvm.exec) (hb : c.code = code) (hr : meth.sig.returnType = ret) (hlocks : meth.locks = false) {pc : Nat} {H : Heap} {ls : Array Slot} (hdg : decode code pc = .ok (.ireturn, 1)) : W p l e room_1 (s.setDrawn d0) m #[Value.ref b] below meth c H [] 686331 7037111 (lw_Z below #[Value.ref b] s) (F0 m pc ls [.int 1]) := by
  intro T hT X
  obtain ⟨fs, hret, hrun, hended, hW, hframe⟩ := X.leave (v := some (.int 1)) (hlocks := hlocks) (fun h => by rw [hr] at h; cases h)
  have hmeth' : T.vm.method? m = some meth := X.method'
  refine ⟨T.setFrames fs, ?_, .returned (some (.int 1)), hrun, hended, rfl, lw_closed hd0 ⟨_, rfl⟩ hW hframe⟩
  jvm_step X.here [X.here.top, hx, hb, hdg, hmeth', hr, ret, narrow_b1]
  (try refine ⟨rfl, ?_⟩); (try refine ⟨rfl, ?_⟩)
  first | (intro acts; rw [hret _ acts rfl rfl rfl]) | rw [hret _ _ rfl rfl rfl]
  exact Steps.refl _
/-- what holds at the law's entry: the machine, the code, the tables' words (any of lw_tbl by 'hts w (by decide +kernel)'), the script of L ints xs at the cell b, what the Statement gives of the start (any of its parts by flat_of_before) -/
def lw_At (p : Program) (s : State) (m : MethodId) (meth : Method) (c : Code) (b L : Nat) (xs : Nat → Int32) : Prop :=
  p.tables.exec = Jvm.exec ∧ c.code = code ∧ meth.sig.returnType = ret ∧ c.maxLocals = 9 ∧ s.vm.findClass R_law = some m.cls ∧ (∀ w ∈ lw_tbl, w.before #[Value.ref b] s = true) ∧ va_X b L xs s s.heap ∧ b < s.heap.size ∧ meth.locks = false ∧ (Jvm.Cond.and given_1 narrow_1).before #[Value.ref b] s = true

def QL (C : Cxt) (b : Nat) : Pst (Int32 × Mem) := (fun r => r.1 = 1, fun _ => lw_Z (cB C) #[Value.ref b] (cS C))
theorem e_law {C : Cxt} {G : Glb} {xs : Nat → Int32} {L9 a0 : Nat} (hC : CX C G RL cL_law 9 ret 14 686331 7037111 554) (hX : Scr C G a0 L9 xs) {v : Int32} {σ : Mem} {kc ks pc : Nat} {lv : List (Nat × Value)} (hk : kc ≤ 686331 ∧ ks ≤ 7037111) (hd : decode cL_law pc = .ok (.ireturn, 1)) : Wo C G 9 (QL C a0) (some (v, σ)) σ kc ks pc lv [.int v] := by
  intro res hres hφ H locs hM hS ls hl
  cases hres
  have hv : v = 1 := hφ
  subst hv
  obtain ⟨p, l, e, R, s, m, args, below, meth, c⟩ := C
  obtain ⟨-, -, -, hargs, hsz⟩ := hX
  have hR : R = room_1 := hC.hR
  have hargs2 : args = #[Value.ref a0] := hargs
  subst hR
  subst hargs2
  have hd0 := Drawn.sameBut.refl s.drawn lw_cs
  refine va_forget (fun q hq => Nat.le_trans hsz (hS.2.2 q hq)) ?_
  refine W.widen (k := 686331) (n := 7037111) hk.1 hk.2 ?_
  exact lw_ret hd0 hC.hx hC.hb hC.hr hC.hlk hd
noncomputable def b_L_law_2299 (e0 mi : Nat) (xs : Nat → Int32) (L9 b9 : Nat) (k23 : (Option Nat) → (Option Nat) → (Option Nat) → Int32 → Mem → Option ((Int32) × Mem)) (x2299_1 : (Option Nat)) (x2299_2 : (Option Nat)) (x2299_3 : (Option Nat)) (x2299_4 : Int32) (σ : Mem) : Option ((Int32) × Mem) :=
nm (x2299_4 + 5) fun v33 =>
k23 x2299_1 x2299_2 x2299_3 v33 σ

noncomputable def b_L_law_245 (e0 mi : Nat) (xs : Nat → Int32) (L9 b9 : Nat) (k23 : (Option Nat) → (Option Nat) → (Option Nat) → Int32 → Mem → Option ((Int32) × Mem)) (x245_1 : (Option Nat)) (x245_2 : (Option Nat)) (x245_3 : (Option Nat)) (x245_4 : Int32) (σ : Mem) : Option ((Int32) × Mem) :=
b_L_law_2299 e0 mi xs L9 b9 k23 x245_1 x245_2 x245_3 x245_4 σ

noncomputable def b_L_law_325 (e0 mi : Nat) (xs : Nat → Int32) (L9 b9 : Nat) (k23 : (Option Nat) → (Option Nat) → (Option Nat) → Int32 → Mem → Option ((Int32) × Mem)) (x325_1 : (Option Nat)) (x325_2 : (Option Nat)) (x325_3 : (Option Nat)) (x325_4 : Int32) (σ : Mem) : Option ((Int32) × Mem) :=
b_L_law_2299 e0 mi xs L9 b9 k23 x325_1 x325_2 x325_3 x325_4 σ

noncomputable def b_L_law_381 (e0 mi : Nat) (xs : Nat → Int32) (L9 b9 : Nat) (k23 : (Option Nat) → (Option Nat) → (Option Nat) → Int32 → Mem → Option ((Int32) × Mem)) (x381_1 : (Option Nat)) (x381_2 : (Option Nat)) (x381_3 : (Option Nat)) (x381_4 : Int32) (σ : Mem) : Option ((Int32) × Mem) :=
b_L_law_2299 e0 mi xs L9 b9 k23 x381_1 x381_2 x381_3 x381_4 σ

noncomputable def b_L_law_437 (e0 mi : Nat) (xs : Nat → Int32) (L9 b9 : Nat) (k23 : (Option Nat) → (Option Nat) → (Option Nat) → Int32 → Mem → Option ((Int32) × Mem)) (x437_1 : (Option Nat)) (x437_2 : (Option Nat)) (x437_3 : (Option Nat)) (x437_4 : Int32) (σ : Mem) : Option ((Int32) × Mem) :=
b_L_law_2299 e0 mi xs L9 b9 k23 x437_1 x437_2 x437_3 x437_4 σ

noncomputable def b_L_law_517 (e0 mi : Nat) (xs : Nat → Int32) (L9 b9 : Nat) (k23 : (Option Nat) → (Option Nat) → (Option Nat) → Int32 → Mem → Option ((Int32) × Mem)) (x517_1 : (Option Nat)) (x517_2 : (Option Nat)) (x517_3 : (Option Nat)) (x517_4 : Int32) (σ : Mem) : Option ((Int32) × Mem) :=
b_L_law_2299 e0 mi xs L9 b9 k23 x517_1 x517_2 x517_3 x517_4 σ

noncomputable def b_L_law_585 (e0 mi : Nat) (xs : Nat → Int32) (L9 b9 : Nat) (k23 : (Option Nat) → (Option Nat) → (Option Nat) → Int32 → Mem → Option ((Int32) × Mem)) (x585_1 : (Option Nat)) (x585_2 : (Option Nat)) (x585_3 : (Option Nat)) (x585_4 : Int32) (σ : Mem) : Option ((Int32) × Mem) :=
b_L_law_2299 e0 mi xs L9 b9 k23 x585_1 x585_2 x585_3 x585_4 σ

noncomputable def b_L_law_665 (e0 mi : Nat) (xs : Nat → Int32) (L9 b9 : Nat) (k23 : (Option Nat) → (Option Nat) → (Option Nat) → Int32 → Mem → Option ((Int32) × Mem)) (x665_1 : (Option Nat)) (x665_2 : (Option Nat)) (x665_3 : (Option Nat)) (x665_4 : Int32) (σ : Mem) : Option ((Int32) × Mem) :=
b_L_law_2299 e0 mi xs L9 b9 k23 x665_1 x665_2 x665_3 x665_4 σ

noncomputable def b_L_law_721 (e0 mi : Nat) (xs : Nat → Int32) (L9 b9 : Nat) (k23 : (Option Nat) → (Option Nat) → (Option Nat) → Int32 → Mem → Option ((Int32) × Mem)) (x721_1 : (Option Nat)) (x721_2 : (Option Nat)) (x721_3 : (Option Nat)) (x721_4 : Int32) (σ : Mem) : Option ((Int32) × Mem) :=
b_L_law_2299 e0 mi xs L9 b9 k23 x721_1 x721_2 x721_3 x721_4 σ

noncomputable def b_L_law_789 (e0 mi : Nat) (xs : Nat → Int32) (L9 b9 : Nat) (k23 : (Option Nat) → (Option Nat) → (Option Nat) → Int32 → Mem → Option ((Int32) × Mem)) (x789_1 : (Option Nat)) (x789_2 : (Option Nat)) (x789_3 : (Option Nat)) (x789_4 : Int32) (σ : Mem) : Option ((Int32) × Mem) :=
b_L_law_2299 e0 mi xs L9 b9 k23 x789_1 x789_2 x789_3 x789_4 σ

noncomputable def b_L_law_869 (e0 mi : Nat) (xs : Nat → Int32) (L9 b9 : Nat) (k23 : (Option Nat) → (Option Nat) → (Option Nat) → Int32 → Mem → Option ((Int32) × Mem)) (x869_1 : (Option Nat)) (x869_2 : (Option Nat)) (x869_3 : (Option Nat)) (x869_4 : Int32) (σ : Mem) : Option ((Int32) × Mem) :=
b_L_law_2299 e0 mi xs L9 b9 k23 x869_1 x869_2 x869_3 x869_4 σ

noncomputable def b_L_law_949 (e0 mi : Nat) (xs : Nat → Int32) (L9 b9 : Nat) (k23 : (Option Nat) → (Option Nat) → (Option Nat) → Int32 → Mem → Option ((Int32) × Mem)) (x949_1 : (Option Nat)) (x949_2 : (Option Nat)) (x949_3 : (Option Nat)) (x949_4 : Int32) (σ : Mem) : Option ((Int32) × Mem) :=
b_L_law_2299 e0 mi xs L9 b9 k23 x949_1 x949_2 x949_3 x949_4 σ

noncomputable def b_L_law_1005 (e0 mi : Nat) (xs : Nat → Int32) (L9 b9 : Nat) (k23 : (Option Nat) → (Option Nat) → (Option Nat) → Int32 → Mem → Option ((Int32) × Mem)) (x1005_1 : (Option Nat)) (x1005_2 : (Option Nat)) (x1005_3 : (Option Nat)) (x1005_4 : Int32) (σ : Mem) : Option ((Int32) × Mem) :=
b_L_law_2299 e0 mi xs L9 b9 k23 x1005_1 x1005_2 x1005_3 x1005_4 σ

noncomputable def b_L_law_1097 (e0 mi : Nat) (xs : Nat → Int32) (L9 b9 : Nat) (k23 : (Option Nat) → (Option Nat) → (Option Nat) → Int32 → Mem → Option ((Int32) × Mem)) (x1097_1 : (Option Nat)) (x1097_2 : (Option Nat)) (x1097_3 : (Option Nat)) (x1097_4 : Int32) (σ : Mem) : Option ((Int32) × Mem) :=
b_L_law_2299 e0 mi xs L9 b9 k23 x1097_1 x1097_2 x1097_3 x1097_4 σ

noncomputable def b_L_law_1165 (e0 mi : Nat) (xs : Nat → Int32) (L9 b9 : Nat) (k23 : (Option Nat) → (Option Nat) → (Option Nat) → Int32 → Mem → Option ((Int32) × Mem)) (x1165_1 : (Option Nat)) (x1165_2 : (Option Nat)) (x1165_3 : (Option Nat)) (x1165_4 : Int32) (σ : Mem) : Option ((Int32) × Mem) :=
b_L_law_2299 e0 mi xs L9 b9 k23 x1165_1 x1165_2 x1165_3 x1165_4 σ

noncomputable def b_L_law_1233 (e0 mi : Nat) (xs : Nat → Int32) (L9 b9 : Nat) (k23 : (Option Nat) → (Option Nat) → (Option Nat) → Int32 → Mem → Option ((Int32) × Mem)) (x1233_1 : (Option Nat)) (x1233_2 : (Option Nat)) (x1233_3 : (Option Nat)) (x1233_4 : Int32) (σ : Mem) : Option ((Int32) × Mem) :=
b_L_law_2299 e0 mi xs L9 b9 k23 x1233_1 x1233_2 x1233_3 x1233_4 σ

noncomputable def b_L_law_1301 (e0 mi : Nat) (xs : Nat → Int32) (L9 b9 : Nat) (k23 : (Option Nat) → (Option Nat) → (Option Nat) → Int32 → Mem → Option ((Int32) × Mem)) (x1301_1 : (Option Nat)) (x1301_2 : (Option Nat)) (x1301_3 : (Option Nat)) (x1301_4 : Int32) (σ : Mem) : Option ((Int32) × Mem) :=
b_L_law_2299 e0 mi xs L9 b9 k23 x1301_1 x1301_2 x1301_3 x1301_4 σ

noncomputable def b_L_law_1369 (e0 mi : Nat) (xs : Nat → Int32) (L9 b9 : Nat) (k23 : (Option Nat) → (Option Nat) → (Option Nat) → Int32 → Mem → Option ((Int32) × Mem)) (x1369_1 : (Option Nat)) (x1369_2 : (Option Nat)) (x1369_3 : (Option Nat)) (x1369_4 : Int32) (σ : Mem) : Option ((Int32) × Mem) :=
b_L_law_2299 e0 mi xs L9 b9 k23 x1369_1 x1369_2 x1369_3 x1369_4 σ

noncomputable def b_L_law_1449 (e0 mi : Nat) (xs : Nat → Int32) (L9 b9 : Nat) (k23 : (Option Nat) → (Option Nat) → (Option Nat) → Int32 → Mem → Option ((Int32) × Mem)) (x1449_1 : (Option Nat)) (x1449_2 : (Option Nat)) (x1449_3 : (Option Nat)) (x1449_4 : Int32) (σ : Mem) : Option ((Int32) × Mem) :=
b_L_law_2299 e0 mi xs L9 b9 k23 x1449_1 x1449_2 x1449_3 x1449_4 σ

noncomputable def b_L_law_1505 (e0 mi : Nat) (xs : Nat → Int32) (L9 b9 : Nat) (k23 : (Option Nat) → (Option Nat) → (Option Nat) → Int32 → Mem → Option ((Int32) × Mem)) (x1505_1 : (Option Nat)) (x1505_2 : (Option Nat)) (x1505_3 : (Option Nat)) (x1505_4 : Int32) (σ : Mem) : Option ((Int32) × Mem) :=
b_L_law_2299 e0 mi xs L9 b9 k23 x1505_1 x1505_2 x1505_3 x1505_4 σ

noncomputable def b_L_law_1573 (e0 mi : Nat) (xs : Nat → Int32) (L9 b9 : Nat) (k23 : (Option Nat) → (Option Nat) → (Option Nat) → Int32 → Mem → Option ((Int32) × Mem)) (x1573_1 : (Option Nat)) (x1573_2 : (Option Nat)) (x1573_3 : (Option Nat)) (x1573_4 : Int32) (σ : Mem) : Option ((Int32) × Mem) :=
b_L_law_2299 e0 mi xs L9 b9 k23 x1573_1 x1573_2 x1573_3 x1573_4 σ

noncomputable def b_L_law_1641 (e0 mi : Nat) (xs : Nat → Int32) (L9 b9 : Nat) (k23 : (Option Nat) → (Option Nat) → (Option Nat) → Int32 → Mem → Option ((Int32) × Mem)) (x1641_1 : (Option Nat)) (x1641_2 : (Option Nat)) (x1641_3 : (Option Nat)) (x1641_4 : Int32) (σ : Mem) : Option ((Int32) × Mem) :=
b_L_law_2299 e0 mi xs L9 b9 k23 x1641_1 x1641_2 x1641_3 x1641_4 σ

noncomputable def b_L_law_1709 (e0 mi : Nat) (xs : Nat → Int32) (L9 b9 : Nat) (k23 : (Option Nat) → (Option Nat) → (Option Nat) → Int32 → Mem → Option ((Int32) × Mem)) (x1709_1 : (Option Nat)) (x1709_2 : (Option Nat)) (x1709_3 : (Option Nat)) (x1709_4 : Int32) (σ : Mem) : Option ((Int32) × Mem) :=
b_L_law_2299 e0 mi xs L9 b9 k23 x1709_1 x1709_2 x1709_3 x1709_4 σ

noncomputable def b_L_law_1777 (e0 mi : Nat) (xs : Nat → Int32) (L9 b9 : Nat) (k23 : (Option Nat) → (Option Nat) → (Option Nat) → Int32 → Mem → Option ((Int32) × Mem)) (x1777_1 : (Option Nat)) (x1777_2 : (Option Nat)) (x1777_3 : (Option Nat)) (x1777_4 : Int32) (σ : Mem) : Option ((Int32) × Mem) :=
b_L_law_2299 e0 mi xs L9 b9 k23 x1777_1 x1777_2 x1777_3 x1777_4 σ

noncomputable def b_L_law_1845 (e0 mi : Nat) (xs : Nat → Int32) (L9 b9 : Nat) (k23 : (Option Nat) → (Option Nat) → (Option Nat) → Int32 → Mem → Option ((Int32) × Mem)) (x1845_1 : (Option Nat)) (x1845_2 : (Option Nat)) (x1845_3 : (Option Nat)) (x1845_4 : Int32) (σ : Mem) : Option ((Int32) × Mem) :=
b_L_law_2299 e0 mi xs L9 b9 k23 x1845_1 x1845_2 x1845_3 x1845_4 σ

noncomputable def b_L_law_1913 (e0 mi : Nat) (xs : Nat → Int32) (L9 b9 : Nat) (k23 : (Option Nat) → (Option Nat) → (Option Nat) → Int32 → Mem → Option ((Int32) × Mem)) (x1913_1 : (Option Nat)) (x1913_2 : (Option Nat)) (x1913_3 : (Option Nat)) (x1913_4 : Int32) (σ : Mem) : Option ((Int32) × Mem) :=
b_L_law_2299 e0 mi xs L9 b9 k23 x1913_1 x1913_2 x1913_3 x1913_4 σ

noncomputable def b_L_law_1969 (e0 mi : Nat) (xs : Nat → Int32) (L9 b9 : Nat) (k23 : (Option Nat) → (Option Nat) → (Option Nat) → Int32 → Mem → Option ((Int32) × Mem)) (x1969_1 : (Option Nat)) (x1969_2 : (Option Nat)) (x1969_3 : (Option Nat)) (x1969_4 : Int32) (σ : Mem) : Option ((Int32) × Mem) :=
b_L_law_2299 e0 mi xs L9 b9 k23 x1969_1 x1969_2 x1969_3 x1969_4 σ

noncomputable def b_L_law_2010 (e0 mi : Nat) (xs : Nat → Int32) (L9 b9 : Nat) (k23 : (Option Nat) → (Option Nat) → (Option Nat) → Int32 → Mem → Option ((Int32) × Mem)) (x2010_1 : (Option Nat)) (x2010_2 : (Option Nat)) (x2010_3 : (Option Nat)) (x2010_4 : Int32) (σ : Mem) : Option ((Int32) × Mem) :=
b_L_law_2299 e0 mi xs L9 b9 k23 x2010_1 x2010_2 x2010_3 x2010_4 σ

noncomputable def b_L_law_2008 (e0 mi : Nat) (xs : Nat → Int32) (L9 b9 : Nat) (σ : Mem) : Option ((Int32) × Mem) :=
some (0, σ)

noncomputable def b_L_law_2090 (e0 mi : Nat) (xs : Nat → Int32) (L9 b9 : Nat) (k23 : (Option Nat) → (Option Nat) → (Option Nat) → Int32 → Mem → Option ((Int32) × Mem)) (x2090_1 : (Option Nat)) (x2090_2 : (Option Nat)) (x2090_3 : (Option Nat)) (x2090_4 : Int32) (σ : Mem) : Option ((Int32) × Mem) :=
b_L_law_2299 e0 mi xs L9 b9 k23 x2090_1 x2090_2 x2090_3 x2090_4 σ

noncomputable def b_L_law_2146 (e0 mi : Nat) (xs : Nat → Int32) (L9 b9 : Nat) (k23 : (Option Nat) → (Option Nat) → (Option Nat) → Int32 → Mem → Option ((Int32) × Mem)) (x2146_1 : (Option Nat)) (x2146_2 : (Option Nat)) (x2146_3 : (Option Nat)) (x2146_4 : Int32) (σ : Mem) : Option ((Int32) × Mem) :=
b_L_law_2299 e0 mi xs L9 b9 k23 x2146_1 x2146_2 x2146_3 x2146_4 σ

noncomputable def b_L_law_2226 (e0 mi : Nat) (xs : Nat → Int32) (L9 b9 : Nat) (k23 : (Option Nat) → (Option Nat) → (Option Nat) → Int32 → Mem → Option ((Int32) × Mem)) (x2226_1 : (Option Nat)) (x2226_2 : (Option Nat)) (x2226_3 : (Option Nat)) (x2226_4 : Int32) (σ : Mem) : Option ((Int32) × Mem) :=
b_L_law_2299 e0 mi xs L9 b9 k23 x2226_1 x2226_2 x2226_3 x2226_4 σ

noncomputable def b_L_law_2282 (e0 mi : Nat) (xs : Nat → Int32) (L9 b9 : Nat) (k23 : (Option Nat) → (Option Nat) → (Option Nat) → Int32 → Mem → Option ((Int32) × Mem)) (x2282_1 : (Option Nat)) (x2282_2 : (Option Nat)) (x2282_3 : (Option Nat)) (x2282_4 : Int32) (σ : Mem) : Option ((Int32) × Mem) :=
b_L_law_2299 e0 mi xs L9 b9 k23 x2282_1 x2282_2 x2282_3 x2282_4 σ

noncomputable def b_L_law_23 (e0 mi : Nat) (xs : Nat → Int32) (L9 b9 : Nat) (k23 : (Option Nat) → (Option Nat) → (Option Nat) → Int32 → Mem → Option ((Int32) × Mem)) (x23_1 : (Option Nat)) (x23_2 : (Option Nat)) (x23_3 : (Option Nat)) (x23_4 : Int32) (σ : Mem) : Option ((Int32) × Mem) :=
nm (Int32.ofNat L9) fun v13 =>
nm (v13 - 5) fun v14 =>
if v14 < x23_4 then
some (1, σ)
else
sX xs L9 x23_4 fun v15 =>
nm (v15 &&& 31) fun v16 =>
if v16 = 0 then
nm (x23_4 + 1) fun v17 =>
sX xs L9 v17 fun v18 =>
nm (x23_4 + 2) fun v19 =>
sX xs L9 v19 fun v20 =>
cl1 (f_L_section x23_1 v18 v20 x23_3 σ) fun v21 σ22 =>
nm (x23_4 + 1) fun v23 =>
sX xs L9 v23 fun v24 =>
nm (x23_4 + 2) fun v25 =>
sX xs L9 v25 fun v26 =>
ob 10 σ22 x23_2 fun h29 => cl1 (f_X8_section e0 mi h29 v24 v26 σ22) fun v27 σ28 =>
ob 10 σ28 x23_2 fun h32 => cl1 (f_X8_thrown h32 σ28) fun v30 σ31 =>
if v30 = v21 then
if v21 = 0 then
aJ σ31 x23_3 0 fun v34 =>
nm (v27.toInt64) fun v35 =>
nm (lg_cmp v34 v35) fun v36 =>
if v36 = 0 then
b_L_law_245 e0 mi xs L9 b9 k23 x23_1 x23_2 x23_3 x23_4 σ31
else
some (0, σ31)
else
b_L_law_245 e0 mi xs L9 b9 k23 x23_1 x23_2 x23_3 x23_4 σ31
else
some (0, σ31)
else if v16 = 1 then
nm (x23_4 + 1) fun v37 =>
sX xs L9 v37 fun v38 =>
nm (x23_4 + 2) fun v39 =>
sX xs L9 v39 fun v40 =>
nm (x23_4 + 3) fun v41 =>
sX xs L9 v41 fun v42 =>
cl1 (f_L_pass x23_1 v38 v40 v42 x23_3 σ) fun v43 σ44 =>
nm (x23_4 + 1) fun v45 =>
sX xs L9 v45 fun v46 =>
nm (x23_4 + 2) fun v47 =>
sX xs L9 v47 fun v48 =>
nm (x23_4 + 3) fun v49 =>
sX xs L9 v49 fun v50 =>
ob 10 σ44 x23_2 fun h53 => cl1 (f_X8_pass e0 mi h53 v46 v48 v50 σ44) fun v51 σ52 =>
ob 10 σ52 x23_2 fun h56 => cl1 (f_X8_thrown h56 σ52) fun v54 σ55 =>
if v54 = v43 then
if v43 = 0 then
aJ σ55 x23_3 0 fun v57 =>
nm (v51.toInt64) fun v58 =>
nm (lg_cmp v57 v58) fun v59 =>
if v59 = 0 then
b_L_law_325 e0 mi xs L9 b9 k23 x23_1 x23_2 x23_3 x23_4 σ55
else
some (0, σ55)
else
b_L_law_325 e0 mi xs L9 b9 k23 x23_1 x23_2 x23_3 x23_4 σ55
else
some (0, σ55)
else if v16 = 2 then
nm (x23_4 + 1) fun v60 =>
sX xs L9 v60 fun v61 =>
cl1 (f_L_prune x23_1 v61 x23_3 σ) fun v62 σ63 =>
nm (x23_4 + 1) fun v64 =>
sX xs L9 v64 fun v65 =>
ob 10 σ63 x23_2 fun h68 => cl1 (f_X8_prune h68 v65 σ63) fun v66 σ67 =>
ob 10 σ67 x23_2 fun h71 => cl1 (f_X8_thrown h71 σ67) fun v69 σ70 =>
if v69 = v62 then
if v62 = 0 then
aJ σ70 x23_3 0 fun v72 =>
nm (v66.toInt64) fun v73 =>
nm (lg_cmp v72 v73) fun v74 =>
if v74 = 0 then
b_L_law_381 e0 mi xs L9 b9 k23 x23_1 x23_2 x23_3 x23_4 σ70
else
some (0, σ70)
else
b_L_law_381 e0 mi xs L9 b9 k23 x23_1 x23_2 x23_3 x23_4 σ70
else
some (0, σ70)
else if v16 = 3 then
nm (x23_4 + 1) fun v75 =>
sX xs L9 v75 fun v76 =>
cl1 (f_L_spray x23_1 v76 x23_3 σ) fun v77 σ78 =>
nm (x23_4 + 1) fun v79 =>
sX xs L9 v79 fun v80 =>
ob 10 σ78 x23_2 fun h83 => cl1 (f_X8_spray h83 v80 σ78) fun v81 σ82 =>
ob 10 σ82 x23_2 fun h86 => cl1 (f_X8_thrown h86 σ82) fun v84 σ85 =>
if v84 = v77 then
if v77 = 0 then
aJ σ85 x23_3 0 fun v87 =>
nm (v81.toInt64) fun v88 =>
nm (lg_cmp v87 v88) fun v89 =>
if v89 = 0 then
b_L_law_437 e0 mi xs L9 b9 k23 x23_1 x23_2 x23_3 x23_4 σ85
else
some (0, σ85)
else
b_L_law_437 e0 mi xs L9 b9 k23 x23_1 x23_2 x23_3 x23_4 σ85
else
some (0, σ85)
else if v16 = 4 then
nm (x23_4 + 1) fun v90 =>
sX xs L9 v90 fun v91 =>
nm (x23_4 + 2) fun v92 =>
sX xs L9 v92 fun v93 =>
nm (x23_4 + 3) fun v94 =>
sX xs L9 v94 fun v95 =>
cl1 (f_L_pluck x23_1 v91 v93 v95 x23_3 σ) fun v96 σ97 =>
nm (x23_4 + 1) fun v98 =>
sX xs L9 v98 fun v99 =>
nm (x23_4 + 2) fun v100 =>
sX xs L9 v100 fun v101 =>
nm (x23_4 + 3) fun v102 =>
sX xs L9 v102 fun v103 =>
ob 10 σ97 x23_2 fun h106 => cl1 (f_X8_pluck e0 mi h106 v99 v101 v103 σ97) fun v104 σ105 =>
ob 10 σ105 x23_2 fun h109 => cl1 (f_X8_thrown h109 σ105) fun v107 σ108 =>
if v107 = v96 then
if v96 = 0 then
aJ σ108 x23_3 0 fun v110 =>
nm (v104.toInt64) fun v111 =>
nm (lg_cmp v110 v111) fun v112 =>
if v112 = 0 then
b_L_law_517 e0 mi xs L9 b9 k23 x23_1 x23_2 x23_3 x23_4 σ108
else
some (0, σ108)
else
b_L_law_517 e0 mi xs L9 b9 k23 x23_1 x23_2 x23_3 x23_4 σ108
else
some (0, σ108)
else if v16 = 5 then
nm (x23_4 + 1) fun v113 =>
sX xs L9 v113 fun v114 =>
nm (x23_4 + 2) fun v115 =>
sX xs L9 v115 fun v116 =>
cl1 (f_L_join x23_1 v114 v116 x23_3 σ) fun v117 σ118 =>
nm (x23_4 + 1) fun v119 =>
sX xs L9 v119 fun v120 =>
nm (x23_4 + 2) fun v121 =>
sX xs L9 v121 fun v122 =>
ob 10 σ118 x23_2 fun h125 => cl1 (f_X8_join h125 v120 v122 σ118) fun v123 σ124 =>
ob 10 σ124 x23_2 fun h128 => cl1 (f_X8_thrown h128 σ124) fun v126 σ127 =>
if v126 = v117 then
if v117 = 0 then
aJ σ127 x23_3 0 fun v129 =>
nm (v123.toInt64) fun v130 =>
nm (lg_cmp v129 v130) fun v131 =>
if v131 = 0 then
b_L_law_585 e0 mi xs L9 b9 k23 x23_1 x23_2 x23_3 x23_4 σ127
else
some (0, σ127)
else
b_L_law_585 e0 mi xs L9 b9 k23 x23_1 x23_2 x23_3 x23_4 σ127
else
some (0, σ127)
else if v16 = 6 then
nm (x23_4 + 1) fun v132 =>
sX xs L9 v132 fun v133 =>
nm (x23_4 + 2) fun v134 =>
sX xs L9 v134 fun v135 =>
nm (x23_4 + 3) fun v136 =>
sX xs L9 v136 fun v137 =>
cl1 (f_L_wither x23_1 v133 v135 v137 x23_3 σ) fun v138 σ139 =>
nm (x23_4 + 1) fun v140 =>
sX xs L9 v140 fun v141 =>
nm (x23_4 + 2) fun v142 =>
sX xs L9 v142 fun v143 =>
nm (x23_4 + 3) fun v144 =>
sX xs L9 v144 fun v145 =>
ob 10 σ139 x23_2 fun h148 => cl1 (f_X8_wither h148 v141 v143 v145 σ139) fun v146 σ147 =>
ob 10 σ147 x23_2 fun h151 => cl1 (f_X8_thrown h151 σ147) fun v149 σ150 =>
if v149 = v138 then
if v138 = 0 then
aJ σ150 x23_3 0 fun v152 =>
nm (v146.toInt64) fun v153 =>
nm (lg_cmp v152 v153) fun v154 =>
if v154 = 0 then
b_L_law_665 e0 mi xs L9 b9 k23 x23_1 x23_2 x23_3 x23_4 σ150
else
some (0, σ150)
else
b_L_law_665 e0 mi xs L9 b9 k23 x23_1 x23_2 x23_3 x23_4 σ150
else
some (0, σ150)
else if v16 = 7 then
nm (x23_4 + 1) fun v155 =>
sX xs L9 v155 fun v156 =>
cl1 (f_L_kill x23_1 v156 x23_3 σ) fun v157 σ158 =>
nm (x23_4 + 1) fun v159 =>
sX xs L9 v159 fun v160 =>
ob 10 σ158 x23_2 fun h163 => cl1 (f_X8_kill h163 v160 σ158) fun v161 σ162 =>
ob 10 σ162 x23_2 fun h166 => cl1 (f_X8_thrown h166 σ162) fun v164 σ165 =>
if v164 = v157 then
if v157 = 0 then
aJ σ165 x23_3 0 fun v167 =>
nm (v161.toInt64) fun v168 =>
nm (lg_cmp v167 v168) fun v169 =>
if v169 = 0 then
b_L_law_721 e0 mi xs L9 b9 k23 x23_1 x23_2 x23_3 x23_4 σ165
else
some (0, σ165)
else
b_L_law_721 e0 mi xs L9 b9 k23 x23_1 x23_2 x23_3 x23_4 σ165
else
some (0, σ165)
else if v16 = 8 then
nm (x23_4 + 1) fun v170 =>
sX xs L9 v170 fun v171 =>
nm (x23_4 + 2) fun v172 =>
sX xs L9 v172 fun v173 =>
cl1 (f_L_roll x23_1 v171 v173 x23_3 σ) fun v174 σ175 =>
nm (x23_4 + 1) fun v176 =>
sX xs L9 v176 fun v177 =>
nm (x23_4 + 2) fun v178 =>
sX xs L9 v178 fun v179 =>
ob 10 σ175 x23_2 fun h182 => cl1 (f_X8_roll h182 v177 v179 σ175) fun v180 σ181 =>
ob 10 σ181 x23_2 fun h185 => cl1 (f_X8_thrown h185 σ181) fun v183 σ184 =>
if v183 = v174 then
if v174 = 0 then
aJ σ184 x23_3 0 fun v186 =>
nm (v180.toInt64) fun v187 =>
nm (lg_cmp v186 v187) fun v188 =>
if v188 = 0 then
b_L_law_789 e0 mi xs L9 b9 k23 x23_1 x23_2 x23_3 x23_4 σ184
else
some (0, σ184)
else
b_L_law_789 e0 mi xs L9 b9 k23 x23_1 x23_2 x23_3 x23_4 σ184
else
some (0, σ184)
else if v16 = 9 then
nm (x23_4 + 1) fun v189 =>
sX xs L9 v189 fun v190 =>
nm (x23_4 + 2) fun v191 =>
sX xs L9 v191 fun v192 =>
nm (x23_4 + 3) fun v193 =>
sX xs L9 v193 fun v194 =>
cl1 (f_L_rest x23_1 v190 v192 v194 x23_3 σ) fun v195 σ196 =>
nm (x23_4 + 1) fun v197 =>
sX xs L9 v197 fun v198 =>
nm (x23_4 + 2) fun v199 =>
sX xs L9 v199 fun v200 =>
nm (x23_4 + 3) fun v201 =>
sX xs L9 v201 fun v202 =>
ob 10 σ196 x23_2 fun h205 => cl1 (f_X8_rest h205 v198 v200 v202 σ196) fun v203 σ204 =>
ob 10 σ204 x23_2 fun h208 => cl1 (f_X8_thrown h208 σ204) fun v206 σ207 =>
if v206 = v195 then
if v195 = 0 then
aJ σ207 x23_3 0 fun v209 =>
nm (v203.toInt64) fun v210 =>
nm (lg_cmp v209 v210) fun v211 =>
if v211 = 0 then
b_L_law_869 e0 mi xs L9 b9 k23 x23_1 x23_2 x23_3 x23_4 σ207
else
some (0, σ207)
else
b_L_law_869 e0 mi xs L9 b9 k23 x23_1 x23_2 x23_3 x23_4 σ207
else
some (0, σ207)
else if v16 = 10 then
nm (x23_4 + 1) fun v212 =>
sX xs L9 v212 fun v213 =>
nm (x23_4 + 2) fun v214 =>
sX xs L9 v214 fun v215 =>
nm (x23_4 + 3) fun v216 =>
sX xs L9 v216 fun v217 =>
cl1 (f_L_fire x23_1 v213 v215 v217 x23_3 σ) fun v218 σ219 =>
nm (x23_4 + 1) fun v220 =>
sX xs L9 v220 fun v221 =>
nm (x23_4 + 2) fun v222 =>
sX xs L9 v222 fun v223 =>
nm (x23_4 + 3) fun v224 =>
sX xs L9 v224 fun v225 =>
ob 10 σ219 x23_2 fun h228 => cl1 (f_X8_fire h228 v221 v223 v225 σ219) fun v226 σ227 =>
ob 10 σ227 x23_2 fun h231 => cl1 (f_X8_thrown h231 σ227) fun v229 σ230 =>
if v229 = v218 then
if v218 = 0 then
aJ σ230 x23_3 0 fun v232 =>
nm (v226.toInt64) fun v233 =>
nm (lg_cmp v232 v233) fun v234 =>
if v234 = 0 then
b_L_law_949 e0 mi xs L9 b9 k23 x23_1 x23_2 x23_3 x23_4 σ230
else
some (0, σ230)
else
b_L_law_949 e0 mi xs L9 b9 k23 x23_1 x23_2 x23_3 x23_4 σ230
else
some (0, σ230)
else if v16 = 11 then
nm (x23_4 + 1) fun v235 =>
sX xs L9 v235 fun v236 =>
cl1 (f_L_sort x23_1 v236 x23_3 σ) fun v237 σ238 =>
nm (x23_4 + 1) fun v239 =>
sX xs L9 v239 fun v240 =>
ob 10 σ238 x23_2 fun h243 => cl1 (f_X8_sort e0 mi h243 v240 σ238) fun v241 σ242 =>
ob 10 σ242 x23_2 fun h246 => cl1 (f_X8_thrown h246 σ242) fun v244 σ245 =>
if v244 = v237 then
if v237 = 0 then
aJ σ245 x23_3 0 fun v247 =>
nm (v241.toInt64) fun v248 =>
nm (lg_cmp v247 v248) fun v249 =>
if v249 = 0 then
b_L_law_1005 e0 mi xs L9 b9 k23 x23_1 x23_2 x23_3 x23_4 σ245
else
some (0, σ245)
else
b_L_law_1005 e0 mi xs L9 b9 k23 x23_1 x23_2 x23_3 x23_4 σ245
else
some (0, σ245)
else if v16 = 12 then
nm (x23_4 + 1) fun v250 =>
sX xs L9 v250 fun v251 =>
nm (x23_4 + 2) fun v252 =>
sX xs L9 v252 fun v253 =>
nm (x23_4 + 3) fun v254 =>
sX xs L9 v254 fun v255 =>
nm (x23_4 + 4) fun v256 =>
sX xs L9 v256 fun v257 =>
cl1 (f_L_mix x23_1 v251 v253 v255 v257 x23_3 σ) fun v258 σ259 =>
nm (x23_4 + 1) fun v260 =>
sX xs L9 v260 fun v261 =>
nm (x23_4 + 2) fun v262 =>
sX xs L9 v262 fun v263 =>
nm (x23_4 + 3) fun v264 =>
sX xs L9 v264 fun v265 =>
nm (x23_4 + 4) fun v266 =>
sX xs L9 v266 fun v267 =>
ob 10 σ259 x23_2 fun h270 => cl1 (f_X8_mix e0 mi h270 v261 v263 v265 v267 σ259) fun v268 σ269 =>
ob 10 σ269 x23_2 fun h273 => cl1 (f_X8_thrown h273 σ269) fun v271 σ272 =>
if v271 = v258 then
if v258 = 0 then
aJ σ272 x23_3 0 fun v274 =>
nm (v268.toInt64) fun v275 =>
nm (lg_cmp v274 v275) fun v276 =>
if v276 = 0 then
b_L_law_1097 e0 mi xs L9 b9 k23 x23_1 x23_2 x23_3 x23_4 σ272
else
some (0, σ272)
else
b_L_law_1097 e0 mi xs L9 b9 k23 x23_1 x23_2 x23_3 x23_4 σ272
else
some (0, σ272)
else if v16 = 13 then
nm (x23_4 + 1) fun v277 =>
sX xs L9 v277 fun v278 =>
nm (x23_4 + 2) fun v279 =>
sX xs L9 v279 fun v280 =>
cl1 (f_L_lean x23_1 v278 v280 x23_3 σ) fun v281 σ282 =>
nm (x23_4 + 1) fun v283 =>
sX xs L9 v283 fun v284 =>
nm (x23_4 + 2) fun v285 =>
sX xs L9 v285 fun v286 =>
ob 10 σ282 x23_2 fun h289 => cl1 (f_X8_lean h289 v284 v286 σ282) fun v287 σ288 =>
ob 10 σ288 x23_2 fun h292 => cl1 (f_X8_thrown h292 σ288) fun v290 σ291 =>
if v290 = v281 then
if v281 = 0 then
aJ σ291 x23_3 0 fun v293 =>
nm (v287.toInt64) fun v294 =>
nm (lg_cmp v293 v294) fun v295 =>
if v295 = 0 then
b_L_law_1165 e0 mi xs L9 b9 k23 x23_1 x23_2 x23_3 x23_4 σ291
else
some (0, σ291)
else
b_L_law_1165 e0 mi xs L9 b9 k23 x23_1 x23_2 x23_3 x23_4 σ291
else
some (0, σ291)
else if v16 = 14 then
nm (x23_4 + 1) fun v296 =>
sX xs L9 v296 fun v297 =>
nm (x23_4 + 2) fun v298 =>
sX xs L9 v298 fun v299 =>
cl1 (f_L_repeat x23_1 v297 v299 x23_3 σ) fun v300 σ301 =>
nm (x23_4 + 1) fun v302 =>
sX xs L9 v302 fun v303 =>
nm (x23_4 + 2) fun v304 =>
sX xs L9 v304 fun v305 =>
ob 10 σ301 x23_2 fun h308 => cl1 (f_X8_repeat h308 v303 v305 σ301) fun v306 σ307 =>
ob 10 σ307 x23_2 fun h311 => cl1 (f_X8_thrown h311 σ307) fun v309 σ310 =>
if v309 = v300 then
if v300 = 0 then
aJ σ310 x23_3 0 fun v312 =>
nm (v306.toInt64) fun v313 =>
nm (lg_cmp v312 v313) fun v314 =>
if v314 = 0 then
b_L_law_1233 e0 mi xs L9 b9 k23 x23_1 x23_2 x23_3 x23_4 σ310
else
some (0, σ310)
else
b_L_law_1233 e0 mi xs L9 b9 k23 x23_1 x23_2 x23_3 x23_4 σ310
else
some (0, σ310)
else if v16 = 15 then
nm (x23_4 + 1) fun v315 =>
sX xs L9 v315 fun v316 =>
nm (x23_4 + 2) fun v317 =>
sX xs L9 v317 fun v318 =>
cl1 (f_L_purse x23_1 v316 v318 x23_3 σ) fun v319 σ320 =>
nm (x23_4 + 1) fun v321 =>
sX xs L9 v321 fun v322 =>
nm (x23_4 + 2) fun v323 =>
sX xs L9 v323 fun v324 =>
ob 10 σ320 x23_2 fun h327 => cl1 (f_X8_purse h327 v322 v324 σ320) fun v325 σ326 =>
ob 10 σ326 x23_2 fun h330 => cl1 (f_X8_thrown h330 σ326) fun v328 σ329 =>
if v328 = v319 then
if v319 = 0 then
aJ σ329 x23_3 0 fun v331 =>
nm (v325.toInt64) fun v332 =>
nm (lg_cmp v331 v332) fun v333 =>
if v333 = 0 then
b_L_law_1301 e0 mi xs L9 b9 k23 x23_1 x23_2 x23_3 x23_4 σ329
else
some (0, σ329)
else
b_L_law_1301 e0 mi xs L9 b9 k23 x23_1 x23_2 x23_3 x23_4 σ329
else
some (0, σ329)
else if v16 = 16 then
nm (x23_4 + 1) fun v334 =>
sX xs L9 v334 fun v335 =>
nm (x23_4 + 2) fun v336 =>
sX xs L9 v336 fun v337 =>
cl1 (f_L_offer x23_1 v335 v337 x23_3 σ) fun v338 σ339 =>
nm (x23_4 + 1) fun v340 =>
sX xs L9 v340 fun v341 =>
nm (x23_4 + 2) fun v342 =>
sX xs L9 v342 fun v343 =>
ob 10 σ339 x23_2 fun h346 => cl1 (f_X8_offer e0 mi h346 v341 v343 σ339) fun v344 σ345 =>
ob 10 σ345 x23_2 fun h349 => cl1 (f_X8_thrown h349 σ345) fun v347 σ348 =>
if v347 = v338 then
if v338 = 0 then
aJ σ348 x23_3 0 fun v350 =>
nm (v344.toInt64) fun v351 =>
nm (lg_cmp v350 v351) fun v352 =>
if v352 = 0 then
b_L_law_1369 e0 mi xs L9 b9 k23 x23_1 x23_2 x23_3 x23_4 σ348
else
some (0, σ348)
else
b_L_law_1369 e0 mi xs L9 b9 k23 x23_1 x23_2 x23_3 x23_4 σ348
else
some (0, σ348)
else if v16 = 17 then
nm (x23_4 + 1) fun v353 =>
sX xs L9 v353 fun v354 =>
nm (x23_4 + 2) fun v355 =>
sX xs L9 v355 fun v356 =>
nm (x23_4 + 3) fun v357 =>
sX xs L9 v357 fun v358 =>
cl1 (f_L_bid x23_1 v354 v356 v358 x23_3 σ) fun v359 σ360 =>
nm (x23_4 + 1) fun v361 =>
sX xs L9 v361 fun v362 =>
nm (x23_4 + 2) fun v363 =>
sX xs L9 v363 fun v364 =>
nm (x23_4 + 3) fun v365 =>
sX xs L9 v365 fun v366 =>
ob 10 σ360 x23_2 fun h369 => cl1 (f_X8_bid e0 mi h369 v362 v364 v366 σ360) fun v367 σ368 =>
ob 10 σ368 x23_2 fun h372 => cl1 (f_X8_thrown h372 σ368) fun v370 σ371 =>
if v370 = v359 then
if v359 = 0 then
aJ σ371 x23_3 0 fun v373 =>
nm (v367.toInt64) fun v374 =>
nm (lg_cmp v373 v374) fun v375 =>
if v375 = 0 then
b_L_law_1449 e0 mi xs L9 b9 k23 x23_1 x23_2 x23_3 x23_4 σ371
else
some (0, σ371)
else
b_L_law_1449 e0 mi xs L9 b9 k23 x23_1 x23_2 x23_3 x23_4 σ371
else
some (0, σ371)
else if v16 = 18 then
nm (x23_4 + 1) fun v376 =>
sX xs L9 v376 fun v377 =>
cl1 (f_L_knock x23_1 v377 x23_3 σ) fun v378 σ379 =>
nm (x23_4 + 1) fun v380 =>
sX xs L9 v380 fun v381 =>
ob 10 σ379 x23_2 fun h384 => cl1 (f_X8_knock e0 mi h384 v381 σ379) fun v382 σ383 =>
ob 10 σ383 x23_2 fun h387 => cl1 (f_X8_thrown h387 σ383) fun v385 σ386 =>
if v385 = v378 then
if v378 = 0 then
aJ σ386 x23_3 0 fun v388 =>
nm (v382.toInt64) fun v389 =>
nm (lg_cmp v388 v389) fun v390 =>
if v390 = 0 then
b_L_law_1505 e0 mi xs L9 b9 k23 x23_1 x23_2 x23_3 x23_4 σ386
else
some (0, σ386)
else
b_L_law_1505 e0 mi xs L9 b9 k23 x23_1 x23_2 x23_3 x23_4 σ386
else
some (0, σ386)
else if v16 = 19 then
nm (x23_4 + 1) fun v391 =>
sX xs L9 v391 fun v392 =>
nm (x23_4 + 2) fun v393 =>
sX xs L9 v393 fun v394 =>
cl1 (f_L_ofSection x23_1 v392 v394 x23_3 σ) fun v395 σ396 =>
nm (x23_4 + 1) fun v397 =>
sX xs L9 v397 fun v398 =>
nm (x23_4 + 2) fun v399 =>
sX xs L9 v399 fun v400 =>
ob 10 σ396 x23_2 fun h403 => cl1 (f_X8_ofSection h403 v398 v400 σ396) fun v401 σ402 =>
ob 10 σ402 x23_2 fun h406 => cl1 (f_X8_thrown h406 σ402) fun v404 σ405 =>
if v404 = v395 then
if v395 = 0 then
aJ σ405 x23_3 0 fun v407 =>
nm (v401.toInt64) fun v408 =>
nm (lg_cmp v407 v408) fun v409 =>
if v409 = 0 then
b_L_law_1573 e0 mi xs L9 b9 k23 x23_1 x23_2 x23_3 x23_4 σ405
else
some (0, σ405)
else
b_L_law_1573 e0 mi xs L9 b9 k23 x23_1 x23_2 x23_3 x23_4 σ405
else
some (0, σ405)
else if v16 = 20 then
nm (x23_4 + 1) fun v410 =>
sX xs L9 v410 fun v411 =>
nm (x23_4 + 2) fun v412 =>
sX xs L9 v412 fun v413 =>
cl1 (f_L_ofLot x23_1 v411 v413 x23_3 σ) fun v414 σ415 =>
nm (x23_4 + 1) fun v416 =>
sX xs L9 v416 fun v417 =>
nm (x23_4 + 2) fun v418 =>
sX xs L9 v418 fun v419 =>
ob 10 σ415 x23_2 fun h422 => cl1 (f_X8_ofLot h422 v417 v419 σ415) fun v420 σ421 =>
ob 10 σ421 x23_2 fun h425 => cl1 (f_X8_thrown h425 σ421) fun v423 σ424 =>
if v423 = v414 then
if v414 = 0 then
aJ σ424 x23_3 0 fun v426 =>
nm (v420.toInt64) fun v427 =>
nm (lg_cmp v426 v427) fun v428 =>
if v428 = 0 then
b_L_law_1641 e0 mi xs L9 b9 k23 x23_1 x23_2 x23_3 x23_4 σ424
else
some (0, σ424)
else
b_L_law_1641 e0 mi xs L9 b9 k23 x23_1 x23_2 x23_3 x23_4 σ424
else
some (0, σ424)
else if v16 = 21 then
nm (x23_4 + 1) fun v429 =>
sX xs L9 v429 fun v430 =>
nm (x23_4 + 2) fun v431 =>
sX xs L9 v431 fun v432 =>
cl1 (f_L_note x23_1 v430 v432 x23_3 σ) fun v433 σ434 =>
nm (x23_4 + 1) fun v435 =>
sX xs L9 v435 fun v436 =>
nm (x23_4 + 2) fun v437 =>
sX xs L9 v437 fun v438 =>
ob 10 σ434 x23_2 fun h441 => cl1 (f_X8_note h441 v436 v438 σ434) fun v439 σ440 =>
ob 10 σ440 x23_2 fun h444 => cl1 (f_X8_thrown h444 σ440) fun v442 σ443 =>
if v442 = v433 then
if v433 = 0 then
aJ σ443 x23_3 0 fun v445 =>
nm (v439.toInt64) fun v446 =>
nm (lg_cmp v445 v446) fun v447 =>
if v447 = 0 then
b_L_law_1709 e0 mi xs L9 b9 k23 x23_1 x23_2 x23_3 x23_4 σ443
else
some (0, σ443)
else
b_L_law_1709 e0 mi xs L9 b9 k23 x23_1 x23_2 x23_3 x23_4 σ443
else
some (0, σ443)
else if v16 = 22 then
nm (x23_4 + 1) fun v448 =>
sX xs L9 v448 fun v449 =>
nm (x23_4 + 2) fun v450 =>
sX xs L9 v450 fun v451 =>
cl1 (f_L_taste x23_1 v449 v451 x23_3 σ) fun v452 σ453 =>
nm (x23_4 + 1) fun v454 =>
sX xs L9 v454 fun v455 =>
nm (x23_4 + 2) fun v456 =>
sX xs L9 v456 fun v457 =>
ob 10 σ453 x23_2 fun h460 => cl1 (f_X8_taste h460 v455 v457 σ453) fun v458 σ459 =>
ob 10 σ459 x23_2 fun h463 => cl1 (f_X8_thrown h463 σ459) fun v461 σ462 =>
if v461 = v452 then
if v452 = 0 then
aJ σ462 x23_3 0 fun v464 =>
nm (v458.toInt64) fun v465 =>
nm (lg_cmp v464 v465) fun v466 =>
if v466 = 0 then
b_L_law_1777 e0 mi xs L9 b9 k23 x23_1 x23_2 x23_3 x23_4 σ462
else
some (0, σ462)
else
b_L_law_1777 e0 mi xs L9 b9 k23 x23_1 x23_2 x23_3 x23_4 σ462
else
some (0, σ462)
else if v16 = 23 then
nm (x23_4 + 1) fun v467 =>
sX xs L9 v467 fun v468 =>
nm (x23_4 + 2) fun v469 =>
sX xs L9 v469 fun v470 =>
cl1 (f_L_ofTaster x23_1 v468 v470 x23_3 σ) fun v471 σ472 =>
nm (x23_4 + 1) fun v473 =>
sX xs L9 v473 fun v474 =>
nm (x23_4 + 2) fun v475 =>
sX xs L9 v475 fun v476 =>
ob 10 σ472 x23_2 fun h479 => cl1 (f_X8_ofTaster h479 v474 v476 σ472) fun v477 σ478 =>
ob 10 σ478 x23_2 fun h482 => cl1 (f_X8_thrown h482 σ478) fun v480 σ481 =>
if v480 = v471 then
if v471 = 0 then
aJ σ481 x23_3 0 fun v483 =>
nm (v477.toInt64) fun v484 =>
nm (lg_cmp v483 v484) fun v485 =>
if v485 = 0 then
b_L_law_1845 e0 mi xs L9 b9 k23 x23_1 x23_2 x23_3 x23_4 σ481
else
some (0, σ481)
else
b_L_law_1845 e0 mi xs L9 b9 k23 x23_1 x23_2 x23_3 x23_4 σ481
else
some (0, σ481)
else if v16 = 24 then
nm (x23_4 + 1) fun v486 =>
sX xs L9 v486 fun v487 =>
nm (x23_4 + 2) fun v488 =>
sX xs L9 v488 fun v489 =>
cl1 (f_L_bidOf x23_1 v487 v489 x23_3 σ) fun v490 σ491 =>
nm (x23_4 + 1) fun v492 =>
sX xs L9 v492 fun v493 =>
nm (x23_4 + 2) fun v494 =>
sX xs L9 v494 fun v495 =>
ob 10 σ491 x23_2 fun h498 => cl1 (f_X8_bidOf e0 mi h498 v493 v495 σ491) fun v496 σ497 =>
ob 10 σ497 x23_2 fun h501 => cl1 (f_X8_thrown h501 σ497) fun v499 σ500 =>
if v499 = v490 then
if v490 = 0 then
aJ σ500 x23_3 0 fun v502 =>
nm (v496.toInt64) fun v503 =>
nm (lg_cmp v502 v503) fun v504 =>
if v504 = 0 then
b_L_law_1913 e0 mi xs L9 b9 k23 x23_1 x23_2 x23_3 x23_4 σ500
else
some (0, σ500)
else
b_L_law_1913 e0 mi xs L9 b9 k23 x23_1 x23_2 x23_3 x23_4 σ500
else
some (0, σ500)
else if v16 = 25 then
nm (x23_4 + 1) fun v505 =>
sX xs L9 v505 fun v506 =>
cl1 (f_L_many x23_1 v506 x23_3 σ) fun v507 σ508 =>
nm (x23_4 + 1) fun v509 =>
sX xs L9 v509 fun v510 =>
ob 10 σ508 x23_2 fun h513 => cl1 (f_X8_many e0 mi h513 v510 σ508) fun v511 σ512 =>
ob 10 σ512 x23_2 fun h516 => cl1 (f_X8_thrown h516 σ512) fun v514 σ515 =>
if v514 = v507 then
if v507 = 0 then
aJ σ515 x23_3 0 fun v517 =>
nm (v511.toInt64) fun v518 =>
nm (lg_cmp v517 v518) fun v519 =>
if v519 = 0 then
b_L_law_1969 e0 mi xs L9 b9 k23 x23_1 x23_2 x23_3 x23_4 σ515
else
some (0, σ515)
else
b_L_law_1969 e0 mi xs L9 b9 k23 x23_1 x23_2 x23_3 x23_4 σ515
else
some (0, σ515)
else if v16 = 26 then
ob 6 σ x23_1 fun h522 => cl1 (f_X4_meanNotes h522 σ) fun v520 σ521 =>
ob 10 σ521 x23_2 fun h525 => cl1 (f_X8_meanNotes e0 mi h525 σ521) fun v523 σ524 =>
nm (Op.cmpValue (FP.dcmp v520 v523) .l) fun v526 =>
if v526 = 0 then
b_L_law_2010 e0 mi xs L9 b9 k23 x23_1 x23_2 x23_3 x23_4 σ524
else
nm (Op.cmpValue (FP.dcmp v520 v520) .l) fun v527 =>
if v527 = 0 then
b_L_law_2008 e0 mi xs L9 b9 σ524
else
nm (Op.cmpValue (FP.dcmp v523 v523) .l) fun v528 =>
if v528 = 0 then
b_L_law_2008 e0 mi xs L9 b9 σ524
else
b_L_law_2010 e0 mi xs L9 b9 k23 x23_1 x23_2 x23_3 x23_4 σ524
else if v16 = 27 then
nm (x23_4 + 1) fun v529 =>
sX xs L9 v529 fun v530 =>
nm (x23_4 + 2) fun v531 =>
sX xs L9 v531 fun v532 =>
nm (x23_4 + 3) fun v533 =>
sX xs L9 v533 fun v534 =>
cl1 (f_L_flushIn x23_1 v530 v532 v534 x23_3 σ) fun v535 σ536 =>
nm (x23_4 + 1) fun v537 =>
sX xs L9 v537 fun v538 =>
nm (x23_4 + 2) fun v539 =>
sX xs L9 v539 fun v540 =>
nm (x23_4 + 3) fun v541 =>
sX xs L9 v541 fun v542 =>
ob 10 σ536 x23_2 fun h545 => cl1 (f_X8_flushIn h545 v538 v540 v542 σ536) fun v543 σ544 =>
ob 10 σ544 x23_2 fun h548 => cl1 (f_X8_thrown h548 σ544) fun v546 σ547 =>
if v546 = v535 then
if v535 = 0 then
aJ σ547 x23_3 0 fun v549 =>
nm (v543.toInt64) fun v550 =>
nm (lg_cmp v549 v550) fun v551 =>
if v551 = 0 then
b_L_law_2090 e0 mi xs L9 b9 k23 x23_1 x23_2 x23_3 x23_4 σ547
else
some (0, σ547)
else
b_L_law_2090 e0 mi xs L9 b9 k23 x23_1 x23_2 x23_3 x23_4 σ547
else
some (0, σ547)
else if v16 = 28 then
nm (x23_4 + 1) fun v552 =>
sX xs L9 v552 fun v553 =>
cl1 (f_L_bestFire x23_1 v553 x23_3 σ) fun v554 σ555 =>
nm (x23_4 + 1) fun v556 =>
sX xs L9 v556 fun v557 =>
ob 10 σ555 x23_2 fun h560 => cl1 (f_X8_bestFire e0 mi h560 v557 σ555) fun v558 σ559 =>
ob 10 σ559 x23_2 fun h563 => cl1 (f_X8_thrown h563 σ559) fun v561 σ562 =>
if v561 = v554 then
if v554 = 0 then
aJ σ562 x23_3 0 fun v564 =>
nm (v558.toInt64) fun v565 =>
nm (lg_cmp v564 v565) fun v566 =>
if v566 = 0 then
b_L_law_2146 e0 mi xs L9 b9 k23 x23_1 x23_2 x23_3 x23_4 σ562
else
some (0, σ562)
else
b_L_law_2146 e0 mi xs L9 b9 k23 x23_1 x23_2 x23_3 x23_4 σ562
else
some (0, σ562)
else if v16 = 29 then
nm (x23_4 + 1) fun v567 =>
sX xs L9 v567 fun v568 =>
nm (x23_4 + 2) fun v569 =>
sX xs L9 v569 fun v570 =>
nm (x23_4 + 3) fun v571 =>
sX xs L9 v571 fun v572 =>
cl1 (f_L_bestMix x23_1 v568 v570 v572 x23_3 σ) fun v573 σ574 =>
nm (x23_4 + 1) fun v575 =>
sX xs L9 v575 fun v576 =>
nm (x23_4 + 2) fun v577 =>
sX xs L9 v577 fun v578 =>
nm (x23_4 + 3) fun v579 =>
sX xs L9 v579 fun v580 =>
ob 10 σ574 x23_2 fun h583 => cl1 (f_X8_bestMix h583 v576 v578 v580 σ574) fun v581 σ582 =>
ob 10 σ582 x23_2 fun h586 => cl1 (f_X8_thrown h586 σ582) fun v584 σ585 =>
if v584 = v573 then
if v573 = 0 then
aJ σ585 x23_3 0 fun v587 =>
nm (v581.toInt64) fun v588 =>
nm (lg_cmp v587 v588) fun v589 =>
if v589 = 0 then
b_L_law_2226 e0 mi xs L9 b9 k23 x23_1 x23_2 x23_3 x23_4 σ585
else
some (0, σ585)
else
b_L_law_2226 e0 mi xs L9 b9 k23 x23_1 x23_2 x23_3 x23_4 σ585
else
some (0, σ585)
else if v16 = 30 then
nm (x23_4 + 1) fun v590 =>
sX xs L9 v590 fun v591 =>
cl1 (f_L_wouldPay x23_1 v591 x23_3 σ) fun v592 σ593 =>
nm (x23_4 + 1) fun v594 =>
sX xs L9 v594 fun v595 =>
ob 10 σ593 x23_2 fun h598 => cl1 (f_X8_wouldPay e0 mi h598 v595 σ593) fun v596 σ597 =>
ob 10 σ597 x23_2 fun h601 => cl1 (f_X8_thrown h601 σ597) fun v599 σ600 =>
if v599 = v592 then
if v592 = 0 then
aJ σ600 x23_3 0 fun v602 =>
nm (v596.toInt64) fun v603 =>
nm (lg_cmp v602 v603) fun v604 =>
if v604 = 0 then
b_L_law_2282 e0 mi xs L9 b9 k23 x23_1 x23_2 x23_3 x23_4 σ600
else
some (0, σ600)
else
b_L_law_2282 e0 mi xs L9 b9 k23 x23_1 x23_2 x23_3 x23_4 σ600
else
some (0, σ600)
else if v16 = 31 then
ob 6 σ x23_1 fun h607 => cx1 (f_X4_digest h607 σ) (fun v605 σ606 =>
ob 10 σ606 x23_2 fun h610 => cl1 (f_X8_digest e0 mi h610 σ606) fun v608 σ609 =>
nm (lg_cmp v605 v608) fun v611 =>
if v611 = 0 then
b_L_law_2299 e0 mi xs L9 b9 k23 x23_1 x23_2 x23_3 x23_4 σ609
else
some (0, σ609)) (fun _ _ => none)
else 
b_L_law_2299 e0 mi xs L9 b9 k23 x23_1 x23_2 x23_3 x23_4 σ

noncomputable def l_L_law_23 (e0 mi : Nat) (xs : Nat → Int32) (L9 b9 : Nat) (n : Nat) : (Option Nat) → (Option Nat) → (Option Nat) → Int32 → Mem → Option ((Int32) × Mem) := itr (fun _ _ _ _ _ => none) (fun k => b_L_law_23 e0 mi xs L9 b9  k) n

noncomputable def b_L_law_0 (e0 mi : Nat) (xs : Nat → Int32) (L9 b9 : Nat) (σ : Mem) : Option ((Int32) × Mem) :=
nO 6 σ fun σ1 r2 =>
ob 6 σ1 r2 fun h5 => cl1 (f_X4_init h5 σ1) fun _ σ4 =>
nO 10 σ4 fun σ6 r7 =>
ob 10 σ6 r7 fun h10 => cl1 (f_X8_init e0 mi h10 σ6) fun _ σ9 =>
nA 1 1 σ9 1 fun σ11 r12 =>
l_L_law_23 e0 mi xs L9 b9 514 r2 r7 r12 0 σ11

noncomputable def f_L_law (e0 mi : Nat) (xs : Nat → Int32) (L9 b9 : Nat) (σ : Mem) : Option ((Int32) × Mem) := b_L_law_0 e0 mi xs L9 b9  σ
set_option maxRecDepth 100000 in
set_option maxHeartbeats 4000000 in
theorem t_L_law_2299 {C : Cxt} {G : Glb} {xs : Nat → Int32} {L9 b9 : Nat} (hC : CX C G RL cL_law 9 ret 14 686331 7037111 554) (hX : Scr C G b9 L9 xs) (P23 : Nat → Nat → Prop) (hm23 : ∀ a b a2 b2 : Nat, a ≤ a2 → b ≤ b2 → P23 a2 b2 → P23 a b) (k23 : (Option Nat) → (Option Nat) → (Option Nat) → Int32 → Mem → Option ((Int32) × Mem)) (hk23 : ∀ (x23_1 : (Option Nat)) (x23_2 : (Option Nat)) (x23_3 : (Option Nat)) (x23_4 : Int32) (σ : Mem) (kc ks : Nat), P23 kc ks → Wo C G 9 (QL C b9) (k23 x23_1 x23_2 x23_3 x23_4 σ) σ kc ks 23 [(0, va_rf (some b9)), (1, va_rf x23_1), (2, va_rf x23_2), (3, va_rf x23_3), (4, .int x23_4)] []) (x2299_1 : (Option Nat)) (x2299_2 : (Option Nat)) (x2299_3 : (Option Nat)) (x2299_4 : Int32) (σ : Mem) (kc ks : Nat) (hN : kc + 0 ≤ 686331 ∧ ks + 0 ≤ 7037111) (hP23 : P23 (kc + 0) (ks + 0)) : Wo C G 9 (QL C b9) (b_L_law_2299 G.2.2.2.1 G.2.2.2.2 xs L9 b9 k23 x2299_1 x2299_2 x2299_3 x2299_4 σ) σ kc ks 2299 [(0, va_rf (some b9)), (1, va_rf x2299_1), (2, va_rf x2299_2), (3, va_rf x2299_3), (4, .int x2299_4)] [] := by
  unfold b_L_law_2299
  refine r_iinc hC 4 (fun w => [(4, .int w), (0, va_rf (some b9)), (1, va_rf x2299_1), (2, va_rf x2299_2), (3, va_rf x2299_3)]) 5 rfl (by decide) rfl (fun w => by simp [List.filter, cat_rf, cat_i, cat_j, cat_d, cat_a]) dL_law_2299 (fun v33 => ?_)
  refine r_goto hC 23 dL_law_2302 (by decide) ?_
  refine Wo.sub [1, 2, 3, 4, 0] rfl ?_
  exact hk23 x2299_1 x2299_2 x2299_3 v33 σ _ _ (hm23 _ _ _ _ (by omega) (by omega) hP23)

set_option maxRecDepth 100000 in
set_option maxHeartbeats 4000000 in
theorem t_L_law_245 {C : Cxt} {G : Glb} {xs : Nat → Int32} {L9 b9 : Nat} (hC : CX C G RL cL_law 9 ret 14 686331 7037111 554) (hX : Scr C G b9 L9 xs) (P23 : Nat → Nat → Prop) (hm23 : ∀ a b a2 b2 : Nat, a ≤ a2 → b ≤ b2 → P23 a2 b2 → P23 a b) (k23 : (Option Nat) → (Option Nat) → (Option Nat) → Int32 → Mem → Option ((Int32) × Mem)) (hk23 : ∀ (x23_1 : (Option Nat)) (x23_2 : (Option Nat)) (x23_3 : (Option Nat)) (x23_4 : Int32) (σ : Mem) (kc ks : Nat), P23 kc ks → Wo C G 9 (QL C b9) (k23 x23_1 x23_2 x23_3 x23_4 σ) σ kc ks 23 [(0, va_rf (some b9)), (1, va_rf x23_1), (2, va_rf x23_2), (3, va_rf x23_3), (4, .int x23_4)] []) (x245_1 : (Option Nat)) (x245_2 : (Option Nat)) (x245_3 : (Option Nat)) (x245_4 : Int32) (σ : Mem) (kc ks : Nat) (hN : kc + 0 ≤ 686331 ∧ ks + 0 ≤ 7037111) (hP23 : P23 (kc + 0) (ks + 0)) : Wo C G 9 (QL C b9) (b_L_law_245 G.2.2.2.1 G.2.2.2.2 xs L9 b9 k23 x245_1 x245_2 x245_3 x245_4 σ) σ kc ks 245 [(0, va_rf (some b9)), (1, va_rf x245_1), (2, va_rf x245_2), (3, va_rf x245_3), (4, .int x245_4)] [] := by
  unfold b_L_law_245
  refine r_goto hC 2299 dL_law_245 (by decide) ?_
  exact t_L_law_2299 hC hX P23 hm23 k23 hk23 x245_1 x245_2 x245_3 x245_4 σ _ _ ⟨by omega, by omega⟩ (hm23 _ _ _ _ (by omega) (by omega) hP23)

set_option maxRecDepth 100000 in
set_option maxHeartbeats 4000000 in
theorem t_L_law_325 {C : Cxt} {G : Glb} {xs : Nat → Int32} {L9 b9 : Nat} (hC : CX C G RL cL_law 9 ret 14 686331 7037111 554) (hX : Scr C G b9 L9 xs) (P23 : Nat → Nat → Prop) (hm23 : ∀ a b a2 b2 : Nat, a ≤ a2 → b ≤ b2 → P23 a2 b2 → P23 a b) (k23 : (Option Nat) → (Option Nat) → (Option Nat) → Int32 → Mem → Option ((Int32) × Mem)) (hk23 : ∀ (x23_1 : (Option Nat)) (x23_2 : (Option Nat)) (x23_3 : (Option Nat)) (x23_4 : Int32) (σ : Mem) (kc ks : Nat), P23 kc ks → Wo C G 9 (QL C b9) (k23 x23_1 x23_2 x23_3 x23_4 σ) σ kc ks 23 [(0, va_rf (some b9)), (1, va_rf x23_1), (2, va_rf x23_2), (3, va_rf x23_3), (4, .int x23_4)] []) (x325_1 : (Option Nat)) (x325_2 : (Option Nat)) (x325_3 : (Option Nat)) (x325_4 : Int32) (σ : Mem) (kc ks : Nat) (hN : kc + 0 ≤ 686331 ∧ ks + 0 ≤ 7037111) (hP23 : P23 (kc + 0) (ks + 0)) : Wo C G 9 (QL C b9) (b_L_law_325 G.2.2.2.1 G.2.2.2.2 xs L9 b9 k23 x325_1 x325_2 x325_3 x325_4 σ) σ kc ks 325 [(0, va_rf (some b9)), (1, va_rf x325_1), (2, va_rf x325_2), (3, va_rf x325_3), (4, .int x325_4)] [] := by
  unfold b_L_law_325
  refine r_goto hC 2299 dL_law_325 (by decide) ?_
  exact t_L_law_2299 hC hX P23 hm23 k23 hk23 x325_1 x325_2 x325_3 x325_4 σ _ _ ⟨by omega, by omega⟩ (hm23 _ _ _ _ (by omega) (by omega) hP23)

set_option maxRecDepth 100000 in
set_option maxHeartbeats 4000000 in
theorem t_L_law_381 {C : Cxt} {G : Glb} {xs : Nat → Int32} {L9 b9 : Nat} (hC : CX C G RL cL_law 9 ret 14 686331 7037111 554) (hX : Scr C G b9 L9 xs) (P23 : Nat → Nat → Prop) (hm23 : ∀ a b a2 b2 : Nat, a ≤ a2 → b ≤ b2 → P23 a2 b2 → P23 a b) (k23 : (Option Nat) → (Option Nat) → (Option Nat) → Int32 → Mem → Option ((Int32) × Mem)) (hk23 : ∀ (x23_1 : (Option Nat)) (x23_2 : (Option Nat)) (x23_3 : (Option Nat)) (x23_4 : Int32) (σ : Mem) (kc ks : Nat), P23 kc ks → Wo C G 9 (QL C b9) (k23 x23_1 x23_2 x23_3 x23_4 σ) σ kc ks 23 [(0, va_rf (some b9)), (1, va_rf x23_1), (2, va_rf x23_2), (3, va_rf x23_3), (4, .int x23_4)] []) (x381_1 : (Option Nat)) (x381_2 : (Option Nat)) (x381_3 : (Option Nat)) (x381_4 : Int32) (σ : Mem) (kc ks : Nat) (hN : kc + 0 ≤ 686331 ∧ ks + 0 ≤ 7037111) (hP23 : P23 (kc + 0) (ks + 0)) : Wo C G 9 (QL C b9) (b_L_law_381 G.2.2.2.1 G.2.2.2.2 xs L9 b9 k23 x381_1 x381_2 x381_3 x381_4 σ) σ kc ks 381 [(0, va_rf (some b9)), (1, va_rf x381_1), (2, va_rf x381_2), (3, va_rf x381_3), (4, .int x381_4)] [] := by
  unfold b_L_law_381
  refine r_goto hC 2299 dL_law_381 (by decide) ?_
  exact t_L_law_2299 hC hX P23 hm23 k23 hk23 x381_1 x381_2 x381_3 x381_4 σ _ _ ⟨by omega, by omega⟩ (hm23 _ _ _ _ (by omega) (by omega) hP23)

set_option maxRecDepth 100000 in
set_option maxHeartbeats 4000000 in
theorem t_L_law_437 {C : Cxt} {G : Glb} {xs : Nat → Int32} {L9 b9 : Nat} (hC : CX C G RL cL_law 9 ret 14 686331 7037111 554) (hX : Scr C G b9 L9 xs) (P23 : Nat → Nat → Prop) (hm23 : ∀ a b a2 b2 : Nat, a ≤ a2 → b ≤ b2 → P23 a2 b2 → P23 a b) (k23 : (Option Nat) → (Option Nat) → (Option Nat) → Int32 → Mem → Option ((Int32) × Mem)) (hk23 : ∀ (x23_1 : (Option Nat)) (x23_2 : (Option Nat)) (x23_3 : (Option Nat)) (x23_4 : Int32) (σ : Mem) (kc ks : Nat), P23 kc ks → Wo C G 9 (QL C b9) (k23 x23_1 x23_2 x23_3 x23_4 σ) σ kc ks 23 [(0, va_rf (some b9)), (1, va_rf x23_1), (2, va_rf x23_2), (3, va_rf x23_3), (4, .int x23_4)] []) (x437_1 : (Option Nat)) (x437_2 : (Option Nat)) (x437_3 : (Option Nat)) (x437_4 : Int32) (σ : Mem) (kc ks : Nat) (hN : kc + 0 ≤ 686331 ∧ ks + 0 ≤ 7037111) (hP23 : P23 (kc + 0) (ks + 0)) : Wo C G 9 (QL C b9) (b_L_law_437 G.2.2.2.1 G.2.2.2.2 xs L9 b9 k23 x437_1 x437_2 x437_3 x437_4 σ) σ kc ks 437 [(0, va_rf (some b9)), (1, va_rf x437_1), (2, va_rf x437_2), (3, va_rf x437_3), (4, .int x437_4)] [] := by
  unfold b_L_law_437
  refine r_goto hC 2299 dL_law_437 (by decide) ?_
  exact t_L_law_2299 hC hX P23 hm23 k23 hk23 x437_1 x437_2 x437_3 x437_4 σ _ _ ⟨by omega, by omega⟩ (hm23 _ _ _ _ (by omega) (by omega) hP23)

set_option maxRecDepth 100000 in
set_option maxHeartbeats 4000000 in
theorem t_L_law_517 {C : Cxt} {G : Glb} {xs : Nat → Int32} {L9 b9 : Nat} (hC : CX C G RL cL_law 9 ret 14 686331 7037111 554) (hX : Scr C G b9 L9 xs) (P23 : Nat → Nat → Prop) (hm23 : ∀ a b a2 b2 : Nat, a ≤ a2 → b ≤ b2 → P23 a2 b2 → P23 a b) (k23 : (Option Nat) → (Option Nat) → (Option Nat) → Int32 → Mem → Option ((Int32) × Mem)) (hk23 : ∀ (x23_1 : (Option Nat)) (x23_2 : (Option Nat)) (x23_3 : (Option Nat)) (x23_4 : Int32) (σ : Mem) (kc ks : Nat), P23 kc ks → Wo C G 9 (QL C b9) (k23 x23_1 x23_2 x23_3 x23_4 σ) σ kc ks 23 [(0, va_rf (some b9)), (1, va_rf x23_1), (2, va_rf x23_2), (3, va_rf x23_3), (4, .int x23_4)] []) (x517_1 : (Option Nat)) (x517_2 : (Option Nat)) (x517_3 : (Option Nat)) (x517_4 : Int32) (σ : Mem) (kc ks : Nat) (hN : kc + 0 ≤ 686331 ∧ ks + 0 ≤ 7037111) (hP23 : P23 (kc + 0) (ks + 0)) : Wo C G 9 (QL C b9) (b_L_law_517 G.2.2.2.1 G.2.2.2.2 xs L9 b9 k23 x517_1 x517_2 x517_3 x517_4 σ) σ kc ks 517 [(0, va_rf (some b9)), (1, va_rf x517_1), (2, va_rf x517_2), (3, va_rf x517_3), (4, .int x517_4)] [] := by
  unfold b_L_law_517
  refine r_goto hC 2299 dL_law_517 (by decide) ?_
  exact t_L_law_2299 hC hX P23 hm23 k23 hk23 x517_1 x517_2 x517_3 x517_4 σ _ _ ⟨by omega, by omega⟩ (hm23 _ _ _ _ (by omega) (by omega) hP23)

set_option maxRecDepth 100000 in
set_option maxHeartbeats 4000000 in
theorem t_L_law_585 {C : Cxt} {G : Glb} {xs : Nat → Int32} {L9 b9 : Nat} (hC : CX C G RL cL_law 9 ret 14 686331 7037111 554) (hX : Scr C G b9 L9 xs) (P23 : Nat → Nat → Prop) (hm23 : ∀ a b a2 b2 : Nat, a ≤ a2 → b ≤ b2 → P23 a2 b2 → P23 a b) (k23 : (Option Nat) → (Option Nat) → (Option Nat) → Int32 → Mem → Option ((Int32) × Mem)) (hk23 : ∀ (x23_1 : (Option Nat)) (x23_2 : (Option Nat)) (x23_3 : (Option Nat)) (x23_4 : Int32) (σ : Mem) (kc ks : Nat), P23 kc ks → Wo C G 9 (QL C b9) (k23 x23_1 x23_2 x23_3 x23_4 σ) σ kc ks 23 [(0, va_rf (some b9)), (1, va_rf x23_1), (2, va_rf x23_2), (3, va_rf x23_3), (4, .int x23_4)] []) (x585_1 : (Option Nat)) (x585_2 : (Option Nat)) (x585_3 : (Option Nat)) (x585_4 : Int32) (σ : Mem) (kc ks : Nat) (hN : kc + 0 ≤ 686331 ∧ ks + 0 ≤ 7037111) (hP23 : P23 (kc + 0) (ks + 0)) : Wo C G 9 (QL C b9) (b_L_law_585 G.2.2.2.1 G.2.2.2.2 xs L9 b9 k23 x585_1 x585_2 x585_3 x585_4 σ) σ kc ks 585 [(0, va_rf (some b9)), (1, va_rf x585_1), (2, va_rf x585_2), (3, va_rf x585_3), (4, .int x585_4)] [] := by
  unfold b_L_law_585
  refine r_goto hC 2299 dL_law_585 (by decide) ?_
  exact t_L_law_2299 hC hX P23 hm23 k23 hk23 x585_1 x585_2 x585_3 x585_4 σ _ _ ⟨by omega, by omega⟩ (hm23 _ _ _ _ (by omega) (by omega) hP23)

set_option maxRecDepth 100000 in
set_option maxHeartbeats 4000000 in
theorem t_L_law_665 {C : Cxt} {G : Glb} {xs : Nat → Int32} {L9 b9 : Nat} (hC : CX C G RL cL_law 9 ret 14 686331 7037111 554) (hX : Scr C G b9 L9 xs) (P23 : Nat → Nat → Prop) (hm23 : ∀ a b a2 b2 : Nat, a ≤ a2 → b ≤ b2 → P23 a2 b2 → P23 a b) (k23 : (Option Nat) → (Option Nat) → (Option Nat) → Int32 → Mem → Option ((Int32) × Mem)) (hk23 : ∀ (x23_1 : (Option Nat)) (x23_2 : (Option Nat)) (x23_3 : (Option Nat)) (x23_4 : Int32) (σ : Mem) (kc ks : Nat), P23 kc ks → Wo C G 9 (QL C b9) (k23 x23_1 x23_2 x23_3 x23_4 σ) σ kc ks 23 [(0, va_rf (some b9)), (1, va_rf x23_1), (2, va_rf x23_2), (3, va_rf x23_3), (4, .int x23_4)] []) (x665_1 : (Option Nat)) (x665_2 : (Option Nat)) (x665_3 : (Option Nat)) (x665_4 : Int32) (σ : Mem) (kc ks : Nat) (hN : kc + 0 ≤ 686331 ∧ ks + 0 ≤ 7037111) (hP23 : P23 (kc + 0) (ks + 0)) : Wo C G 9 (QL C b9) (b_L_law_665 G.2.2.2.1 G.2.2.2.2 xs L9 b9 k23 x665_1 x665_2 x665_3 x665_4 σ) σ kc ks 665 [(0, va_rf (some b9)), (1, va_rf x665_1), (2, va_rf x665_2), (3, va_rf x665_3), (4, .int x665_4)] [] := by
  unfold b_L_law_665
  refine r_goto hC 2299 dL_law_665 (by decide) ?_
  exact t_L_law_2299 hC hX P23 hm23 k23 hk23 x665_1 x665_2 x665_3 x665_4 σ _ _ ⟨by omega, by omega⟩ (hm23 _ _ _ _ (by omega) (by omega) hP23)

set_option maxRecDepth 100000 in
set_option maxHeartbeats 4000000 in
theorem t_L_law_721 {C : Cxt} {G : Glb} {xs : Nat → Int32} {L9 b9 : Nat} (hC : CX C G RL cL_law 9 ret 14 686331 7037111 554) (hX : Scr C G b9 L9 xs) (P23 : Nat → Nat → Prop) (hm23 : ∀ a b a2 b2 : Nat, a ≤ a2 → b ≤ b2 → P23 a2 b2 → P23 a b) (k23 : (Option Nat) → (Option Nat) → (Option Nat) → Int32 → Mem → Option ((Int32) × Mem)) (hk23 : ∀ (x23_1 : (Option Nat)) (x23_2 : (Option Nat)) (x23_3 : (Option Nat)) (x23_4 : Int32) (σ : Mem) (kc ks : Nat), P23 kc ks → Wo C G 9 (QL C b9) (k23 x23_1 x23_2 x23_3 x23_4 σ) σ kc ks 23 [(0, va_rf (some b9)), (1, va_rf x23_1), (2, va_rf x23_2), (3, va_rf x23_3), (4, .int x23_4)] []) (x721_1 : (Option Nat)) (x721_2 : (Option Nat)) (x721_3 : (Option Nat)) (x721_4 : Int32) (σ : Mem) (kc ks : Nat) (hN : kc + 0 ≤ 686331 ∧ ks + 0 ≤ 7037111) (hP23 : P23 (kc + 0) (ks + 0)) : Wo C G 9 (QL C b9) (b_L_law_721 G.2.2.2.1 G.2.2.2.2 xs L9 b9 k23 x721_1 x721_2 x721_3 x721_4 σ) σ kc ks 721 [(0, va_rf (some b9)), (1, va_rf x721_1), (2, va_rf x721_2), (3, va_rf x721_3), (4, .int x721_4)] [] := by
  unfold b_L_law_721
  refine r_goto hC 2299 dL_law_721 (by decide) ?_
  exact t_L_law_2299 hC hX P23 hm23 k23 hk23 x721_1 x721_2 x721_3 x721_4 σ _ _ ⟨by omega, by omega⟩ (hm23 _ _ _ _ (by omega) (by omega) hP23)

set_option maxRecDepth 100000 in
set_option maxHeartbeats 4000000 in
theorem t_L_law_789 {C : Cxt} {G : Glb} {xs : Nat → Int32} {L9 b9 : Nat} (hC : CX C G RL cL_law 9 ret 14 686331 7037111 554) (hX : Scr C G b9 L9 xs) (P23 : Nat → Nat → Prop) (hm23 : ∀ a b a2 b2 : Nat, a ≤ a2 → b ≤ b2 → P23 a2 b2 → P23 a b) (k23 : (Option Nat) → (Option Nat) → (Option Nat) → Int32 → Mem → Option ((Int32) × Mem)) (hk23 : ∀ (x23_1 : (Option Nat)) (x23_2 : (Option Nat)) (x23_3 : (Option Nat)) (x23_4 : Int32) (σ : Mem) (kc ks : Nat), P23 kc ks → Wo C G 9 (QL C b9) (k23 x23_1 x23_2 x23_3 x23_4 σ) σ kc ks 23 [(0, va_rf (some b9)), (1, va_rf x23_1), (2, va_rf x23_2), (3, va_rf x23_3), (4, .int x23_4)] []) (x789_1 : (Option Nat)) (x789_2 : (Option Nat)) (x789_3 : (Option Nat)) (x789_4 : Int32) (σ : Mem) (kc ks : Nat) (hN : kc + 0 ≤ 686331 ∧ ks + 0 ≤ 7037111) (hP23 : P23 (kc + 0) (ks + 0)) : Wo C G 9 (QL C b9) (b_L_law_789 G.2.2.2.1 G.2.2.2.2 xs L9 b9 k23 x789_1 x789_2 x789_3 x789_4 σ) σ kc ks 789 [(0, va_rf (some b9)), (1, va_rf x789_1), (2, va_rf x789_2), (3, va_rf x789_3), (4, .int x789_4)] [] := by
  unfold b_L_law_789
  refine r_goto hC 2299 dL_law_789 (by decide) ?_
  exact t_L_law_2299 hC hX P23 hm23 k23 hk23 x789_1 x789_2 x789_3 x789_4 σ _ _ ⟨by omega, by omega⟩ (hm23 _ _ _ _ (by omega) (by omega) hP23)

set_option maxRecDepth 100000 in
set_option maxHeartbeats 4000000 in
theorem t_L_law_869 {C : Cxt} {G : Glb} {xs : Nat → Int32} {L9 b9 : Nat} (hC : CX C G RL cL_law 9 ret 14 686331 7037111 554) (hX : Scr C G b9 L9 xs) (P23 : Nat → Nat → Prop) (hm23 : ∀ a b a2 b2 : Nat, a ≤ a2 → b ≤ b2 → P23 a2 b2 → P23 a b) (k23 : (Option Nat) → (Option Nat) → (Option Nat) → Int32 → Mem → Option ((Int32) × Mem)) (hk23 : ∀ (x23_1 : (Option Nat)) (x23_2 : (Option Nat)) (x23_3 : (Option Nat)) (x23_4 : Int32) (σ : Mem) (kc ks : Nat), P23 kc ks → Wo C G 9 (QL C b9) (k23 x23_1 x23_2 x23_3 x23_4 σ) σ kc ks 23 [(0, va_rf (some b9)), (1, va_rf x23_1), (2, va_rf x23_2), (3, va_rf x23_3), (4, .int x23_4)] []) (x869_1 : (Option Nat)) (x869_2 : (Option Nat)) (x869_3 : (Option Nat)) (x869_4 : Int32) (σ : Mem) (kc ks : Nat) (hN : kc + 0 ≤ 686331 ∧ ks + 0 ≤ 7037111) (hP23 : P23 (kc + 0) (ks + 0)) : Wo C G 9 (QL C b9) (b_L_law_869 G.2.2.2.1 G.2.2.2.2 xs L9 b9 k23 x869_1 x869_2 x869_3 x869_4 σ) σ kc ks 869 [(0, va_rf (some b9)), (1, va_rf x869_1), (2, va_rf x869_2), (3, va_rf x869_3), (4, .int x869_4)] [] := by
  unfold b_L_law_869
  refine r_goto hC 2299 dL_law_869 (by decide) ?_
  exact t_L_law_2299 hC hX P23 hm23 k23 hk23 x869_1 x869_2 x869_3 x869_4 σ _ _ ⟨by omega, by omega⟩ (hm23 _ _ _ _ (by omega) (by omega) hP23)

set_option maxRecDepth 100000 in
set_option maxHeartbeats 4000000 in
theorem t_L_law_949 {C : Cxt} {G : Glb} {xs : Nat → Int32} {L9 b9 : Nat} (hC : CX C G RL cL_law 9 ret 14 686331 7037111 554) (hX : Scr C G b9 L9 xs) (P23 : Nat → Nat → Prop) (hm23 : ∀ a b a2 b2 : Nat, a ≤ a2 → b ≤ b2 → P23 a2 b2 → P23 a b) (k23 : (Option Nat) → (Option Nat) → (Option Nat) → Int32 → Mem → Option ((Int32) × Mem)) (hk23 : ∀ (x23_1 : (Option Nat)) (x23_2 : (Option Nat)) (x23_3 : (Option Nat)) (x23_4 : Int32) (σ : Mem) (kc ks : Nat), P23 kc ks → Wo C G 9 (QL C b9) (k23 x23_1 x23_2 x23_3 x23_4 σ) σ kc ks 23 [(0, va_rf (some b9)), (1, va_rf x23_1), (2, va_rf x23_2), (3, va_rf x23_3), (4, .int x23_4)] []) (x949_1 : (Option Nat)) (x949_2 : (Option Nat)) (x949_3 : (Option Nat)) (x949_4 : Int32) (σ : Mem) (kc ks : Nat) (hN : kc + 0 ≤ 686331 ∧ ks + 0 ≤ 7037111) (hP23 : P23 (kc + 0) (ks + 0)) : Wo C G 9 (QL C b9) (b_L_law_949 G.2.2.2.1 G.2.2.2.2 xs L9 b9 k23 x949_1 x949_2 x949_3 x949_4 σ) σ kc ks 949 [(0, va_rf (some b9)), (1, va_rf x949_1), (2, va_rf x949_2), (3, va_rf x949_3), (4, .int x949_4)] [] := by
  unfold b_L_law_949
  refine r_goto hC 2299 dL_law_949 (by decide) ?_
  exact t_L_law_2299 hC hX P23 hm23 k23 hk23 x949_1 x949_2 x949_3 x949_4 σ _ _ ⟨by omega, by omega⟩ (hm23 _ _ _ _ (by omega) (by omega) hP23)

set_option maxRecDepth 100000 in
set_option maxHeartbeats 4000000 in
theorem t_L_law_1005 {C : Cxt} {G : Glb} {xs : Nat → Int32} {L9 b9 : Nat} (hC : CX C G RL cL_law 9 ret 14 686331 7037111 554) (hX : Scr C G b9 L9 xs) (P23 : Nat → Nat → Prop) (hm23 : ∀ a b a2 b2 : Nat, a ≤ a2 → b ≤ b2 → P23 a2 b2 → P23 a b) (k23 : (Option Nat) → (Option Nat) → (Option Nat) → Int32 → Mem → Option ((Int32) × Mem)) (hk23 : ∀ (x23_1 : (Option Nat)) (x23_2 : (Option Nat)) (x23_3 : (Option Nat)) (x23_4 : Int32) (σ : Mem) (kc ks : Nat), P23 kc ks → Wo C G 9 (QL C b9) (k23 x23_1 x23_2 x23_3 x23_4 σ) σ kc ks 23 [(0, va_rf (some b9)), (1, va_rf x23_1), (2, va_rf x23_2), (3, va_rf x23_3), (4, .int x23_4)] []) (x1005_1 : (Option Nat)) (x1005_2 : (Option Nat)) (x1005_3 : (Option Nat)) (x1005_4 : Int32) (σ : Mem) (kc ks : Nat) (hN : kc + 0 ≤ 686331 ∧ ks + 0 ≤ 7037111) (hP23 : P23 (kc + 0) (ks + 0)) : Wo C G 9 (QL C b9) (b_L_law_1005 G.2.2.2.1 G.2.2.2.2 xs L9 b9 k23 x1005_1 x1005_2 x1005_3 x1005_4 σ) σ kc ks 1005 [(0, va_rf (some b9)), (1, va_rf x1005_1), (2, va_rf x1005_2), (3, va_rf x1005_3), (4, .int x1005_4)] [] := by
  unfold b_L_law_1005
  refine r_goto hC 2299 dL_law_1005 (by decide) ?_
  exact t_L_law_2299 hC hX P23 hm23 k23 hk23 x1005_1 x1005_2 x1005_3 x1005_4 σ _ _ ⟨by omega, by omega⟩ (hm23 _ _ _ _ (by omega) (by omega) hP23)

set_option maxRecDepth 100000 in
set_option maxHeartbeats 4000000 in
theorem t_L_law_1097 {C : Cxt} {G : Glb} {xs : Nat → Int32} {L9 b9 : Nat} (hC : CX C G RL cL_law 9 ret 14 686331 7037111 554) (hX : Scr C G b9 L9 xs) (P23 : Nat → Nat → Prop) (hm23 : ∀ a b a2 b2 : Nat, a ≤ a2 → b ≤ b2 → P23 a2 b2 → P23 a b) (k23 : (Option Nat) → (Option Nat) → (Option Nat) → Int32 → Mem → Option ((Int32) × Mem)) (hk23 : ∀ (x23_1 : (Option Nat)) (x23_2 : (Option Nat)) (x23_3 : (Option Nat)) (x23_4 : Int32) (σ : Mem) (kc ks : Nat), P23 kc ks → Wo C G 9 (QL C b9) (k23 x23_1 x23_2 x23_3 x23_4 σ) σ kc ks 23 [(0, va_rf (some b9)), (1, va_rf x23_1), (2, va_rf x23_2), (3, va_rf x23_3), (4, .int x23_4)] []) (x1097_1 : (Option Nat)) (x1097_2 : (Option Nat)) (x1097_3 : (Option Nat)) (x1097_4 : Int32) (σ : Mem) (kc ks : Nat) (hN : kc + 0 ≤ 686331 ∧ ks + 0 ≤ 7037111) (hP23 : P23 (kc + 0) (ks + 0)) : Wo C G 9 (QL C b9) (b_L_law_1097 G.2.2.2.1 G.2.2.2.2 xs L9 b9 k23 x1097_1 x1097_2 x1097_3 x1097_4 σ) σ kc ks 1097 [(0, va_rf (some b9)), (1, va_rf x1097_1), (2, va_rf x1097_2), (3, va_rf x1097_3), (4, .int x1097_4)] [] := by
  unfold b_L_law_1097
  refine r_goto hC 2299 dL_law_1097 (by decide) ?_
  exact t_L_law_2299 hC hX P23 hm23 k23 hk23 x1097_1 x1097_2 x1097_3 x1097_4 σ _ _ ⟨by omega, by omega⟩ (hm23 _ _ _ _ (by omega) (by omega) hP23)

set_option maxRecDepth 100000 in
set_option maxHeartbeats 4000000 in
theorem t_L_law_1165 {C : Cxt} {G : Glb} {xs : Nat → Int32} {L9 b9 : Nat} (hC : CX C G RL cL_law 9 ret 14 686331 7037111 554) (hX : Scr C G b9 L9 xs) (P23 : Nat → Nat → Prop) (hm23 : ∀ a b a2 b2 : Nat, a ≤ a2 → b ≤ b2 → P23 a2 b2 → P23 a b) (k23 : (Option Nat) → (Option Nat) → (Option Nat) → Int32 → Mem → Option ((Int32) × Mem)) (hk23 : ∀ (x23_1 : (Option Nat)) (x23_2 : (Option Nat)) (x23_3 : (Option Nat)) (x23_4 : Int32) (σ : Mem) (kc ks : Nat), P23 kc ks → Wo C G 9 (QL C b9) (k23 x23_1 x23_2 x23_3 x23_4 σ) σ kc ks 23 [(0, va_rf (some b9)), (1, va_rf x23_1), (2, va_rf x23_2), (3, va_rf x23_3), (4, .int x23_4)] []) (x1165_1 : (Option Nat)) (x1165_2 : (Option Nat)) (x1165_3 : (Option Nat)) (x1165_4 : Int32) (σ : Mem) (kc ks : Nat) (hN : kc + 0 ≤ 686331 ∧ ks + 0 ≤ 7037111) (hP23 : P23 (kc + 0) (ks + 0)) : Wo C G 9 (QL C b9) (b_L_law_1165 G.2.2.2.1 G.2.2.2.2 xs L9 b9 k23 x1165_1 x1165_2 x1165_3 x1165_4 σ) σ kc ks 1165 [(0, va_rf (some b9)), (1, va_rf x1165_1), (2, va_rf x1165_2), (3, va_rf x1165_3), (4, .int x1165_4)] [] := by
  unfold b_L_law_1165
  refine r_goto hC 2299 dL_law_1165 (by decide) ?_
  exact t_L_law_2299 hC hX P23 hm23 k23 hk23 x1165_1 x1165_2 x1165_3 x1165_4 σ _ _ ⟨by omega, by omega⟩ (hm23 _ _ _ _ (by omega) (by omega) hP23)

set_option maxRecDepth 100000 in
set_option maxHeartbeats 4000000 in
theorem t_L_law_1233 {C : Cxt} {G : Glb} {xs : Nat → Int32} {L9 b9 : Nat} (hC : CX C G RL cL_law 9 ret 14 686331 7037111 554) (hX : Scr C G b9 L9 xs) (P23 : Nat → Nat → Prop) (hm23 : ∀ a b a2 b2 : Nat, a ≤ a2 → b ≤ b2 → P23 a2 b2 → P23 a b) (k23 : (Option Nat) → (Option Nat) → (Option Nat) → Int32 → Mem → Option ((Int32) × Mem)) (hk23 : ∀ (x23_1 : (Option Nat)) (x23_2 : (Option Nat)) (x23_3 : (Option Nat)) (x23_4 : Int32) (σ : Mem) (kc ks : Nat), P23 kc ks → Wo C G 9 (QL C b9) (k23 x23_1 x23_2 x23_3 x23_4 σ) σ kc ks 23 [(0, va_rf (some b9)), (1, va_rf x23_1), (2, va_rf x23_2), (3, va_rf x23_3), (4, .int x23_4)] []) (x1233_1 : (Option Nat)) (x1233_2 : (Option Nat)) (x1233_3 : (Option Nat)) (x1233_4 : Int32) (σ : Mem) (kc ks : Nat) (hN : kc + 0 ≤ 686331 ∧ ks + 0 ≤ 7037111) (hP23 : P23 (kc + 0) (ks + 0)) : Wo C G 9 (QL C b9) (b_L_law_1233 G.2.2.2.1 G.2.2.2.2 xs L9 b9 k23 x1233_1 x1233_2 x1233_3 x1233_4 σ) σ kc ks 1233 [(0, va_rf (some b9)), (1, va_rf x1233_1), (2, va_rf x1233_2), (3, va_rf x1233_3), (4, .int x1233_4)] [] := by
  unfold b_L_law_1233
  refine r_goto hC 2299 dL_law_1233 (by decide) ?_
  exact t_L_law_2299 hC hX P23 hm23 k23 hk23 x1233_1 x1233_2 x1233_3 x1233_4 σ _ _ ⟨by omega, by omega⟩ (hm23 _ _ _ _ (by omega) (by omega) hP23)

set_option maxRecDepth 100000 in
set_option maxHeartbeats 4000000 in
theorem t_L_law_1301 {C : Cxt} {G : Glb} {xs : Nat → Int32} {L9 b9 : Nat} (hC : CX C G RL cL_law 9 ret 14 686331 7037111 554) (hX : Scr C G b9 L9 xs) (P23 : Nat → Nat → Prop) (hm23 : ∀ a b a2 b2 : Nat, a ≤ a2 → b ≤ b2 → P23 a2 b2 → P23 a b) (k23 : (Option Nat) → (Option Nat) → (Option Nat) → Int32 → Mem → Option ((Int32) × Mem)) (hk23 : ∀ (x23_1 : (Option Nat)) (x23_2 : (Option Nat)) (x23_3 : (Option Nat)) (x23_4 : Int32) (σ : Mem) (kc ks : Nat), P23 kc ks → Wo C G 9 (QL C b9) (k23 x23_1 x23_2 x23_3 x23_4 σ) σ kc ks 23 [(0, va_rf (some b9)), (1, va_rf x23_1), (2, va_rf x23_2), (3, va_rf x23_3), (4, .int x23_4)] []) (x1301_1 : (Option Nat)) (x1301_2 : (Option Nat)) (x1301_3 : (Option Nat)) (x1301_4 : Int32) (σ : Mem) (kc ks : Nat) (hN : kc + 0 ≤ 686331 ∧ ks + 0 ≤ 7037111) (hP23 : P23 (kc + 0) (ks + 0)) : Wo C G 9 (QL C b9) (b_L_law_1301 G.2.2.2.1 G.2.2.2.2 xs L9 b9 k23 x1301_1 x1301_2 x1301_3 x1301_4 σ) σ kc ks 1301 [(0, va_rf (some b9)), (1, va_rf x1301_1), (2, va_rf x1301_2), (3, va_rf x1301_3), (4, .int x1301_4)] [] := by
  unfold b_L_law_1301
  refine r_goto hC 2299 dL_law_1301 (by decide) ?_
  exact t_L_law_2299 hC hX P23 hm23 k23 hk23 x1301_1 x1301_2 x1301_3 x1301_4 σ _ _ ⟨by omega, by omega⟩ (hm23 _ _ _ _ (by omega) (by omega) hP23)

set_option maxRecDepth 100000 in
set_option maxHeartbeats 4000000 in
theorem t_L_law_1369 {C : Cxt} {G : Glb} {xs : Nat → Int32} {L9 b9 : Nat} (hC : CX C G RL cL_law 9 ret 14 686331 7037111 554) (hX : Scr C G b9 L9 xs) (P23 : Nat → Nat → Prop) (hm23 : ∀ a b a2 b2 : Nat, a ≤ a2 → b ≤ b2 → P23 a2 b2 → P23 a b) (k23 : (Option Nat) → (Option Nat) → (Option Nat) → Int32 → Mem → Option ((Int32) × Mem)) (hk23 : ∀ (x23_1 : (Option Nat)) (x23_2 : (Option Nat)) (x23_3 : (Option Nat)) (x23_4 : Int32) (σ : Mem) (kc ks : Nat), P23 kc ks → Wo C G 9 (QL C b9) (k23 x23_1 x23_2 x23_3 x23_4 σ) σ kc ks 23 [(0, va_rf (some b9)), (1, va_rf x23_1), (2, va_rf x23_2), (3, va_rf x23_3), (4, .int x23_4)] []) (x1369_1 : (Option Nat)) (x1369_2 : (Option Nat)) (x1369_3 : (Option Nat)) (x1369_4 : Int32) (σ : Mem) (kc ks : Nat) (hN : kc + 0 ≤ 686331 ∧ ks + 0 ≤ 7037111) (hP23 : P23 (kc + 0) (ks + 0)) : Wo C G 9 (QL C b9) (b_L_law_1369 G.2.2.2.1 G.2.2.2.2 xs L9 b9 k23 x1369_1 x1369_2 x1369_3 x1369_4 σ) σ kc ks 1369 [(0, va_rf (some b9)), (1, va_rf x1369_1), (2, va_rf x1369_2), (3, va_rf x1369_3), (4, .int x1369_4)] [] := by
  unfold b_L_law_1369
  refine r_goto hC 2299 dL_law_1369 (by decide) ?_
  exact t_L_law_2299 hC hX P23 hm23 k23 hk23 x1369_1 x1369_2 x1369_3 x1369_4 σ _ _ ⟨by omega, by omega⟩ (hm23 _ _ _ _ (by omega) (by omega) hP23)

set_option maxRecDepth 100000 in
set_option maxHeartbeats 4000000 in
theorem t_L_law_1449 {C : Cxt} {G : Glb} {xs : Nat → Int32} {L9 b9 : Nat} (hC : CX C G RL cL_law 9 ret 14 686331 7037111 554) (hX : Scr C G b9 L9 xs) (P23 : Nat → Nat → Prop) (hm23 : ∀ a b a2 b2 : Nat, a ≤ a2 → b ≤ b2 → P23 a2 b2 → P23 a b) (k23 : (Option Nat) → (Option Nat) → (Option Nat) → Int32 → Mem → Option ((Int32) × Mem)) (hk23 : ∀ (x23_1 : (Option Nat)) (x23_2 : (Option Nat)) (x23_3 : (Option Nat)) (x23_4 : Int32) (σ : Mem) (kc ks : Nat), P23 kc ks → Wo C G 9 (QL C b9) (k23 x23_1 x23_2 x23_3 x23_4 σ) σ kc ks 23 [(0, va_rf (some b9)), (1, va_rf x23_1), (2, va_rf x23_2), (3, va_rf x23_3), (4, .int x23_4)] []) (x1449_1 : (Option Nat)) (x1449_2 : (Option Nat)) (x1449_3 : (Option Nat)) (x1449_4 : Int32) (σ : Mem) (kc ks : Nat) (hN : kc + 0 ≤ 686331 ∧ ks + 0 ≤ 7037111) (hP23 : P23 (kc + 0) (ks + 0)) : Wo C G 9 (QL C b9) (b_L_law_1449 G.2.2.2.1 G.2.2.2.2 xs L9 b9 k23 x1449_1 x1449_2 x1449_3 x1449_4 σ) σ kc ks 1449 [(0, va_rf (some b9)), (1, va_rf x1449_1), (2, va_rf x1449_2), (3, va_rf x1449_3), (4, .int x1449_4)] [] := by
  unfold b_L_law_1449
  refine r_goto hC 2299 dL_law_1449 (by decide) ?_
  exact t_L_law_2299 hC hX P23 hm23 k23 hk23 x1449_1 x1449_2 x1449_3 x1449_4 σ _ _ ⟨by omega, by omega⟩ (hm23 _ _ _ _ (by omega) (by omega) hP23)

set_option maxRecDepth 100000 in
set_option maxHeartbeats 4000000 in
theorem t_L_law_1505 {C : Cxt} {G : Glb} {xs : Nat → Int32} {L9 b9 : Nat} (hC : CX C G RL cL_law 9 ret 14 686331 7037111 554) (hX : Scr C G b9 L9 xs) (P23 : Nat → Nat → Prop) (hm23 : ∀ a b a2 b2 : Nat, a ≤ a2 → b ≤ b2 → P23 a2 b2 → P23 a b) (k23 : (Option Nat) → (Option Nat) → (Option Nat) → Int32 → Mem → Option ((Int32) × Mem)) (hk23 : ∀ (x23_1 : (Option Nat)) (x23_2 : (Option Nat)) (x23_3 : (Option Nat)) (x23_4 : Int32) (σ : Mem) (kc ks : Nat), P23 kc ks → Wo C G 9 (QL C b9) (k23 x23_1 x23_2 x23_3 x23_4 σ) σ kc ks 23 [(0, va_rf (some b9)), (1, va_rf x23_1), (2, va_rf x23_2), (3, va_rf x23_3), (4, .int x23_4)] []) (x1505_1 : (Option Nat)) (x1505_2 : (Option Nat)) (x1505_3 : (Option Nat)) (x1505_4 : Int32) (σ : Mem) (kc ks : Nat) (hN : kc + 0 ≤ 686331 ∧ ks + 0 ≤ 7037111) (hP23 : P23 (kc + 0) (ks + 0)) : Wo C G 9 (QL C b9) (b_L_law_1505 G.2.2.2.1 G.2.2.2.2 xs L9 b9 k23 x1505_1 x1505_2 x1505_3 x1505_4 σ) σ kc ks 1505 [(0, va_rf (some b9)), (1, va_rf x1505_1), (2, va_rf x1505_2), (3, va_rf x1505_3), (4, .int x1505_4)] [] := by
  unfold b_L_law_1505
  refine r_goto hC 2299 dL_law_1505 (by decide) ?_
  exact t_L_law_2299 hC hX P23 hm23 k23 hk23 x1505_1 x1505_2 x1505_3 x1505_4 σ _ _ ⟨by omega, by omega⟩ (hm23 _ _ _ _ (by omega) (by omega) hP23)

set_option maxRecDepth 100000 in
set_option maxHeartbeats 4000000 in
theorem t_L_law_1573 {C : Cxt} {G : Glb} {xs : Nat → Int32} {L9 b9 : Nat} (hC : CX C G RL cL_law 9 ret 14 686331 7037111 554) (hX : Scr C G b9 L9 xs) (P23 : Nat → Nat → Prop) (hm23 : ∀ a b a2 b2 : Nat, a ≤ a2 → b ≤ b2 → P23 a2 b2 → P23 a b) (k23 : (Option Nat) → (Option Nat) → (Option Nat) → Int32 → Mem → Option ((Int32) × Mem)) (hk23 : ∀ (x23_1 : (Option Nat)) (x23_2 : (Option Nat)) (x23_3 : (Option Nat)) (x23_4 : Int32) (σ : Mem) (kc ks : Nat), P23 kc ks → Wo C G 9 (QL C b9) (k23 x23_1 x23_2 x23_3 x23_4 σ) σ kc ks 23 [(0, va_rf (some b9)), (1, va_rf x23_1), (2, va_rf x23_2), (3, va_rf x23_3), (4, .int x23_4)] []) (x1573_1 : (Option Nat)) (x1573_2 : (Option Nat)) (x1573_3 : (Option Nat)) (x1573_4 : Int32) (σ : Mem) (kc ks : Nat) (hN : kc + 0 ≤ 686331 ∧ ks + 0 ≤ 7037111) (hP23 : P23 (kc + 0) (ks + 0)) : Wo C G 9 (QL C b9) (b_L_law_1573 G.2.2.2.1 G.2.2.2.2 xs L9 b9 k23 x1573_1 x1573_2 x1573_3 x1573_4 σ) σ kc ks 1573 [(0, va_rf (some b9)), (1, va_rf x1573_1), (2, va_rf x1573_2), (3, va_rf x1573_3), (4, .int x1573_4)] [] := by
  unfold b_L_law_1573
  refine r_goto hC 2299 dL_law_1573 (by decide) ?_
  exact t_L_law_2299 hC hX P23 hm23 k23 hk23 x1573_1 x1573_2 x1573_3 x1573_4 σ _ _ ⟨by omega, by omega⟩ (hm23 _ _ _ _ (by omega) (by omega) hP23)

set_option maxRecDepth 100000 in
set_option maxHeartbeats 4000000 in
theorem t_L_law_1641 {C : Cxt} {G : Glb} {xs : Nat → Int32} {L9 b9 : Nat} (hC : CX C G RL cL_law 9 ret 14 686331 7037111 554) (hX : Scr C G b9 L9 xs) (P23 : Nat → Nat → Prop) (hm23 : ∀ a b a2 b2 : Nat, a ≤ a2 → b ≤ b2 → P23 a2 b2 → P23 a b) (k23 : (Option Nat) → (Option Nat) → (Option Nat) → Int32 → Mem → Option ((Int32) × Mem)) (hk23 : ∀ (x23_1 : (Option Nat)) (x23_2 : (Option Nat)) (x23_3 : (Option Nat)) (x23_4 : Int32) (σ : Mem) (kc ks : Nat), P23 kc ks → Wo C G 9 (QL C b9) (k23 x23_1 x23_2 x23_3 x23_4 σ) σ kc ks 23 [(0, va_rf (some b9)), (1, va_rf x23_1), (2, va_rf x23_2), (3, va_rf x23_3), (4, .int x23_4)] []) (x1641_1 : (Option Nat)) (x1641_2 : (Option Nat)) (x1641_3 : (Option Nat)) (x1641_4 : Int32) (σ : Mem) (kc ks : Nat) (hN : kc + 0 ≤ 686331 ∧ ks + 0 ≤ 7037111) (hP23 : P23 (kc + 0) (ks + 0)) : Wo C G 9 (QL C b9) (b_L_law_1641 G.2.2.2.1 G.2.2.2.2 xs L9 b9 k23 x1641_1 x1641_2 x1641_3 x1641_4 σ) σ kc ks 1641 [(0, va_rf (some b9)), (1, va_rf x1641_1), (2, va_rf x1641_2), (3, va_rf x1641_3), (4, .int x1641_4)] [] := by
  unfold b_L_law_1641
  refine r_goto hC 2299 dL_law_1641 (by decide) ?_
  exact t_L_law_2299 hC hX P23 hm23 k23 hk23 x1641_1 x1641_2 x1641_3 x1641_4 σ _ _ ⟨by omega, by omega⟩ (hm23 _ _ _ _ (by omega) (by omega) hP23)

set_option maxRecDepth 100000 in
set_option maxHeartbeats 4000000 in
theorem t_L_law_1709 {C : Cxt} {G : Glb} {xs : Nat → Int32} {L9 b9 : Nat} (hC : CX C G RL cL_law 9 ret 14 686331 7037111 554) (hX : Scr C G b9 L9 xs) (P23 : Nat → Nat → Prop) (hm23 : ∀ a b a2 b2 : Nat, a ≤ a2 → b ≤ b2 → P23 a2 b2 → P23 a b) (k23 : (Option Nat) → (Option Nat) → (Option Nat) → Int32 → Mem → Option ((Int32) × Mem)) (hk23 : ∀ (x23_1 : (Option Nat)) (x23_2 : (Option Nat)) (x23_3 : (Option Nat)) (x23_4 : Int32) (σ : Mem) (kc ks : Nat), P23 kc ks → Wo C G 9 (QL C b9) (k23 x23_1 x23_2 x23_3 x23_4 σ) σ kc ks 23 [(0, va_rf (some b9)), (1, va_rf x23_1), (2, va_rf x23_2), (3, va_rf x23_3), (4, .int x23_4)] []) (x1709_1 : (Option Nat)) (x1709_2 : (Option Nat)) (x1709_3 : (Option Nat)) (x1709_4 : Int32) (σ : Mem) (kc ks : Nat) (hN : kc + 0 ≤ 686331 ∧ ks + 0 ≤ 7037111) (hP23 : P23 (kc + 0) (ks + 0)) : Wo C G 9 (QL C b9) (b_L_law_1709 G.2.2.2.1 G.2.2.2.2 xs L9 b9 k23 x1709_1 x1709_2 x1709_3 x1709_4 σ) σ kc ks 1709 [(0, va_rf (some b9)), (1, va_rf x1709_1), (2, va_rf x1709_2), (3, va_rf x1709_3), (4, .int x1709_4)] [] := by
  unfold b_L_law_1709
  refine r_goto hC 2299 dL_law_1709 (by decide) ?_
  exact t_L_law_2299 hC hX P23 hm23 k23 hk23 x1709_1 x1709_2 x1709_3 x1709_4 σ _ _ ⟨by omega, by omega⟩ (hm23 _ _ _ _ (by omega) (by omega) hP23)

set_option maxRecDepth 100000 in
set_option maxHeartbeats 4000000 in
theorem t_L_law_1777 {C : Cxt} {G : Glb} {xs : Nat → Int32} {L9 b9 : Nat} (hC : CX C G RL cL_law 9 ret 14 686331 7037111 554) (hX : Scr C G b9 L9 xs) (P23 : Nat → Nat → Prop) (hm23 : ∀ a b a2 b2 : Nat, a ≤ a2 → b ≤ b2 → P23 a2 b2 → P23 a b) (k23 : (Option Nat) → (Option Nat) → (Option Nat) → Int32 → Mem → Option ((Int32) × Mem)) (hk23 : ∀ (x23_1 : (Option Nat)) (x23_2 : (Option Nat)) (x23_3 : (Option Nat)) (x23_4 : Int32) (σ : Mem) (kc ks : Nat), P23 kc ks → Wo C G 9 (QL C b9) (k23 x23_1 x23_2 x23_3 x23_4 σ) σ kc ks 23 [(0, va_rf (some b9)), (1, va_rf x23_1), (2, va_rf x23_2), (3, va_rf x23_3), (4, .int x23_4)] []) (x1777_1 : (Option Nat)) (x1777_2 : (Option Nat)) (x1777_3 : (Option Nat)) (x1777_4 : Int32) (σ : Mem) (kc ks : Nat) (hN : kc + 0 ≤ 686331 ∧ ks + 0 ≤ 7037111) (hP23 : P23 (kc + 0) (ks + 0)) : Wo C G 9 (QL C b9) (b_L_law_1777 G.2.2.2.1 G.2.2.2.2 xs L9 b9 k23 x1777_1 x1777_2 x1777_3 x1777_4 σ) σ kc ks 1777 [(0, va_rf (some b9)), (1, va_rf x1777_1), (2, va_rf x1777_2), (3, va_rf x1777_3), (4, .int x1777_4)] [] := by
  unfold b_L_law_1777
  refine r_goto hC 2299 dL_law_1777 (by decide) ?_
  exact t_L_law_2299 hC hX P23 hm23 k23 hk23 x1777_1 x1777_2 x1777_3 x1777_4 σ _ _ ⟨by omega, by omega⟩ (hm23 _ _ _ _ (by omega) (by omega) hP23)

set_option maxRecDepth 100000 in
set_option maxHeartbeats 4000000 in
theorem t_L_law_1845 {C : Cxt} {G : Glb} {xs : Nat → Int32} {L9 b9 : Nat} (hC : CX C G RL cL_law 9 ret 14 686331 7037111 554) (hX : Scr C G b9 L9 xs) (P23 : Nat → Nat → Prop) (hm23 : ∀ a b a2 b2 : Nat, a ≤ a2 → b ≤ b2 → P23 a2 b2 → P23 a b) (k23 : (Option Nat) → (Option Nat) → (Option Nat) → Int32 → Mem → Option ((Int32) × Mem)) (hk23 : ∀ (x23_1 : (Option Nat)) (x23_2 : (Option Nat)) (x23_3 : (Option Nat)) (x23_4 : Int32) (σ : Mem) (kc ks : Nat), P23 kc ks → Wo C G 9 (QL C b9) (k23 x23_1 x23_2 x23_3 x23_4 σ) σ kc ks 23 [(0, va_rf (some b9)), (1, va_rf x23_1), (2, va_rf x23_2), (3, va_rf x23_3), (4, .int x23_4)] []) (x1845_1 : (Option Nat)) (x1845_2 : (Option Nat)) (x1845_3 : (Option Nat)) (x1845_4 : Int32) (σ : Mem) (kc ks : Nat) (hN : kc + 0 ≤ 686331 ∧ ks + 0 ≤ 7037111) (hP23 : P23 (kc + 0) (ks + 0)) : Wo C G 9 (QL C b9) (b_L_law_1845 G.2.2.2.1 G.2.2.2.2 xs L9 b9 k23 x1845_1 x1845_2 x1845_3 x1845_4 σ) σ kc ks 1845 [(0, va_rf (some b9)), (1, va_rf x1845_1), (2, va_rf x1845_2), (3, va_rf x1845_3), (4, .int x1845_4)] [] := by
  unfold b_L_law_1845
  refine r_goto hC 2299 dL_law_1845 (by decide) ?_
  exact t_L_law_2299 hC hX P23 hm23 k23 hk23 x1845_1 x1845_2 x1845_3 x1845_4 σ _ _ ⟨by omega, by omega⟩ (hm23 _ _ _ _ (by omega) (by omega) hP23)

set_option maxRecDepth 100000 in
set_option maxHeartbeats 4000000 in
theorem t_L_law_1913 {C : Cxt} {G : Glb} {xs : Nat → Int32} {L9 b9 : Nat} (hC : CX C G RL cL_law 9 ret 14 686331 7037111 554) (hX : Scr C G b9 L9 xs) (P23 : Nat → Nat → Prop) (hm23 : ∀ a b a2 b2 : Nat, a ≤ a2 → b ≤ b2 → P23 a2 b2 → P23 a b) (k23 : (Option Nat) → (Option Nat) → (Option Nat) → Int32 → Mem → Option ((Int32) × Mem)) (hk23 : ∀ (x23_1 : (Option Nat)) (x23_2 : (Option Nat)) (x23_3 : (Option Nat)) (x23_4 : Int32) (σ : Mem) (kc ks : Nat), P23 kc ks → Wo C G 9 (QL C b9) (k23 x23_1 x23_2 x23_3 x23_4 σ) σ kc ks 23 [(0, va_rf (some b9)), (1, va_rf x23_1), (2, va_rf x23_2), (3, va_rf x23_3), (4, .int x23_4)] []) (x1913_1 : (Option Nat)) (x1913_2 : (Option Nat)) (x1913_3 : (Option Nat)) (x1913_4 : Int32) (σ : Mem) (kc ks : Nat) (hN : kc + 0 ≤ 686331 ∧ ks + 0 ≤ 7037111) (hP23 : P23 (kc + 0) (ks + 0)) : Wo C G 9 (QL C b9) (b_L_law_1913 G.2.2.2.1 G.2.2.2.2 xs L9 b9 k23 x1913_1 x1913_2 x1913_3 x1913_4 σ) σ kc ks 1913 [(0, va_rf (some b9)), (1, va_rf x1913_1), (2, va_rf x1913_2), (3, va_rf x1913_3), (4, .int x1913_4)] [] := by
  unfold b_L_law_1913
  refine r_goto hC 2299 dL_law_1913 (by decide) ?_
  exact t_L_law_2299 hC hX P23 hm23 k23 hk23 x1913_1 x1913_2 x1913_3 x1913_4 σ _ _ ⟨by omega, by omega⟩ (hm23 _ _ _ _ (by omega) (by omega) hP23)

set_option maxRecDepth 100000 in
set_option maxHeartbeats 4000000 in
theorem t_L_law_1969 {C : Cxt} {G : Glb} {xs : Nat → Int32} {L9 b9 : Nat} (hC : CX C G RL cL_law 9 ret 14 686331 7037111 554) (hX : Scr C G b9 L9 xs) (P23 : Nat → Nat → Prop) (hm23 : ∀ a b a2 b2 : Nat, a ≤ a2 → b ≤ b2 → P23 a2 b2 → P23 a b) (k23 : (Option Nat) → (Option Nat) → (Option Nat) → Int32 → Mem → Option ((Int32) × Mem)) (hk23 : ∀ (x23_1 : (Option Nat)) (x23_2 : (Option Nat)) (x23_3 : (Option Nat)) (x23_4 : Int32) (σ : Mem) (kc ks : Nat), P23 kc ks → Wo C G 9 (QL C b9) (k23 x23_1 x23_2 x23_3 x23_4 σ) σ kc ks 23 [(0, va_rf (some b9)), (1, va_rf x23_1), (2, va_rf x23_2), (3, va_rf x23_3), (4, .int x23_4)] []) (x1969_1 : (Option Nat)) (x1969_2 : (Option Nat)) (x1969_3 : (Option Nat)) (x1969_4 : Int32) (σ : Mem) (kc ks : Nat) (hN : kc + 0 ≤ 686331 ∧ ks + 0 ≤ 7037111) (hP23 : P23 (kc + 0) (ks + 0)) : Wo C G 9 (QL C b9) (b_L_law_1969 G.2.2.2.1 G.2.2.2.2 xs L9 b9 k23 x1969_1 x1969_2 x1969_3 x1969_4 σ) σ kc ks 1969 [(0, va_rf (some b9)), (1, va_rf x1969_1), (2, va_rf x1969_2), (3, va_rf x1969_3), (4, .int x1969_4)] [] := by
  unfold b_L_law_1969
  refine r_goto hC 2299 dL_law_1969 (by decide) ?_
  exact t_L_law_2299 hC hX P23 hm23 k23 hk23 x1969_1 x1969_2 x1969_3 x1969_4 σ _ _ ⟨by omega, by omega⟩ (hm23 _ _ _ _ (by omega) (by omega) hP23)

set_option maxRecDepth 100000 in
set_option maxHeartbeats 4000000 in
theorem t_L_law_2010 {C : Cxt} {G : Glb} {xs : Nat → Int32} {L9 b9 : Nat} (hC : CX C G RL cL_law 9 ret 14 686331 7037111 554) (hX : Scr C G b9 L9 xs) (P23 : Nat → Nat → Prop) (hm23 : ∀ a b a2 b2 : Nat, a ≤ a2 → b ≤ b2 → P23 a2 b2 → P23 a b) (k23 : (Option Nat) → (Option Nat) → (Option Nat) → Int32 → Mem → Option ((Int32) × Mem)) (hk23 : ∀ (x23_1 : (Option Nat)) (x23_2 : (Option Nat)) (x23_3 : (Option Nat)) (x23_4 : Int32) (σ : Mem) (kc ks : Nat), P23 kc ks → Wo C G 9 (QL C b9) (k23 x23_1 x23_2 x23_3 x23_4 σ) σ kc ks 23 [(0, va_rf (some b9)), (1, va_rf x23_1), (2, va_rf x23_2), (3, va_rf x23_3), (4, .int x23_4)] []) (x2010_1 : (Option Nat)) (x2010_2 : (Option Nat)) (x2010_3 : (Option Nat)) (x2010_4 : Int32) (σ : Mem) (kc ks : Nat) (hN : kc + 0 ≤ 686331 ∧ ks + 0 ≤ 7037111) (hP23 : P23 (kc + 0) (ks + 0)) : Wo C G 9 (QL C b9) (b_L_law_2010 G.2.2.2.1 G.2.2.2.2 xs L9 b9 k23 x2010_1 x2010_2 x2010_3 x2010_4 σ) σ kc ks 2010 [(0, va_rf (some b9)), (1, va_rf x2010_1), (2, va_rf x2010_2), (3, va_rf x2010_3), (4, .int x2010_4)] [] := by
  unfold b_L_law_2010
  refine r_goto hC 2299 dL_law_2010 (by decide) ?_
  exact t_L_law_2299 hC hX P23 hm23 k23 hk23 x2010_1 x2010_2 x2010_3 x2010_4 σ _ _ ⟨by omega, by omega⟩ (hm23 _ _ _ _ (by omega) (by omega) hP23)

set_option maxRecDepth 100000 in
set_option maxHeartbeats 4000000 in
theorem t_L_law_2008 {C : Cxt} {G : Glb} {xs : Nat → Int32} {L9 b9 : Nat} (hC : CX C G RL cL_law 9 ret 14 686331 7037111 554) (hX : Scr C G b9 L9 xs) (σ : Mem) (kc ks : Nat) (hN : kc + 0 ≤ 686331 ∧ ks + 0 ≤ 7037111) : Wo C G 9 (QL C b9) (b_L_law_2008 G.2.2.2.1 G.2.2.2.2 xs L9 b9   σ) σ kc ks 2008 [] [] := by
  unfold b_L_law_2008
  refine r_iconst hC (0) rfl dL_law_2008 ?_
  exact e_law hC hX ⟨by omega, by omega⟩ dL_law_2009

set_option maxRecDepth 100000 in
set_option maxHeartbeats 4000000 in
theorem t_L_law_2090 {C : Cxt} {G : Glb} {xs : Nat → Int32} {L9 b9 : Nat} (hC : CX C G RL cL_law 9 ret 14 686331 7037111 554) (hX : Scr C G b9 L9 xs) (P23 : Nat → Nat → Prop) (hm23 : ∀ a b a2 b2 : Nat, a ≤ a2 → b ≤ b2 → P23 a2 b2 → P23 a b) (k23 : (Option Nat) → (Option Nat) → (Option Nat) → Int32 → Mem → Option ((Int32) × Mem)) (hk23 : ∀ (x23_1 : (Option Nat)) (x23_2 : (Option Nat)) (x23_3 : (Option Nat)) (x23_4 : Int32) (σ : Mem) (kc ks : Nat), P23 kc ks → Wo C G 9 (QL C b9) (k23 x23_1 x23_2 x23_3 x23_4 σ) σ kc ks 23 [(0, va_rf (some b9)), (1, va_rf x23_1), (2, va_rf x23_2), (3, va_rf x23_3), (4, .int x23_4)] []) (x2090_1 : (Option Nat)) (x2090_2 : (Option Nat)) (x2090_3 : (Option Nat)) (x2090_4 : Int32) (σ : Mem) (kc ks : Nat) (hN : kc + 0 ≤ 686331 ∧ ks + 0 ≤ 7037111) (hP23 : P23 (kc + 0) (ks + 0)) : Wo C G 9 (QL C b9) (b_L_law_2090 G.2.2.2.1 G.2.2.2.2 xs L9 b9 k23 x2090_1 x2090_2 x2090_3 x2090_4 σ) σ kc ks 2090 [(0, va_rf (some b9)), (1, va_rf x2090_1), (2, va_rf x2090_2), (3, va_rf x2090_3), (4, .int x2090_4)] [] := by
  unfold b_L_law_2090
  refine r_goto hC 2299 dL_law_2090 (by decide) ?_
  exact t_L_law_2299 hC hX P23 hm23 k23 hk23 x2090_1 x2090_2 x2090_3 x2090_4 σ _ _ ⟨by omega, by omega⟩ (hm23 _ _ _ _ (by omega) (by omega) hP23)

set_option maxRecDepth 100000 in
set_option maxHeartbeats 4000000 in
theorem t_L_law_2146 {C : Cxt} {G : Glb} {xs : Nat → Int32} {L9 b9 : Nat} (hC : CX C G RL cL_law 9 ret 14 686331 7037111 554) (hX : Scr C G b9 L9 xs) (P23 : Nat → Nat → Prop) (hm23 : ∀ a b a2 b2 : Nat, a ≤ a2 → b ≤ b2 → P23 a2 b2 → P23 a b) (k23 : (Option Nat) → (Option Nat) → (Option Nat) → Int32 → Mem → Option ((Int32) × Mem)) (hk23 : ∀ (x23_1 : (Option Nat)) (x23_2 : (Option Nat)) (x23_3 : (Option Nat)) (x23_4 : Int32) (σ : Mem) (kc ks : Nat), P23 kc ks → Wo C G 9 (QL C b9) (k23 x23_1 x23_2 x23_3 x23_4 σ) σ kc ks 23 [(0, va_rf (some b9)), (1, va_rf x23_1), (2, va_rf x23_2), (3, va_rf x23_3), (4, .int x23_4)] []) (x2146_1 : (Option Nat)) (x2146_2 : (Option Nat)) (x2146_3 : (Option Nat)) (x2146_4 : Int32) (σ : Mem) (kc ks : Nat) (hN : kc + 0 ≤ 686331 ∧ ks + 0 ≤ 7037111) (hP23 : P23 (kc + 0) (ks + 0)) : Wo C G 9 (QL C b9) (b_L_law_2146 G.2.2.2.1 G.2.2.2.2 xs L9 b9 k23 x2146_1 x2146_2 x2146_3 x2146_4 σ) σ kc ks 2146 [(0, va_rf (some b9)), (1, va_rf x2146_1), (2, va_rf x2146_2), (3, va_rf x2146_3), (4, .int x2146_4)] [] := by
  unfold b_L_law_2146
  refine r_goto hC 2299 dL_law_2146 (by decide) ?_
  exact t_L_law_2299 hC hX P23 hm23 k23 hk23 x2146_1 x2146_2 x2146_3 x2146_4 σ _ _ ⟨by omega, by omega⟩ (hm23 _ _ _ _ (by omega) (by omega) hP23)

set_option maxRecDepth 100000 in
set_option maxHeartbeats 4000000 in
theorem t_L_law_2226 {C : Cxt} {G : Glb} {xs : Nat → Int32} {L9 b9 : Nat} (hC : CX C G RL cL_law 9 ret 14 686331 7037111 554) (hX : Scr C G b9 L9 xs) (P23 : Nat → Nat → Prop) (hm23 : ∀ a b a2 b2 : Nat, a ≤ a2 → b ≤ b2 → P23 a2 b2 → P23 a b) (k23 : (Option Nat) → (Option Nat) → (Option Nat) → Int32 → Mem → Option ((Int32) × Mem)) (hk23 : ∀ (x23_1 : (Option Nat)) (x23_2 : (Option Nat)) (x23_3 : (Option Nat)) (x23_4 : Int32) (σ : Mem) (kc ks : Nat), P23 kc ks → Wo C G 9 (QL C b9) (k23 x23_1 x23_2 x23_3 x23_4 σ) σ kc ks 23 [(0, va_rf (some b9)), (1, va_rf x23_1), (2, va_rf x23_2), (3, va_rf x23_3), (4, .int x23_4)] []) (x2226_1 : (Option Nat)) (x2226_2 : (Option Nat)) (x2226_3 : (Option Nat)) (x2226_4 : Int32) (σ : Mem) (kc ks : Nat) (hN : kc + 0 ≤ 686331 ∧ ks + 0 ≤ 7037111) (hP23 : P23 (kc + 0) (ks + 0)) : Wo C G 9 (QL C b9) (b_L_law_2226 G.2.2.2.1 G.2.2.2.2 xs L9 b9 k23 x2226_1 x2226_2 x2226_3 x2226_4 σ) σ kc ks 2226 [(0, va_rf (some b9)), (1, va_rf x2226_1), (2, va_rf x2226_2), (3, va_rf x2226_3), (4, .int x2226_4)] [] := by
  unfold b_L_law_2226
  refine r_goto hC 2299 dL_law_2226 (by decide) ?_
  exact t_L_law_2299 hC hX P23 hm23 k23 hk23 x2226_1 x2226_2 x2226_3 x2226_4 σ _ _ ⟨by omega, by omega⟩ (hm23 _ _ _ _ (by omega) (by omega) hP23)

set_option maxRecDepth 100000 in
set_option maxHeartbeats 4000000 in
theorem t_L_law_2282 {C : Cxt} {G : Glb} {xs : Nat → Int32} {L9 b9 : Nat} (hC : CX C G RL cL_law 9 ret 14 686331 7037111 554) (hX : Scr C G b9 L9 xs) (P23 : Nat → Nat → Prop) (hm23 : ∀ a b a2 b2 : Nat, a ≤ a2 → b ≤ b2 → P23 a2 b2 → P23 a b) (k23 : (Option Nat) → (Option Nat) → (Option Nat) → Int32 → Mem → Option ((Int32) × Mem)) (hk23 : ∀ (x23_1 : (Option Nat)) (x23_2 : (Option Nat)) (x23_3 : (Option Nat)) (x23_4 : Int32) (σ : Mem) (kc ks : Nat), P23 kc ks → Wo C G 9 (QL C b9) (k23 x23_1 x23_2 x23_3 x23_4 σ) σ kc ks 23 [(0, va_rf (some b9)), (1, va_rf x23_1), (2, va_rf x23_2), (3, va_rf x23_3), (4, .int x23_4)] []) (x2282_1 : (Option Nat)) (x2282_2 : (Option Nat)) (x2282_3 : (Option Nat)) (x2282_4 : Int32) (σ : Mem) (kc ks : Nat) (hN : kc + 0 ≤ 686331 ∧ ks + 0 ≤ 7037111) (hP23 : P23 (kc + 0) (ks + 0)) : Wo C G 9 (QL C b9) (b_L_law_2282 G.2.2.2.1 G.2.2.2.2 xs L9 b9 k23 x2282_1 x2282_2 x2282_3 x2282_4 σ) σ kc ks 2282 [(0, va_rf (some b9)), (1, va_rf x2282_1), (2, va_rf x2282_2), (3, va_rf x2282_3), (4, .int x2282_4)] [] := by
  unfold b_L_law_2282
  refine r_goto hC 2299 dL_law_2282 (by decide) ?_
  exact t_L_law_2299 hC hX P23 hm23 k23 hk23 x2282_1 x2282_2 x2282_3 x2282_4 σ _ _ ⟨by omega, by omega⟩ (hm23 _ _ _ _ (by omega) (by omega) hP23)

set_option maxRecDepth 100000 in
set_option maxHeartbeats 4000000 in
theorem t_L_law_23 {C : Cxt} {G : Glb} {xs : Nat → Int32} {L9 b9 : Nat} (hC : CX C G RL cL_law 9 ret 14 686331 7037111 554) (hX : Scr C G b9 L9 xs) (P23 : Nat → Nat → Prop) (hm23 : ∀ a b a2 b2 : Nat, a ≤ a2 → b ≤ b2 → P23 a2 b2 → P23 a b) (k23 : (Option Nat) → (Option Nat) → (Option Nat) → Int32 → Mem → Option ((Int32) × Mem)) (hk23 : ∀ (x23_1 : (Option Nat)) (x23_2 : (Option Nat)) (x23_3 : (Option Nat)) (x23_4 : Int32) (σ : Mem) (kc ks : Nat), P23 kc ks → Wo C G 9 (QL C b9) (k23 x23_1 x23_2 x23_3 x23_4 σ) σ kc ks 23 [(0, va_rf (some b9)), (1, va_rf x23_1), (2, va_rf x23_2), (3, va_rf x23_3), (4, .int x23_4)] []) (x23_1 : (Option Nat)) (x23_2 : (Option Nat)) (x23_3 : (Option Nat)) (x23_4 : Int32) (σ : Mem) (kc ks : Nat) (hN : kc + 977 ≤ 686331 ∧ ks + 9676 ≤ 7037111) (hP23 : P23 (kc + 977) (ks + 9676)) : Wo C G 9 (QL C b9) (b_L_law_23 G.2.2.2.1 G.2.2.2.2 xs L9 b9 k23 x23_1 x23_2 x23_3 x23_4 σ) σ kc ks 23 [(0, va_rf (some b9)), (1, va_rf x23_1), (2, va_rf x23_2), (3, va_rf x23_3), (4, .int x23_4)] [] := by
  unfold b_L_law_23
  refine r_iload hC 4 rfl dL_law_23 ?_
  refine r_aloadn hC 0 (r := (some b9)) rfl rfl dL_law_25 ?_
  refine r_sL hC hX dL_law_26 (fun v13 => ?_)
  refine r_iconst hC (5) rfl dL_law_27 ?_
  refine r_isub hC dL_law_28 (fun v14 => ?_)
  refine r_icmp_gt hC 2305 dL_law_29 (by decide) ?_ ?_
  · refine r_iconst hC (1) rfl dL_law_2305 ?_
    exact e_law hC hX ⟨by omega, by omega⟩ dL_law_2306
  · refine r_aloadn hC 0 (r := (some b9)) rfl rfl dL_law_32 ?_
    refine r_iload hC 4 rfl dL_law_33 ?_
    refine r_sX hC hX dL_law_35 (fun v15 => ?_)
    refine r_bipush hC (31) (by decide) dL_law_36 ?_
    refine r_iand hC dL_law_38 (fun v16 => ?_)
    refine Wo.ite (fun h39_0 => ?_) (fun h39_0 => ?_)
    · refine r_tab hC 180 dL_law_39 (by rw [h39_0]; decide) (by rw [h39_0]; decide) (by rw [h39_0]; rfl) (by decide) ?_
      refine r_aloadn hC 1 (r := x23_1) rfl rfl dL_law_180 ?_
      refine r_aloadn hC 0 (r := (some b9)) rfl rfl dL_law_181 ?_
      refine r_iload hC 4 rfl dL_law_182 ?_
      refine r_iconst hC (1) rfl dL_law_184 ?_
      refine r_iadd hC dL_law_185 (fun v17 => ?_)
      refine r_sX hC hX dL_law_186 (fun v18 => ?_)
      refine r_aloadn hC 0 (r := (some b9)) rfl rfl dL_law_187 ?_
      refine r_iload hC 4 rfl dL_law_188 ?_
      refine r_iconst hC (2) rfl dL_law_190 ?_
      refine r_iadd hC dL_law_191 (fun v19 => ?_)
      refine r_sX hC hX dL_law_192 (fun v20 => ?_)
      refine r_aloadn hC 3 (r := x23_3) rfl rfl dL_law_193 ?_
      refine call_SW hC (av := [va_rf x23_1, .int v18, .int v20, va_rf x23_3]) (st := []) (ct_L_section hC.hl G x23_1 v18 v20 x23_3 σ) q_545 q_546 q_38 q_547 yd_L_section rfl ⟨Nat.le_of_ble_eq_true rfl, Nat.le_of_ble_eq_true rfl⟩ ⟨by omega, by omega⟩ rfl (Nat.le_of_ble_eq_true rfl) dL_law_194 (fun v21 σ22 => ?_)
      show Wo _ _ _ _ _ _ _ _ _ _ [.int v21]
      refine r_istore hC [(5, .int v21), (0, va_rf (some b9)), (1, va_rf x23_1), (2, va_rf x23_2), (3, va_rf x23_3), (4, .int x23_4)] (i := 5) (by decide) rfl dL_law_197 ?_
      refine r_aloadn hC 3 (r := x23_2) rfl rfl dL_law_199 ?_
      refine r_aloadn hC 1 (r := (some b9)) rfl rfl dL_law_200 ?_
      refine r_iload hC 5 rfl dL_law_201 ?_
      refine r_iconst hC (1) rfl dL_law_203 ?_
      refine r_iadd hC dL_law_204 (fun v23 => ?_)
      refine r_sX hC hX dL_law_205 (fun v24 => ?_)
      refine r_aloadn hC 1 (r := (some b9)) rfl rfl dL_law_206 ?_
      refine r_iload hC 5 rfl dL_law_207 ?_
      refine r_iconst hC (2) rfl dL_law_209 ?_
      refine r_iadd hC dL_law_210 (fun v25 => ?_)
      refine r_sX hC hX dL_law_211 (fun v26 => ?_)
      refine call_V hC (av := [.int v24, .int v26]) (st := []) (r := x23_2) (ci := 10) rfl rfl (fun h9 => ct_X8_section hC.hl G h9 v24 v26 σ22) q_875 q_876 q_877 q_44 q_878 yd_X8_section rfl ⟨Nat.le_of_ble_eq_true rfl, Nat.le_of_ble_eq_true rfl⟩ ⟨by omega, by omega⟩ rfl (Nat.le_of_ble_eq_true rfl) dL_law_212 (fun v27 σ28 => ?_)
      show Wo _ _ _ _ _ _ _ _ _ _ [.int v27]
      refine r_istore hC [(6, .int v27), (5, .int v21), (0, va_rf (some b9)), (1, va_rf x23_1), (2, va_rf x23_2), (3, va_rf x23_3), (4, .int x23_4)] (i := 6) (by decide) rfl dL_law_215 ?_
      refine r_aloadn hC 4 (r := x23_2) rfl rfl dL_law_217 ?_
      refine call_V hC (av := []) (st := []) (r := x23_2) (ci := 10) rfl rfl (fun h9 => ct_X8_thrown hC.hl G h9 σ28) q_871 q_872 q_873 q_44 q_874 yd_X8_thrown rfl ⟨Nat.le_of_ble_eq_true rfl, Nat.le_of_ble_eq_true rfl⟩ ⟨by omega, by omega⟩ rfl (Nat.le_of_ble_eq_true rfl) dL_law_218 (fun v30 σ31 => ?_)
      show Wo _ _ _ _ _ _ _ _ _ _ [.int v30]
      refine r_iload hC 1 rfl dL_law_221 ?_
      refine r_icmp_eq hC 228 dL_law_223 (by decide) ?_ ?_
      · refine r_iload hC 1 rfl dL_law_228 ?_
        refine r_if_ne hC 245 dL_law_230 (by decide) ?_ ?_
        · refine Wo.sub [2, 3, 4, 5, 6] rfl ?_
          exact t_L_law_245 hC hX P23 hm23 k23 hk23 x23_1 x23_2 x23_3 x23_4 σ31 _ _ ⟨by omega, by omega⟩ (hm23 _ _ _ _ (by omega) (by omega) hP23)
        · refine r_aloadn hC 5 (r := x23_3) rfl rfl dL_law_233 ?_
          refine r_iconst hC (0) rfl dL_law_234 ?_
          refine r_aJ hC (r := x23_3) dL_law_235 (fun v34 => ?_)
          refine r_iload hC 0 rfl dL_law_236 ?_
          refine r_i2l hC dL_law_238 (fun v35 => ?_)
          refine r_lcmp hC dL_law_239 (fun v36 => ?_)
          refine r_if_eq hC 245 dL_law_240 (by decide) ?_ ?_
          · refine Wo.sub [2, 3, 4, 5, 6] rfl ?_
            exact t_L_law_245 hC hX P23 hm23 k23 hk23 x23_1 x23_2 x23_3 x23_4 σ31 _ _ ⟨by omega, by omega⟩ (hm23 _ _ _ _ (by omega) (by omega) hP23)
          · refine r_iconst hC (0) rfl dL_law_243 ?_
            exact e_law hC hX ⟨by omega, by omega⟩ dL_law_244
      · refine r_iconst hC (0) rfl dL_law_226 ?_
        exact e_law hC hX ⟨by omega, by omega⟩ dL_law_227
    refine Wo.ite (fun h39_1 => ?_) (fun h39_1 => ?_)
    · refine r_tab hC 248 dL_law_39 (by rw [h39_1]; decide) (by rw [h39_1]; decide) (by rw [h39_1]; rfl) (by decide) ?_
      refine r_aloadn hC 1 (r := x23_1) rfl rfl dL_law_248 ?_
      refine r_aloadn hC 0 (r := (some b9)) rfl rfl dL_law_249 ?_
      refine r_iload hC 4 rfl dL_law_250 ?_
      refine r_iconst hC (1) rfl dL_law_252 ?_
      refine r_iadd hC dL_law_253 (fun v37 => ?_)
      refine r_sX hC hX dL_law_254 (fun v38 => ?_)
      refine r_aloadn hC 0 (r := (some b9)) rfl rfl dL_law_255 ?_
      refine r_iload hC 4 rfl dL_law_256 ?_
      refine r_iconst hC (2) rfl dL_law_258 ?_
      refine r_iadd hC dL_law_259 (fun v39 => ?_)
      refine r_sX hC hX dL_law_260 (fun v40 => ?_)
      refine r_aloadn hC 0 (r := (some b9)) rfl rfl dL_law_261 ?_
      refine r_iload hC 4 rfl dL_law_262 ?_
      refine r_iconst hC (3) rfl dL_law_264 ?_
      refine r_iadd hC dL_law_265 (fun v41 => ?_)
      refine r_sX hC hX dL_law_266 (fun v42 => ?_)
      refine r_aloadn hC 3 (r := x23_3) rfl rfl dL_law_267 ?_
      refine call_SW hC (av := [va_rf x23_1, .int v38, .int v40, .int v42, va_rf x23_3]) (st := []) (ct_L_pass hC.hl G x23_1 v38 v40 v42 x23_3 σ) q_554 q_555 q_38 q_556 yd_L_pass rfl ⟨Nat.le_of_ble_eq_true rfl, Nat.le_of_ble_eq_true rfl⟩ ⟨by omega, by omega⟩ rfl (Nat.le_of_ble_eq_true rfl) dL_law_268 (fun v43 σ44 => ?_)
      show Wo _ _ _ _ _ _ _ _ _ _ [.int v43]
      refine r_istore hC [(5, .int v43), (0, va_rf (some b9)), (1, va_rf x23_1), (2, va_rf x23_2), (3, va_rf x23_3), (4, .int x23_4)] (i := 5) (by decide) rfl dL_law_271 ?_
      refine r_aloadn hC 3 (r := x23_2) rfl rfl dL_law_273 ?_
      refine r_aloadn hC 1 (r := (some b9)) rfl rfl dL_law_274 ?_
      refine r_iload hC 5 rfl dL_law_275 ?_
      refine r_iconst hC (1) rfl dL_law_277 ?_
      refine r_iadd hC dL_law_278 (fun v45 => ?_)
      refine r_sX hC hX dL_law_279 (fun v46 => ?_)
      refine r_aloadn hC 1 (r := (some b9)) rfl rfl dL_law_280 ?_
      refine r_iload hC 5 rfl dL_law_281 ?_
      refine r_iconst hC (2) rfl dL_law_283 ?_
      refine r_iadd hC dL_law_284 (fun v47 => ?_)
      refine r_sX hC hX dL_law_285 (fun v48 => ?_)
      refine r_aloadn hC 1 (r := (some b9)) rfl rfl dL_law_286 ?_
      refine r_iload hC 5 rfl dL_law_287 ?_
      refine r_iconst hC (3) rfl dL_law_289 ?_
      refine r_iadd hC dL_law_290 (fun v49 => ?_)
      refine r_sX hC hX dL_law_291 (fun v50 => ?_)
      refine call_V hC (av := [.int v46, .int v48, .int v50]) (st := []) (r := x23_2) (ci := 10) rfl rfl (fun h9 => ct_X8_pass hC.hl G h9 v46 v48 v50 σ44) q_986 q_987 q_988 q_44 q_989 yd_X8_pass rfl ⟨Nat.le_of_ble_eq_true rfl, Nat.le_of_ble_eq_true rfl⟩ ⟨by omega, by omega⟩ rfl (Nat.le_of_ble_eq_true rfl) dL_law_292 (fun v51 σ52 => ?_)
      show Wo _ _ _ _ _ _ _ _ _ _ [.int v51]
      refine r_istore hC [(6, .int v51), (5, .int v43), (0, va_rf (some b9)), (1, va_rf x23_1), (2, va_rf x23_2), (3, va_rf x23_3), (4, .int x23_4)] (i := 6) (by decide) rfl dL_law_295 ?_
      refine r_aloadn hC 4 (r := x23_2) rfl rfl dL_law_297 ?_
      refine call_V hC (av := []) (st := []) (r := x23_2) (ci := 10) rfl rfl (fun h9 => ct_X8_thrown hC.hl G h9 σ52) q_871 q_872 q_873 q_44 q_874 yd_X8_thrown rfl ⟨Nat.le_of_ble_eq_true rfl, Nat.le_of_ble_eq_true rfl⟩ ⟨by omega, by omega⟩ rfl (Nat.le_of_ble_eq_true rfl) dL_law_298 (fun v54 σ55 => ?_)
      show Wo _ _ _ _ _ _ _ _ _ _ [.int v54]
      refine r_iload hC 1 rfl dL_law_301 ?_
      refine r_icmp_eq hC 308 dL_law_303 (by decide) ?_ ?_
      · refine r_iload hC 1 rfl dL_law_308 ?_
        refine r_if_ne hC 325 dL_law_310 (by decide) ?_ ?_
        · refine Wo.sub [2, 3, 4, 5, 6] rfl ?_
          exact t_L_law_325 hC hX P23 hm23 k23 hk23 x23_1 x23_2 x23_3 x23_4 σ55 _ _ ⟨by omega, by omega⟩ (hm23 _ _ _ _ (by omega) (by omega) hP23)
        · refine r_aloadn hC 5 (r := x23_3) rfl rfl dL_law_313 ?_
          refine r_iconst hC (0) rfl dL_law_314 ?_
          refine r_aJ hC (r := x23_3) dL_law_315 (fun v57 => ?_)
          refine r_iload hC 0 rfl dL_law_316 ?_
          refine r_i2l hC dL_law_318 (fun v58 => ?_)
          refine r_lcmp hC dL_law_319 (fun v59 => ?_)
          refine r_if_eq hC 325 dL_law_320 (by decide) ?_ ?_
          · refine Wo.sub [2, 3, 4, 5, 6] rfl ?_
            exact t_L_law_325 hC hX P23 hm23 k23 hk23 x23_1 x23_2 x23_3 x23_4 σ55 _ _ ⟨by omega, by omega⟩ (hm23 _ _ _ _ (by omega) (by omega) hP23)
          · refine r_iconst hC (0) rfl dL_law_323 ?_
            exact e_law hC hX ⟨by omega, by omega⟩ dL_law_324
      · refine r_iconst hC (0) rfl dL_law_306 ?_
        exact e_law hC hX ⟨by omega, by omega⟩ dL_law_307
    refine Wo.ite (fun h39_2 => ?_) (fun h39_2 => ?_)
    · refine r_tab hC 328 dL_law_39 (by rw [h39_2]; decide) (by rw [h39_2]; decide) (by rw [h39_2]; rfl) (by decide) ?_
      refine r_aloadn hC 1 (r := x23_1) rfl rfl dL_law_328 ?_
      refine r_aloadn hC 0 (r := (some b9)) rfl rfl dL_law_329 ?_
      refine r_iload hC 4 rfl dL_law_330 ?_
      refine r_iconst hC (1) rfl dL_law_332 ?_
      refine r_iadd hC dL_law_333 (fun v60 => ?_)
      refine r_sX hC hX dL_law_334 (fun v61 => ?_)
      refine r_aloadn hC 3 (r := x23_3) rfl rfl dL_law_335 ?_
      refine call_SW hC (av := [va_rf x23_1, .int v61, va_rf x23_3]) (st := []) (ct_L_prune hC.hl G x23_1 v61 x23_3 σ) q_570 q_571 q_38 q_572 yd_L_prune rfl ⟨Nat.le_of_ble_eq_true rfl, Nat.le_of_ble_eq_true rfl⟩ ⟨by omega, by omega⟩ rfl (Nat.le_of_ble_eq_true rfl) dL_law_336 (fun v62 σ63 => ?_)
      show Wo _ _ _ _ _ _ _ _ _ _ [.int v62]
      refine r_istore hC [(5, .int v62), (0, va_rf (some b9)), (1, va_rf x23_1), (2, va_rf x23_2), (3, va_rf x23_3), (4, .int x23_4)] (i := 5) (by decide) rfl dL_law_339 ?_
      refine r_aloadn hC 3 (r := x23_2) rfl rfl dL_law_341 ?_
      refine r_aloadn hC 1 (r := (some b9)) rfl rfl dL_law_342 ?_
      refine r_iload hC 5 rfl dL_law_343 ?_
      refine r_iconst hC (1) rfl dL_law_345 ?_
      refine r_iadd hC dL_law_346 (fun v64 => ?_)
      refine r_sX hC hX dL_law_347 (fun v65 => ?_)
      refine call_V hC (av := [.int v65]) (st := []) (r := x23_2) (ci := 10) rfl rfl (fun h9 => ct_X8_prune hC.hl G h9 v65 σ63) q_1049 q_1050 q_1051 q_44 q_1052 yd_X8_prune rfl ⟨Nat.le_of_ble_eq_true rfl, Nat.le_of_ble_eq_true rfl⟩ ⟨by omega, by omega⟩ rfl (Nat.le_of_ble_eq_true rfl) dL_law_348 (fun v66 σ67 => ?_)
      show Wo _ _ _ _ _ _ _ _ _ _ [.int v66]
      refine r_istore hC [(6, .int v66), (5, .int v62), (0, va_rf (some b9)), (1, va_rf x23_1), (2, va_rf x23_2), (3, va_rf x23_3), (4, .int x23_4)] (i := 6) (by decide) rfl dL_law_351 ?_
      refine r_aloadn hC 4 (r := x23_2) rfl rfl dL_law_353 ?_
      refine call_V hC (av := []) (st := []) (r := x23_2) (ci := 10) rfl rfl (fun h9 => ct_X8_thrown hC.hl G h9 σ67) q_871 q_872 q_873 q_44 q_874 yd_X8_thrown rfl ⟨Nat.le_of_ble_eq_true rfl, Nat.le_of_ble_eq_true rfl⟩ ⟨by omega, by omega⟩ rfl (Nat.le_of_ble_eq_true rfl) dL_law_354 (fun v69 σ70 => ?_)
      show Wo _ _ _ _ _ _ _ _ _ _ [.int v69]
      refine r_iload hC 1 rfl dL_law_357 ?_
      refine r_icmp_eq hC 364 dL_law_359 (by decide) ?_ ?_
      · refine r_iload hC 1 rfl dL_law_364 ?_
        refine r_if_ne hC 381 dL_law_366 (by decide) ?_ ?_
        · refine Wo.sub [2, 3, 4, 5, 6] rfl ?_
          exact t_L_law_381 hC hX P23 hm23 k23 hk23 x23_1 x23_2 x23_3 x23_4 σ70 _ _ ⟨by omega, by omega⟩ (hm23 _ _ _ _ (by omega) (by omega) hP23)
        · refine r_aloadn hC 5 (r := x23_3) rfl rfl dL_law_369 ?_
          refine r_iconst hC (0) rfl dL_law_370 ?_
          refine r_aJ hC (r := x23_3) dL_law_371 (fun v72 => ?_)
          refine r_iload hC 0 rfl dL_law_372 ?_
          refine r_i2l hC dL_law_374 (fun v73 => ?_)
          refine r_lcmp hC dL_law_375 (fun v74 => ?_)
          refine r_if_eq hC 381 dL_law_376 (by decide) ?_ ?_
          · refine Wo.sub [2, 3, 4, 5, 6] rfl ?_
            exact t_L_law_381 hC hX P23 hm23 k23 hk23 x23_1 x23_2 x23_3 x23_4 σ70 _ _ ⟨by omega, by omega⟩ (hm23 _ _ _ _ (by omega) (by omega) hP23)
          · refine r_iconst hC (0) rfl dL_law_379 ?_
            exact e_law hC hX ⟨by omega, by omega⟩ dL_law_380
      · refine r_iconst hC (0) rfl dL_law_362 ?_
        exact e_law hC hX ⟨by omega, by omega⟩ dL_law_363
    refine Wo.ite (fun h39_3 => ?_) (fun h39_3 => ?_)
    · refine r_tab hC 384 dL_law_39 (by rw [h39_3]; decide) (by rw [h39_3]; decide) (by rw [h39_3]; rfl) (by decide) ?_
      refine r_aloadn hC 1 (r := x23_1) rfl rfl dL_law_384 ?_
      refine r_aloadn hC 0 (r := (some b9)) rfl rfl dL_law_385 ?_
      refine r_iload hC 4 rfl dL_law_386 ?_
      refine r_iconst hC (1) rfl dL_law_388 ?_
      refine r_iadd hC dL_law_389 (fun v75 => ?_)
      refine r_sX hC hX dL_law_390 (fun v76 => ?_)
      refine r_aloadn hC 3 (r := x23_3) rfl rfl dL_law_391 ?_
      refine call_SW hC (av := [va_rf x23_1, .int v76, va_rf x23_3]) (st := []) (ct_L_spray hC.hl G x23_1 v76 x23_3 σ) q_582 q_583 q_38 q_584 yd_L_spray rfl ⟨Nat.le_of_ble_eq_true rfl, Nat.le_of_ble_eq_true rfl⟩ ⟨by omega, by omega⟩ rfl (Nat.le_of_ble_eq_true rfl) dL_law_392 (fun v77 σ78 => ?_)
      show Wo _ _ _ _ _ _ _ _ _ _ [.int v77]
      refine r_istore hC [(5, .int v77), (0, va_rf (some b9)), (1, va_rf x23_1), (2, va_rf x23_2), (3, va_rf x23_3), (4, .int x23_4)] (i := 5) (by decide) rfl dL_law_395 ?_
      refine r_aloadn hC 3 (r := x23_2) rfl rfl dL_law_397 ?_
      refine r_aloadn hC 1 (r := (some b9)) rfl rfl dL_law_398 ?_
      refine r_iload hC 5 rfl dL_law_399 ?_
      refine r_iconst hC (1) rfl dL_law_401 ?_
      refine r_iadd hC dL_law_402 (fun v79 => ?_)
      refine r_sX hC hX dL_law_403 (fun v80 => ?_)
      refine call_V hC (av := [.int v80]) (st := []) (r := x23_2) (ci := 10) rfl rfl (fun h9 => ct_X8_spray hC.hl G h9 v80 σ78) q_1075 q_1076 q_1077 q_44 q_1078 yd_X8_spray rfl ⟨Nat.le_of_ble_eq_true rfl, Nat.le_of_ble_eq_true rfl⟩ ⟨by omega, by omega⟩ rfl (Nat.le_of_ble_eq_true rfl) dL_law_404 (fun v81 σ82 => ?_)
      show Wo _ _ _ _ _ _ _ _ _ _ [.int v81]
      refine r_istore hC [(6, .int v81), (5, .int v77), (0, va_rf (some b9)), (1, va_rf x23_1), (2, va_rf x23_2), (3, va_rf x23_3), (4, .int x23_4)] (i := 6) (by decide) rfl dL_law_407 ?_
      refine r_aloadn hC 4 (r := x23_2) rfl rfl dL_law_409 ?_
      refine call_V hC (av := []) (st := []) (r := x23_2) (ci := 10) rfl rfl (fun h9 => ct_X8_thrown hC.hl G h9 σ82) q_871 q_872 q_873 q_44 q_874 yd_X8_thrown rfl ⟨Nat.le_of_ble_eq_true rfl, Nat.le_of_ble_eq_true rfl⟩ ⟨by omega, by omega⟩ rfl (Nat.le_of_ble_eq_true rfl) dL_law_410 (fun v84 σ85 => ?_)
      show Wo _ _ _ _ _ _ _ _ _ _ [.int v84]
      refine r_iload hC 1 rfl dL_law_413 ?_
      refine r_icmp_eq hC 420 dL_law_415 (by decide) ?_ ?_
      · refine r_iload hC 1 rfl dL_law_420 ?_
        refine r_if_ne hC 437 dL_law_422 (by decide) ?_ ?_
        · refine Wo.sub [2, 3, 4, 5, 6] rfl ?_
          exact t_L_law_437 hC hX P23 hm23 k23 hk23 x23_1 x23_2 x23_3 x23_4 σ85 _ _ ⟨by omega, by omega⟩ (hm23 _ _ _ _ (by omega) (by omega) hP23)
        · refine r_aloadn hC 5 (r := x23_3) rfl rfl dL_law_425 ?_
          refine r_iconst hC (0) rfl dL_law_426 ?_
          refine r_aJ hC (r := x23_3) dL_law_427 (fun v87 => ?_)
          refine r_iload hC 0 rfl dL_law_428 ?_
          refine r_i2l hC dL_law_430 (fun v88 => ?_)
          refine r_lcmp hC dL_law_431 (fun v89 => ?_)
          refine r_if_eq hC 437 dL_law_432 (by decide) ?_ ?_
          · refine Wo.sub [2, 3, 4, 5, 6] rfl ?_
            exact t_L_law_437 hC hX P23 hm23 k23 hk23 x23_1 x23_2 x23_3 x23_4 σ85 _ _ ⟨by omega, by omega⟩ (hm23 _ _ _ _ (by omega) (by omega) hP23)
          · refine r_iconst hC (0) rfl dL_law_435 ?_
            exact e_law hC hX ⟨by omega, by omega⟩ dL_law_436
      · refine r_iconst hC (0) rfl dL_law_418 ?_
        exact e_law hC hX ⟨by omega, by omega⟩ dL_law_419
    refine Wo.ite (fun h39_4 => ?_) (fun h39_4 => ?_)
    · refine r_tab hC 440 dL_law_39 (by rw [h39_4]; decide) (by rw [h39_4]; decide) (by rw [h39_4]; rfl) (by decide) ?_
      refine r_aloadn hC 1 (r := x23_1) rfl rfl dL_law_440 ?_
      refine r_aloadn hC 0 (r := (some b9)) rfl rfl dL_law_441 ?_
      refine r_iload hC 4 rfl dL_law_442 ?_
      refine r_iconst hC (1) rfl dL_law_444 ?_
      refine r_iadd hC dL_law_445 (fun v90 => ?_)
      refine r_sX hC hX dL_law_446 (fun v91 => ?_)
      refine r_aloadn hC 0 (r := (some b9)) rfl rfl dL_law_447 ?_
      refine r_iload hC 4 rfl dL_law_448 ?_
      refine r_iconst hC (2) rfl dL_law_450 ?_
      refine r_iadd hC dL_law_451 (fun v92 => ?_)
      refine r_sX hC hX dL_law_452 (fun v93 => ?_)
      refine r_aloadn hC 0 (r := (some b9)) rfl rfl dL_law_453 ?_
      refine r_iload hC 4 rfl dL_law_454 ?_
      refine r_iconst hC (3) rfl dL_law_456 ?_
      refine r_iadd hC dL_law_457 (fun v94 => ?_)
      refine r_sX hC hX dL_law_458 (fun v95 => ?_)
      refine r_aloadn hC 3 (r := x23_3) rfl rfl dL_law_459 ?_
      refine call_SW hC (av := [va_rf x23_1, .int v91, .int v93, .int v95, va_rf x23_3]) (st := []) (ct_L_pluck hC.hl G x23_1 v91 v93 v95 x23_3 σ) q_589 q_590 q_38 q_591 yd_L_pluck rfl ⟨Nat.le_of_ble_eq_true rfl, Nat.le_of_ble_eq_true rfl⟩ ⟨by omega, by omega⟩ rfl (Nat.le_of_ble_eq_true rfl) dL_law_460 (fun v96 σ97 => ?_)
      show Wo _ _ _ _ _ _ _ _ _ _ [.int v96]
      refine r_istore hC [(5, .int v96), (0, va_rf (some b9)), (1, va_rf x23_1), (2, va_rf x23_2), (3, va_rf x23_3), (4, .int x23_4)] (i := 5) (by decide) rfl dL_law_463 ?_
      refine r_aloadn hC 3 (r := x23_2) rfl rfl dL_law_465 ?_
      refine r_aloadn hC 1 (r := (some b9)) rfl rfl dL_law_466 ?_
      refine r_iload hC 5 rfl dL_law_467 ?_
      refine r_iconst hC (1) rfl dL_law_469 ?_
      refine r_iadd hC dL_law_470 (fun v98 => ?_)
      refine r_sX hC hX dL_law_471 (fun v99 => ?_)
      refine r_aloadn hC 1 (r := (some b9)) rfl rfl dL_law_472 ?_
      refine r_iload hC 5 rfl dL_law_473 ?_
      refine r_iconst hC (2) rfl dL_law_475 ?_
      refine r_iadd hC dL_law_476 (fun v100 => ?_)
      refine r_sX hC hX dL_law_477 (fun v101 => ?_)
      refine r_aloadn hC 1 (r := (some b9)) rfl rfl dL_law_478 ?_
      refine r_iload hC 5 rfl dL_law_479 ?_
      refine r_iconst hC (3) rfl dL_law_481 ?_
      refine r_iadd hC dL_law_482 (fun v102 => ?_)
      refine r_sX hC hX dL_law_483 (fun v103 => ?_)
      refine call_V hC (av := [.int v99, .int v101, .int v103]) (st := []) (r := x23_2) (ci := 10) rfl rfl (fun h9 => ct_X8_pluck hC.hl G h9 v99 v101 v103 σ97) q_1079 q_1080 q_1081 q_44 q_1082 yd_X8_pluck rfl ⟨Nat.le_of_ble_eq_true rfl, Nat.le_of_ble_eq_true rfl⟩ ⟨by omega, by omega⟩ rfl (Nat.le_of_ble_eq_true rfl) dL_law_484 (fun v104 σ105 => ?_)
      show Wo _ _ _ _ _ _ _ _ _ _ [.int v104]
      refine r_istore hC [(6, .int v104), (5, .int v96), (0, va_rf (some b9)), (1, va_rf x23_1), (2, va_rf x23_2), (3, va_rf x23_3), (4, .int x23_4)] (i := 6) (by decide) rfl dL_law_487 ?_
      refine r_aloadn hC 4 (r := x23_2) rfl rfl dL_law_489 ?_
      refine call_V hC (av := []) (st := []) (r := x23_2) (ci := 10) rfl rfl (fun h9 => ct_X8_thrown hC.hl G h9 σ105) q_871 q_872 q_873 q_44 q_874 yd_X8_thrown rfl ⟨Nat.le_of_ble_eq_true rfl, Nat.le_of_ble_eq_true rfl⟩ ⟨by omega, by omega⟩ rfl (Nat.le_of_ble_eq_true rfl) dL_law_490 (fun v107 σ108 => ?_)
      show Wo _ _ _ _ _ _ _ _ _ _ [.int v107]
      refine r_iload hC 1 rfl dL_law_493 ?_
      refine r_icmp_eq hC 500 dL_law_495 (by decide) ?_ ?_
      · refine r_iload hC 1 rfl dL_law_500 ?_
        refine r_if_ne hC 517 dL_law_502 (by decide) ?_ ?_
        · refine Wo.sub [2, 3, 4, 5, 6] rfl ?_
          exact t_L_law_517 hC hX P23 hm23 k23 hk23 x23_1 x23_2 x23_3 x23_4 σ108 _ _ ⟨by omega, by omega⟩ (hm23 _ _ _ _ (by omega) (by omega) hP23)
        · refine r_aloadn hC 5 (r := x23_3) rfl rfl dL_law_505 ?_
          refine r_iconst hC (0) rfl dL_law_506 ?_
          refine r_aJ hC (r := x23_3) dL_law_507 (fun v110 => ?_)
          refine r_iload hC 0 rfl dL_law_508 ?_
          refine r_i2l hC dL_law_510 (fun v111 => ?_)
          refine r_lcmp hC dL_law_511 (fun v112 => ?_)
          refine r_if_eq hC 517 dL_law_512 (by decide) ?_ ?_
          · refine Wo.sub [2, 3, 4, 5, 6] rfl ?_
            exact t_L_law_517 hC hX P23 hm23 k23 hk23 x23_1 x23_2 x23_3 x23_4 σ108 _ _ ⟨by omega, by omega⟩ (hm23 _ _ _ _ (by omega) (by omega) hP23)
          · refine r_iconst hC (0) rfl dL_law_515 ?_
            exact e_law hC hX ⟨by omega, by omega⟩ dL_law_516
      · refine r_iconst hC (0) rfl dL_law_498 ?_
        exact e_law hC hX ⟨by omega, by omega⟩ dL_law_499
    refine Wo.ite (fun h39_5 => ?_) (fun h39_5 => ?_)
    · refine r_tab hC 520 dL_law_39 (by rw [h39_5]; decide) (by rw [h39_5]; decide) (by rw [h39_5]; rfl) (by decide) ?_
      refine r_aloadn hC 1 (r := x23_1) rfl rfl dL_law_520 ?_
      refine r_aloadn hC 0 (r := (some b9)) rfl rfl dL_law_521 ?_
      refine r_iload hC 4 rfl dL_law_522 ?_
      refine r_iconst hC (1) rfl dL_law_524 ?_
      refine r_iadd hC dL_law_525 (fun v113 => ?_)
      refine r_sX hC hX dL_law_526 (fun v114 => ?_)
      refine r_aloadn hC 0 (r := (some b9)) rfl rfl dL_law_527 ?_
      refine r_iload hC 4 rfl dL_law_528 ?_
      refine r_iconst hC (2) rfl dL_law_530 ?_
      refine r_iadd hC dL_law_531 (fun v115 => ?_)
      refine r_sX hC hX dL_law_532 (fun v116 => ?_)
      refine r_aloadn hC 3 (r := x23_3) rfl rfl dL_law_533 ?_
      refine call_SW hC (av := [va_rf x23_1, .int v114, .int v116, va_rf x23_3]) (st := []) (ct_L_join hC.hl G x23_1 v114 v116 x23_3 σ) q_600 q_601 q_38 q_602 yd_L_join rfl ⟨Nat.le_of_ble_eq_true rfl, Nat.le_of_ble_eq_true rfl⟩ ⟨by omega, by omega⟩ rfl (Nat.le_of_ble_eq_true rfl) dL_law_534 (fun v117 σ118 => ?_)
      show Wo _ _ _ _ _ _ _ _ _ _ [.int v117]
      refine r_istore hC [(5, .int v117), (0, va_rf (some b9)), (1, va_rf x23_1), (2, va_rf x23_2), (3, va_rf x23_3), (4, .int x23_4)] (i := 5) (by decide) rfl dL_law_537 ?_
      refine r_aloadn hC 3 (r := x23_2) rfl rfl dL_law_539 ?_
      refine r_aloadn hC 1 (r := (some b9)) rfl rfl dL_law_540 ?_
      refine r_iload hC 5 rfl dL_law_541 ?_
      refine r_iconst hC (1) rfl dL_law_543 ?_
      refine r_iadd hC dL_law_544 (fun v119 => ?_)
      refine r_sX hC hX dL_law_545 (fun v120 => ?_)
      refine r_aloadn hC 1 (r := (some b9)) rfl rfl dL_law_546 ?_
      refine r_iload hC 5 rfl dL_law_547 ?_
      refine r_iconst hC (2) rfl dL_law_549 ?_
      refine r_iadd hC dL_law_550 (fun v121 => ?_)
      refine r_sX hC hX dL_law_551 (fun v122 => ?_)
      refine call_V hC (av := [.int v120, .int v122]) (st := []) (r := x23_2) (ci := 10) rfl rfl (fun h9 => ct_X8_join hC.hl G h9 v120 v122 σ118) q_1161 q_1162 q_1163 q_44 q_1164 yd_X8_join rfl ⟨Nat.le_of_ble_eq_true rfl, Nat.le_of_ble_eq_true rfl⟩ ⟨by omega, by omega⟩ rfl (Nat.le_of_ble_eq_true rfl) dL_law_552 (fun v123 σ124 => ?_)
      show Wo _ _ _ _ _ _ _ _ _ _ [.int v123]
      refine r_istore hC [(6, .int v123), (5, .int v117), (0, va_rf (some b9)), (1, va_rf x23_1), (2, va_rf x23_2), (3, va_rf x23_3), (4, .int x23_4)] (i := 6) (by decide) rfl dL_law_555 ?_
      refine r_aloadn hC 4 (r := x23_2) rfl rfl dL_law_557 ?_
      refine call_V hC (av := []) (st := []) (r := x23_2) (ci := 10) rfl rfl (fun h9 => ct_X8_thrown hC.hl G h9 σ124) q_871 q_872 q_873 q_44 q_874 yd_X8_thrown rfl ⟨Nat.le_of_ble_eq_true rfl, Nat.le_of_ble_eq_true rfl⟩ ⟨by omega, by omega⟩ rfl (Nat.le_of_ble_eq_true rfl) dL_law_558 (fun v126 σ127 => ?_)
      show Wo _ _ _ _ _ _ _ _ _ _ [.int v126]
      refine r_iload hC 1 rfl dL_law_561 ?_
      refine r_icmp_eq hC 568 dL_law_563 (by decide) ?_ ?_
      · refine r_iload hC 1 rfl dL_law_568 ?_
        refine r_if_ne hC 585 dL_law_570 (by decide) ?_ ?_
        · refine Wo.sub [2, 3, 4, 5, 6] rfl ?_
          exact t_L_law_585 hC hX P23 hm23 k23 hk23 x23_1 x23_2 x23_3 x23_4 σ127 _ _ ⟨by omega, by omega⟩ (hm23 _ _ _ _ (by omega) (by omega) hP23)
        · refine r_aloadn hC 5 (r := x23_3) rfl rfl dL_law_573 ?_
          refine r_iconst hC (0) rfl dL_law_574 ?_
          refine r_aJ hC (r := x23_3) dL_law_575 (fun v129 => ?_)
          refine r_iload hC 0 rfl dL_law_576 ?_
          refine r_i2l hC dL_law_578 (fun v130 => ?_)
          refine r_lcmp hC dL_law_579 (fun v131 => ?_)
          refine r_if_eq hC 585 dL_law_580 (by decide) ?_ ?_
          · refine Wo.sub [2, 3, 4, 5, 6] rfl ?_
            exact t_L_law_585 hC hX P23 hm23 k23 hk23 x23_1 x23_2 x23_3 x23_4 σ127 _ _ ⟨by omega, by omega⟩ (hm23 _ _ _ _ (by omega) (by omega) hP23)
          · refine r_iconst hC (0) rfl dL_law_583 ?_
            exact e_law hC hX ⟨by omega, by omega⟩ dL_law_584
      · refine r_iconst hC (0) rfl dL_law_566 ?_
        exact e_law hC hX ⟨by omega, by omega⟩ dL_law_567
    refine Wo.ite (fun h39_6 => ?_) (fun h39_6 => ?_)
    · refine r_tab hC 588 dL_law_39 (by rw [h39_6]; decide) (by rw [h39_6]; decide) (by rw [h39_6]; rfl) (by decide) ?_
      refine r_aloadn hC 1 (r := x23_1) rfl rfl dL_law_588 ?_
      refine r_aloadn hC 0 (r := (some b9)) rfl rfl dL_law_589 ?_
      refine r_iload hC 4 rfl dL_law_590 ?_
      refine r_iconst hC (1) rfl dL_law_592 ?_
      refine r_iadd hC dL_law_593 (fun v132 => ?_)
      refine r_sX hC hX dL_law_594 (fun v133 => ?_)
      refine r_aloadn hC 0 (r := (some b9)) rfl rfl dL_law_595 ?_
      refine r_iload hC 4 rfl dL_law_596 ?_
      refine r_iconst hC (2) rfl dL_law_598 ?_
      refine r_iadd hC dL_law_599 (fun v134 => ?_)
      refine r_sX hC hX dL_law_600 (fun v135 => ?_)
      refine r_aloadn hC 0 (r := (some b9)) rfl rfl dL_law_601 ?_
      refine r_iload hC 4 rfl dL_law_602 ?_
      refine r_iconst hC (3) rfl dL_law_604 ?_
      refine r_iadd hC dL_law_605 (fun v136 => ?_)
      refine r_sX hC hX dL_law_606 (fun v137 => ?_)
      refine r_aloadn hC 3 (r := x23_3) rfl rfl dL_law_607 ?_
      refine call_SW hC (av := [va_rf x23_1, .int v133, .int v135, .int v137, va_rf x23_3]) (st := []) (ct_L_wither hC.hl G x23_1 v133 v135 v137 x23_3 σ) q_614 q_615 q_38 q_616 yd_L_wither rfl ⟨Nat.le_of_ble_eq_true rfl, Nat.le_of_ble_eq_true rfl⟩ ⟨by omega, by omega⟩ rfl (Nat.le_of_ble_eq_true rfl) dL_law_608 (fun v138 σ139 => ?_)
      show Wo _ _ _ _ _ _ _ _ _ _ [.int v138]
      refine r_istore hC [(5, .int v138), (0, va_rf (some b9)), (1, va_rf x23_1), (2, va_rf x23_2), (3, va_rf x23_3), (4, .int x23_4)] (i := 5) (by decide) rfl dL_law_611 ?_
      refine r_aloadn hC 3 (r := x23_2) rfl rfl dL_law_613 ?_
      refine r_aloadn hC 1 (r := (some b9)) rfl rfl dL_law_614 ?_
      refine r_iload hC 5 rfl dL_law_615 ?_
      refine r_iconst hC (1) rfl dL_law_617 ?_
      refine r_iadd hC dL_law_618 (fun v140 => ?_)
      refine r_sX hC hX dL_law_619 (fun v141 => ?_)
      refine r_aloadn hC 1 (r := (some b9)) rfl rfl dL_law_620 ?_
      refine r_iload hC 5 rfl dL_law_621 ?_
      refine r_iconst hC (2) rfl dL_law_623 ?_
      refine r_iadd hC dL_law_624 (fun v142 => ?_)
      refine r_sX hC hX dL_law_625 (fun v143 => ?_)
      refine r_aloadn hC 1 (r := (some b9)) rfl rfl dL_law_626 ?_
      refine r_iload hC 5 rfl dL_law_627 ?_
      refine r_iconst hC (3) rfl dL_law_629 ?_
      refine r_iadd hC dL_law_630 (fun v144 => ?_)
      refine r_sX hC hX dL_law_631 (fun v145 => ?_)
      refine call_V hC (av := [.int v141, .int v143, .int v145]) (st := []) (r := x23_2) (ci := 10) rfl rfl (fun h9 => ct_X8_wither hC.hl G h9 v141 v143 v145 σ139) q_1177 q_1178 q_1179 q_44 q_1180 yd_X8_wither rfl ⟨Nat.le_of_ble_eq_true rfl, Nat.le_of_ble_eq_true rfl⟩ ⟨by omega, by omega⟩ rfl (Nat.le_of_ble_eq_true rfl) dL_law_632 (fun v146 σ147 => ?_)
      show Wo _ _ _ _ _ _ _ _ _ _ [.int v146]
      refine r_istore hC [(6, .int v146), (5, .int v138), (0, va_rf (some b9)), (1, va_rf x23_1), (2, va_rf x23_2), (3, va_rf x23_3), (4, .int x23_4)] (i := 6) (by decide) rfl dL_law_635 ?_
      refine r_aloadn hC 4 (r := x23_2) rfl rfl dL_law_637 ?_
      refine call_V hC (av := []) (st := []) (r := x23_2) (ci := 10) rfl rfl (fun h9 => ct_X8_thrown hC.hl G h9 σ147) q_871 q_872 q_873 q_44 q_874 yd_X8_thrown rfl ⟨Nat.le_of_ble_eq_true rfl, Nat.le_of_ble_eq_true rfl⟩ ⟨by omega, by omega⟩ rfl (Nat.le_of_ble_eq_true rfl) dL_law_638 (fun v149 σ150 => ?_)
      show Wo _ _ _ _ _ _ _ _ _ _ [.int v149]
      refine r_iload hC 1 rfl dL_law_641 ?_
      refine r_icmp_eq hC 648 dL_law_643 (by decide) ?_ ?_
      · refine r_iload hC 1 rfl dL_law_648 ?_
        refine r_if_ne hC 665 dL_law_650 (by decide) ?_ ?_
        · refine Wo.sub [2, 3, 4, 5, 6] rfl ?_
          exact t_L_law_665 hC hX P23 hm23 k23 hk23 x23_1 x23_2 x23_3 x23_4 σ150 _ _ ⟨by omega, by omega⟩ (hm23 _ _ _ _ (by omega) (by omega) hP23)
        · refine r_aloadn hC 5 (r := x23_3) rfl rfl dL_law_653 ?_
          refine r_iconst hC (0) rfl dL_law_654 ?_
          refine r_aJ hC (r := x23_3) dL_law_655 (fun v152 => ?_)
          refine r_iload hC 0 rfl dL_law_656 ?_
          refine r_i2l hC dL_law_658 (fun v153 => ?_)
          refine r_lcmp hC dL_law_659 (fun v154 => ?_)
          refine r_if_eq hC 665 dL_law_660 (by decide) ?_ ?_
          · refine Wo.sub [2, 3, 4, 5, 6] rfl ?_
            exact t_L_law_665 hC hX P23 hm23 k23 hk23 x23_1 x23_2 x23_3 x23_4 σ150 _ _ ⟨by omega, by omega⟩ (hm23 _ _ _ _ (by omega) (by omega) hP23)
          · refine r_iconst hC (0) rfl dL_law_663 ?_
            exact e_law hC hX ⟨by omega, by omega⟩ dL_law_664
      · refine r_iconst hC (0) rfl dL_law_646 ?_
        exact e_law hC hX ⟨by omega, by omega⟩ dL_law_647
    refine Wo.ite (fun h39_7 => ?_) (fun h39_7 => ?_)
    · refine r_tab hC 668 dL_law_39 (by rw [h39_7]; decide) (by rw [h39_7]; decide) (by rw [h39_7]; rfl) (by decide) ?_
      refine r_aloadn hC 1 (r := x23_1) rfl rfl dL_law_668 ?_
      refine r_aloadn hC 0 (r := (some b9)) rfl rfl dL_law_669 ?_
      refine r_iload hC 4 rfl dL_law_670 ?_
      refine r_iconst hC (1) rfl dL_law_672 ?_
      refine r_iadd hC dL_law_673 (fun v155 => ?_)
      refine r_sX hC hX dL_law_674 (fun v156 => ?_)
      refine r_aloadn hC 3 (r := x23_3) rfl rfl dL_law_675 ?_
      refine call_SW hC (av := [va_rf x23_1, .int v156, va_rf x23_3]) (st := []) (ct_L_kill hC.hl G x23_1 v156 x23_3 σ) q_621 q_622 q_38 q_623 yd_L_kill rfl ⟨Nat.le_of_ble_eq_true rfl, Nat.le_of_ble_eq_true rfl⟩ ⟨by omega, by omega⟩ rfl (Nat.le_of_ble_eq_true rfl) dL_law_676 (fun v157 σ158 => ?_)
      show Wo _ _ _ _ _ _ _ _ _ _ [.int v157]
      refine r_istore hC [(5, .int v157), (0, va_rf (some b9)), (1, va_rf x23_1), (2, va_rf x23_2), (3, va_rf x23_3), (4, .int x23_4)] (i := 5) (by decide) rfl dL_law_679 ?_
      refine r_aloadn hC 3 (r := x23_2) rfl rfl dL_law_681 ?_
      refine r_aloadn hC 1 (r := (some b9)) rfl rfl dL_law_682 ?_
      refine r_iload hC 5 rfl dL_law_683 ?_
      refine r_iconst hC (1) rfl dL_law_685 ?_
      refine r_iadd hC dL_law_686 (fun v159 => ?_)
      refine r_sX hC hX dL_law_687 (fun v160 => ?_)
      refine call_V hC (av := [.int v160]) (st := []) (r := x23_2) (ci := 10) rfl rfl (fun h9 => ct_X8_kill hC.hl G h9 v160 σ158) q_1191 q_1192 q_1193 q_44 q_1194 yd_X8_kill rfl ⟨Nat.le_of_ble_eq_true rfl, Nat.le_of_ble_eq_true rfl⟩ ⟨by omega, by omega⟩ rfl (Nat.le_of_ble_eq_true rfl) dL_law_688 (fun v161 σ162 => ?_)
      show Wo _ _ _ _ _ _ _ _ _ _ [.int v161]
      refine r_istore hC [(6, .int v161), (5, .int v157), (0, va_rf (some b9)), (1, va_rf x23_1), (2, va_rf x23_2), (3, va_rf x23_3), (4, .int x23_4)] (i := 6) (by decide) rfl dL_law_691 ?_
      refine r_aloadn hC 4 (r := x23_2) rfl rfl dL_law_693 ?_
      refine call_V hC (av := []) (st := []) (r := x23_2) (ci := 10) rfl rfl (fun h9 => ct_X8_thrown hC.hl G h9 σ162) q_871 q_872 q_873 q_44 q_874 yd_X8_thrown rfl ⟨Nat.le_of_ble_eq_true rfl, Nat.le_of_ble_eq_true rfl⟩ ⟨by omega, by omega⟩ rfl (Nat.le_of_ble_eq_true rfl) dL_law_694 (fun v164 σ165 => ?_)
      show Wo _ _ _ _ _ _ _ _ _ _ [.int v164]
      refine r_iload hC 1 rfl dL_law_697 ?_
      refine r_icmp_eq hC 704 dL_law_699 (by decide) ?_ ?_
      · refine r_iload hC 1 rfl dL_law_704 ?_
        refine r_if_ne hC 721 dL_law_706 (by decide) ?_ ?_
        · refine Wo.sub [2, 3, 4, 5, 6] rfl ?_
          exact t_L_law_721 hC hX P23 hm23 k23 hk23 x23_1 x23_2 x23_3 x23_4 σ165 _ _ ⟨by omega, by omega⟩ (hm23 _ _ _ _ (by omega) (by omega) hP23)
        · refine r_aloadn hC 5 (r := x23_3) rfl rfl dL_law_709 ?_
          refine r_iconst hC (0) rfl dL_law_710 ?_
          refine r_aJ hC (r := x23_3) dL_law_711 (fun v167 => ?_)
          refine r_iload hC 0 rfl dL_law_712 ?_
          refine r_i2l hC dL_law_714 (fun v168 => ?_)
          refine r_lcmp hC dL_law_715 (fun v169 => ?_)
          refine r_if_eq hC 721 dL_law_716 (by decide) ?_ ?_
          · refine Wo.sub [2, 3, 4, 5, 6] rfl ?_
            exact t_L_law_721 hC hX P23 hm23 k23 hk23 x23_1 x23_2 x23_3 x23_4 σ165 _ _ ⟨by omega, by omega⟩ (hm23 _ _ _ _ (by omega) (by omega) hP23)
          · refine r_iconst hC (0) rfl dL_law_719 ?_
            exact e_law hC hX ⟨by omega, by omega⟩ dL_law_720
      · refine r_iconst hC (0) rfl dL_law_702 ?_
        exact e_law hC hX ⟨by omega, by omega⟩ dL_law_703
    refine Wo.ite (fun h39_8 => ?_) (fun h39_8 => ?_)
    · refine r_tab hC 724 dL_law_39 (by rw [h39_8]; decide) (by rw [h39_8]; decide) (by rw [h39_8]; rfl) (by decide) ?_
      refine r_aloadn hC 1 (r := x23_1) rfl rfl dL_law_724 ?_
      refine r_aloadn hC 0 (r := (some b9)) rfl rfl dL_law_725 ?_
      refine r_iload hC 4 rfl dL_law_726 ?_
      refine r_iconst hC (1) rfl dL_law_728 ?_
      refine r_iadd hC dL_law_729 (fun v170 => ?_)
      refine r_sX hC hX dL_law_730 (fun v171 => ?_)
      refine r_aloadn hC 0 (r := (some b9)) rfl rfl dL_law_731 ?_
      refine r_iload hC 4 rfl dL_law_732 ?_
      refine r_iconst hC (2) rfl dL_law_734 ?_
      refine r_iadd hC dL_law_735 (fun v172 => ?_)
      refine r_sX hC hX dL_law_736 (fun v173 => ?_)
      refine r_aloadn hC 3 (r := x23_3) rfl rfl dL_law_737 ?_
      refine call_SW hC (av := [va_rf x23_1, .int v171, .int v173, va_rf x23_3]) (st := []) (ct_L_roll hC.hl G x23_1 v171 v173 x23_3 σ) q_628 q_629 q_38 q_630 yd_L_roll rfl ⟨Nat.le_of_ble_eq_true rfl, Nat.le_of_ble_eq_true rfl⟩ ⟨by omega, by omega⟩ rfl (Nat.le_of_ble_eq_true rfl) dL_law_738 (fun v174 σ175 => ?_)
      show Wo _ _ _ _ _ _ _ _ _ _ [.int v174]
      refine r_istore hC [(5, .int v174), (0, va_rf (some b9)), (1, va_rf x23_1), (2, va_rf x23_2), (3, va_rf x23_3), (4, .int x23_4)] (i := 5) (by decide) rfl dL_law_741 ?_
      refine r_aloadn hC 3 (r := x23_2) rfl rfl dL_law_743 ?_
      refine r_aloadn hC 1 (r := (some b9)) rfl rfl dL_law_744 ?_
      refine r_iload hC 5 rfl dL_law_745 ?_
      refine r_iconst hC (1) rfl dL_law_747 ?_
      refine r_iadd hC dL_law_748 (fun v176 => ?_)
      refine r_sX hC hX dL_law_749 (fun v177 => ?_)
      refine r_aloadn hC 1 (r := (some b9)) rfl rfl dL_law_750 ?_
      refine r_iload hC 5 rfl dL_law_751 ?_
      refine r_iconst hC (2) rfl dL_law_753 ?_
      refine r_iadd hC dL_law_754 (fun v178 => ?_)
      refine r_sX hC hX dL_law_755 (fun v179 => ?_)
      refine call_V hC (av := [.int v177, .int v179]) (st := []) (r := x23_2) (ci := 10) rfl rfl (fun h9 => ct_X8_roll hC.hl G h9 v177 v179 σ175) q_1195 q_1196 q_1197 q_44 q_1198 yd_X8_roll rfl ⟨Nat.le_of_ble_eq_true rfl, Nat.le_of_ble_eq_true rfl⟩ ⟨by omega, by omega⟩ rfl (Nat.le_of_ble_eq_true rfl) dL_law_756 (fun v180 σ181 => ?_)
      show Wo _ _ _ _ _ _ _ _ _ _ [.int v180]
      refine r_istore hC [(6, .int v180), (5, .int v174), (0, va_rf (some b9)), (1, va_rf x23_1), (2, va_rf x23_2), (3, va_rf x23_3), (4, .int x23_4)] (i := 6) (by decide) rfl dL_law_759 ?_
      refine r_aloadn hC 4 (r := x23_2) rfl rfl dL_law_761 ?_
      refine call_V hC (av := []) (st := []) (r := x23_2) (ci := 10) rfl rfl (fun h9 => ct_X8_thrown hC.hl G h9 σ181) q_871 q_872 q_873 q_44 q_874 yd_X8_thrown rfl ⟨Nat.le_of_ble_eq_true rfl, Nat.le_of_ble_eq_true rfl⟩ ⟨by omega, by omega⟩ rfl (Nat.le_of_ble_eq_true rfl) dL_law_762 (fun v183 σ184 => ?_)
      show Wo _ _ _ _ _ _ _ _ _ _ [.int v183]
      refine r_iload hC 1 rfl dL_law_765 ?_
      refine r_icmp_eq hC 772 dL_law_767 (by decide) ?_ ?_
      · refine r_iload hC 1 rfl dL_law_772 ?_
        refine r_if_ne hC 789 dL_law_774 (by decide) ?_ ?_
        · refine Wo.sub [2, 3, 4, 5, 6] rfl ?_
          exact t_L_law_789 hC hX P23 hm23 k23 hk23 x23_1 x23_2 x23_3 x23_4 σ184 _ _ ⟨by omega, by omega⟩ (hm23 _ _ _ _ (by omega) (by omega) hP23)
        · refine r_aloadn hC 5 (r := x23_3) rfl rfl dL_law_777 ?_
          refine r_iconst hC (0) rfl dL_law_778 ?_
          refine r_aJ hC (r := x23_3) dL_law_779 (fun v186 => ?_)
          refine r_iload hC 0 rfl dL_law_780 ?_
          refine r_i2l hC dL_law_782 (fun v187 => ?_)
          refine r_lcmp hC dL_law_783 (fun v188 => ?_)
          refine r_if_eq hC 789 dL_law_784 (by decide) ?_ ?_
          · refine Wo.sub [2, 3, 4, 5, 6] rfl ?_
            exact t_L_law_789 hC hX P23 hm23 k23 hk23 x23_1 x23_2 x23_3 x23_4 σ184 _ _ ⟨by omega, by omega⟩ (hm23 _ _ _ _ (by omega) (by omega) hP23)
          · refine r_iconst hC (0) rfl dL_law_787 ?_
            exact e_law hC hX ⟨by omega, by omega⟩ dL_law_788
      · refine r_iconst hC (0) rfl dL_law_770 ?_
        exact e_law hC hX ⟨by omega, by omega⟩ dL_law_771
    refine Wo.ite (fun h39_9 => ?_) (fun h39_9 => ?_)
    · refine r_tab hC 792 dL_law_39 (by rw [h39_9]; decide) (by rw [h39_9]; decide) (by rw [h39_9]; rfl) (by decide) ?_
      refine r_aloadn hC 1 (r := x23_1) rfl rfl dL_law_792 ?_
      refine r_aloadn hC 0 (r := (some b9)) rfl rfl dL_law_793 ?_
      refine r_iload hC 4 rfl dL_law_794 ?_
      refine r_iconst hC (1) rfl dL_law_796 ?_
      refine r_iadd hC dL_law_797 (fun v189 => ?_)
      refine r_sX hC hX dL_law_798 (fun v190 => ?_)
      refine r_aloadn hC 0 (r := (some b9)) rfl rfl dL_law_799 ?_
      refine r_iload hC 4 rfl dL_law_800 ?_
      refine r_iconst hC (2) rfl dL_law_802 ?_
      refine r_iadd hC dL_law_803 (fun v191 => ?_)
      refine r_sX hC hX dL_law_804 (fun v192 => ?_)
      refine r_aloadn hC 0 (r := (some b9)) rfl rfl dL_law_805 ?_
      refine r_iload hC 4 rfl dL_law_806 ?_
      refine r_iconst hC (3) rfl dL_law_808 ?_
      refine r_iadd hC dL_law_809 (fun v193 => ?_)
      refine r_sX hC hX dL_law_810 (fun v194 => ?_)
      refine r_aloadn hC 3 (r := x23_3) rfl rfl dL_law_811 ?_
      refine call_SW hC (av := [va_rf x23_1, .int v190, .int v192, .int v194, va_rf x23_3]) (st := []) (ct_L_rest hC.hl G x23_1 v190 v192 v194 x23_3 σ) q_635 q_636 q_38 q_637 yd_L_rest rfl ⟨Nat.le_of_ble_eq_true rfl, Nat.le_of_ble_eq_true rfl⟩ ⟨by omega, by omega⟩ rfl (Nat.le_of_ble_eq_true rfl) dL_law_812 (fun v195 σ196 => ?_)
      show Wo _ _ _ _ _ _ _ _ _ _ [.int v195]
      refine r_istore hC [(5, .int v195), (0, va_rf (some b9)), (1, va_rf x23_1), (2, va_rf x23_2), (3, va_rf x23_3), (4, .int x23_4)] (i := 5) (by decide) rfl dL_law_815 ?_
      refine r_aloadn hC 3 (r := x23_2) rfl rfl dL_law_817 ?_
      refine r_aloadn hC 1 (r := (some b9)) rfl rfl dL_law_818 ?_
      refine r_iload hC 5 rfl dL_law_819 ?_
      refine r_iconst hC (1) rfl dL_law_821 ?_
      refine r_iadd hC dL_law_822 (fun v197 => ?_)
      refine r_sX hC hX dL_law_823 (fun v198 => ?_)
      refine r_aloadn hC 1 (r := (some b9)) rfl rfl dL_law_824 ?_
      refine r_iload hC 5 rfl dL_law_825 ?_
      refine r_iconst hC (2) rfl dL_law_827 ?_
      refine r_iadd hC dL_law_828 (fun v199 => ?_)
      refine r_sX hC hX dL_law_829 (fun v200 => ?_)
      refine r_aloadn hC 1 (r := (some b9)) rfl rfl dL_law_830 ?_
      refine r_iload hC 5 rfl dL_law_831 ?_
      refine r_iconst hC (3) rfl dL_law_833 ?_
      refine r_iadd hC dL_law_834 (fun v201 => ?_)
      refine r_sX hC hX dL_law_835 (fun v202 => ?_)
      refine call_V hC (av := [.int v198, .int v200, .int v202]) (st := []) (r := x23_2) (ci := 10) rfl rfl (fun h9 => ct_X8_rest hC.hl G h9 v198 v200 v202 σ196) q_1199 q_1200 q_1201 q_44 q_1202 yd_X8_rest rfl ⟨Nat.le_of_ble_eq_true rfl, Nat.le_of_ble_eq_true rfl⟩ ⟨by omega, by omega⟩ rfl (Nat.le_of_ble_eq_true rfl) dL_law_836 (fun v203 σ204 => ?_)
      show Wo _ _ _ _ _ _ _ _ _ _ [.int v203]
      refine r_istore hC [(6, .int v203), (5, .int v195), (0, va_rf (some b9)), (1, va_rf x23_1), (2, va_rf x23_2), (3, va_rf x23_3), (4, .int x23_4)] (i := 6) (by decide) rfl dL_law_839 ?_
      refine r_aloadn hC 4 (r := x23_2) rfl rfl dL_law_841 ?_
      refine call_V hC (av := []) (st := []) (r := x23_2) (ci := 10) rfl rfl (fun h9 => ct_X8_thrown hC.hl G h9 σ204) q_871 q_872 q_873 q_44 q_874 yd_X8_thrown rfl ⟨Nat.le_of_ble_eq_true rfl, Nat.le_of_ble_eq_true rfl⟩ ⟨by omega, by omega⟩ rfl (Nat.le_of_ble_eq_true rfl) dL_law_842 (fun v206 σ207 => ?_)
      show Wo _ _ _ _ _ _ _ _ _ _ [.int v206]
      refine r_iload hC 1 rfl dL_law_845 ?_
      refine r_icmp_eq hC 852 dL_law_847 (by decide) ?_ ?_
      · refine r_iload hC 1 rfl dL_law_852 ?_
        refine r_if_ne hC 869 dL_law_854 (by decide) ?_ ?_
        · refine Wo.sub [2, 3, 4, 5, 6] rfl ?_
          exact t_L_law_869 hC hX P23 hm23 k23 hk23 x23_1 x23_2 x23_3 x23_4 σ207 _ _ ⟨by omega, by omega⟩ (hm23 _ _ _ _ (by omega) (by omega) hP23)
        · refine r_aloadn hC 5 (r := x23_3) rfl rfl dL_law_857 ?_
          refine r_iconst hC (0) rfl dL_law_858 ?_
          refine r_aJ hC (r := x23_3) dL_law_859 (fun v209 => ?_)
          refine r_iload hC 0 rfl dL_law_860 ?_
          refine r_i2l hC dL_law_862 (fun v210 => ?_)
          refine r_lcmp hC dL_law_863 (fun v211 => ?_)
          refine r_if_eq hC 869 dL_law_864 (by decide) ?_ ?_
          · refine Wo.sub [2, 3, 4, 5, 6] rfl ?_
            exact t_L_law_869 hC hX P23 hm23 k23 hk23 x23_1 x23_2 x23_3 x23_4 σ207 _ _ ⟨by omega, by omega⟩ (hm23 _ _ _ _ (by omega) (by omega) hP23)
          · refine r_iconst hC (0) rfl dL_law_867 ?_
            exact e_law hC hX ⟨by omega, by omega⟩ dL_law_868
      · refine r_iconst hC (0) rfl dL_law_850 ?_
        exact e_law hC hX ⟨by omega, by omega⟩ dL_law_851
    refine Wo.ite (fun h39_10 => ?_) (fun h39_10 => ?_)
    · refine r_tab hC 872 dL_law_39 (by rw [h39_10]; decide) (by rw [h39_10]; decide) (by rw [h39_10]; rfl) (by decide) ?_
      refine r_aloadn hC 1 (r := x23_1) rfl rfl dL_law_872 ?_
      refine r_aloadn hC 0 (r := (some b9)) rfl rfl dL_law_873 ?_
      refine r_iload hC 4 rfl dL_law_874 ?_
      refine r_iconst hC (1) rfl dL_law_876 ?_
      refine r_iadd hC dL_law_877 (fun v212 => ?_)
      refine r_sX hC hX dL_law_878 (fun v213 => ?_)
      refine r_aloadn hC 0 (r := (some b9)) rfl rfl dL_law_879 ?_
      refine r_iload hC 4 rfl dL_law_880 ?_
      refine r_iconst hC (2) rfl dL_law_882 ?_
      refine r_iadd hC dL_law_883 (fun v214 => ?_)
      refine r_sX hC hX dL_law_884 (fun v215 => ?_)
      refine r_aloadn hC 0 (r := (some b9)) rfl rfl dL_law_885 ?_
      refine r_iload hC 4 rfl dL_law_886 ?_
      refine r_iconst hC (3) rfl dL_law_888 ?_
      refine r_iadd hC dL_law_889 (fun v216 => ?_)
      refine r_sX hC hX dL_law_890 (fun v217 => ?_)
      refine r_aloadn hC 3 (r := x23_3) rfl rfl dL_law_891 ?_
      refine call_SW hC (av := [va_rf x23_1, .int v213, .int v215, .int v217, va_rf x23_3]) (st := []) (ct_L_fire hC.hl G x23_1 v213 v215 v217 x23_3 σ) q_642 q_643 q_38 q_644 yd_L_fire rfl ⟨Nat.le_of_ble_eq_true rfl, Nat.le_of_ble_eq_true rfl⟩ ⟨by omega, by omega⟩ rfl (Nat.le_of_ble_eq_true rfl) dL_law_892 (fun v218 σ219 => ?_)
      show Wo _ _ _ _ _ _ _ _ _ _ [.int v218]
      refine r_istore hC [(5, .int v218), (0, va_rf (some b9)), (1, va_rf x23_1), (2, va_rf x23_2), (3, va_rf x23_3), (4, .int x23_4)] (i := 5) (by decide) rfl dL_law_895 ?_
      refine r_aloadn hC 3 (r := x23_2) rfl rfl dL_law_897 ?_
      refine r_aloadn hC 1 (r := (some b9)) rfl rfl dL_law_898 ?_
      refine r_iload hC 5 rfl dL_law_899 ?_
      refine r_iconst hC (1) rfl dL_law_901 ?_
      refine r_iadd hC dL_law_902 (fun v220 => ?_)
      refine r_sX hC hX dL_law_903 (fun v221 => ?_)
      refine r_aloadn hC 1 (r := (some b9)) rfl rfl dL_law_904 ?_
      refine r_iload hC 5 rfl dL_law_905 ?_
      refine r_iconst hC (2) rfl dL_law_907 ?_
      refine r_iadd hC dL_law_908 (fun v222 => ?_)
      refine r_sX hC hX dL_law_909 (fun v223 => ?_)
      refine r_aloadn hC 1 (r := (some b9)) rfl rfl dL_law_910 ?_
      refine r_iload hC 5 rfl dL_law_911 ?_
      refine r_iconst hC (3) rfl dL_law_913 ?_
      refine r_iadd hC dL_law_914 (fun v224 => ?_)
      refine r_sX hC hX dL_law_915 (fun v225 => ?_)
      refine call_V hC (av := [.int v221, .int v223, .int v225]) (st := []) (r := x23_2) (ci := 10) rfl rfl (fun h9 => ct_X8_fire hC.hl G h9 v221 v223 v225 σ219) q_1203 q_1204 q_1205 q_44 q_1206 yd_X8_fire rfl ⟨Nat.le_of_ble_eq_true rfl, Nat.le_of_ble_eq_true rfl⟩ ⟨by omega, by omega⟩ rfl (Nat.le_of_ble_eq_true rfl) dL_law_916 (fun v226 σ227 => ?_)
      show Wo _ _ _ _ _ _ _ _ _ _ [.int v226]
      refine r_istore hC [(6, .int v226), (5, .int v218), (0, va_rf (some b9)), (1, va_rf x23_1), (2, va_rf x23_2), (3, va_rf x23_3), (4, .int x23_4)] (i := 6) (by decide) rfl dL_law_919 ?_
      refine r_aloadn hC 4 (r := x23_2) rfl rfl dL_law_921 ?_
      refine call_V hC (av := []) (st := []) (r := x23_2) (ci := 10) rfl rfl (fun h9 => ct_X8_thrown hC.hl G h9 σ227) q_871 q_872 q_873 q_44 q_874 yd_X8_thrown rfl ⟨Nat.le_of_ble_eq_true rfl, Nat.le_of_ble_eq_true rfl⟩ ⟨by omega, by omega⟩ rfl (Nat.le_of_ble_eq_true rfl) dL_law_922 (fun v229 σ230 => ?_)
      show Wo _ _ _ _ _ _ _ _ _ _ [.int v229]
      refine r_iload hC 1 rfl dL_law_925 ?_
      refine r_icmp_eq hC 932 dL_law_927 (by decide) ?_ ?_
      · refine r_iload hC 1 rfl dL_law_932 ?_
        refine r_if_ne hC 949 dL_law_934 (by decide) ?_ ?_
        · refine Wo.sub [2, 3, 4, 5, 6] rfl ?_
          exact t_L_law_949 hC hX P23 hm23 k23 hk23 x23_1 x23_2 x23_3 x23_4 σ230 _ _ ⟨by omega, by omega⟩ (hm23 _ _ _ _ (by omega) (by omega) hP23)
        · refine r_aloadn hC 5 (r := x23_3) rfl rfl dL_law_937 ?_
          refine r_iconst hC (0) rfl dL_law_938 ?_
          refine r_aJ hC (r := x23_3) dL_law_939 (fun v232 => ?_)
          refine r_iload hC 0 rfl dL_law_940 ?_
          refine r_i2l hC dL_law_942 (fun v233 => ?_)
          refine r_lcmp hC dL_law_943 (fun v234 => ?_)
          refine r_if_eq hC 949 dL_law_944 (by decide) ?_ ?_
          · refine Wo.sub [2, 3, 4, 5, 6] rfl ?_
            exact t_L_law_949 hC hX P23 hm23 k23 hk23 x23_1 x23_2 x23_3 x23_4 σ230 _ _ ⟨by omega, by omega⟩ (hm23 _ _ _ _ (by omega) (by omega) hP23)
          · refine r_iconst hC (0) rfl dL_law_947 ?_
            exact e_law hC hX ⟨by omega, by omega⟩ dL_law_948
      · refine r_iconst hC (0) rfl dL_law_930 ?_
        exact e_law hC hX ⟨by omega, by omega⟩ dL_law_931
    refine Wo.ite (fun h39_11 => ?_) (fun h39_11 => ?_)
    · refine r_tab hC 952 dL_law_39 (by rw [h39_11]; decide) (by rw [h39_11]; decide) (by rw [h39_11]; rfl) (by decide) ?_
      refine r_aloadn hC 1 (r := x23_1) rfl rfl dL_law_952 ?_
      refine r_aloadn hC 0 (r := (some b9)) rfl rfl dL_law_953 ?_
      refine r_iload hC 4 rfl dL_law_954 ?_
      refine r_iconst hC (1) rfl dL_law_956 ?_
      refine r_iadd hC dL_law_957 (fun v235 => ?_)
      refine r_sX hC hX dL_law_958 (fun v236 => ?_)
      refine r_aloadn hC 3 (r := x23_3) rfl rfl dL_law_959 ?_
      refine call_SW hC (av := [va_rf x23_1, .int v236, va_rf x23_3]) (st := []) (ct_L_sort hC.hl G x23_1 v236 x23_3 σ) q_649 q_650 q_38 q_651 yd_L_sort rfl ⟨Nat.le_of_ble_eq_true rfl, Nat.le_of_ble_eq_true rfl⟩ ⟨by omega, by omega⟩ rfl (Nat.le_of_ble_eq_true rfl) dL_law_960 (fun v237 σ238 => ?_)
      show Wo _ _ _ _ _ _ _ _ _ _ [.int v237]
      refine r_istore hC [(5, .int v237), (0, va_rf (some b9)), (1, va_rf x23_1), (2, va_rf x23_2), (3, va_rf x23_3), (4, .int x23_4)] (i := 5) (by decide) rfl dL_law_963 ?_
      refine r_aloadn hC 3 (r := x23_2) rfl rfl dL_law_965 ?_
      refine r_aloadn hC 1 (r := (some b9)) rfl rfl dL_law_966 ?_
      refine r_iload hC 5 rfl dL_law_967 ?_
      refine r_iconst hC (1) rfl dL_law_969 ?_
      refine r_iadd hC dL_law_970 (fun v239 => ?_)
      refine r_sX hC hX dL_law_971 (fun v240 => ?_)
      refine call_V hC (av := [.int v240]) (st := []) (r := x23_2) (ci := 10) rfl rfl (fun h9 => ct_X8_sort hC.hl G h9 v240 σ238) q_1219 q_1220 q_1221 q_44 q_1222 yd_X8_sort rfl ⟨Nat.le_of_ble_eq_true rfl, Nat.le_of_ble_eq_true rfl⟩ ⟨by omega, by omega⟩ rfl (Nat.le_of_ble_eq_true rfl) dL_law_972 (fun v241 σ242 => ?_)
      show Wo _ _ _ _ _ _ _ _ _ _ [.int v241]
      refine r_istore hC [(6, .int v241), (5, .int v237), (0, va_rf (some b9)), (1, va_rf x23_1), (2, va_rf x23_2), (3, va_rf x23_3), (4, .int x23_4)] (i := 6) (by decide) rfl dL_law_975 ?_
      refine r_aloadn hC 4 (r := x23_2) rfl rfl dL_law_977 ?_
      refine call_V hC (av := []) (st := []) (r := x23_2) (ci := 10) rfl rfl (fun h9 => ct_X8_thrown hC.hl G h9 σ242) q_871 q_872 q_873 q_44 q_874 yd_X8_thrown rfl ⟨Nat.le_of_ble_eq_true rfl, Nat.le_of_ble_eq_true rfl⟩ ⟨by omega, by omega⟩ rfl (Nat.le_of_ble_eq_true rfl) dL_law_978 (fun v244 σ245 => ?_)
      show Wo _ _ _ _ _ _ _ _ _ _ [.int v244]
      refine r_iload hC 1 rfl dL_law_981 ?_
      refine r_icmp_eq hC 988 dL_law_983 (by decide) ?_ ?_
      · refine r_iload hC 1 rfl dL_law_988 ?_
        refine r_if_ne hC 1005 dL_law_990 (by decide) ?_ ?_
        · refine Wo.sub [2, 3, 4, 5, 6] rfl ?_
          exact t_L_law_1005 hC hX P23 hm23 k23 hk23 x23_1 x23_2 x23_3 x23_4 σ245 _ _ ⟨by omega, by omega⟩ (hm23 _ _ _ _ (by omega) (by omega) hP23)
        · refine r_aloadn hC 5 (r := x23_3) rfl rfl dL_law_993 ?_
          refine r_iconst hC (0) rfl dL_law_994 ?_
          refine r_aJ hC (r := x23_3) dL_law_995 (fun v247 => ?_)
          refine r_iload hC 0 rfl dL_law_996 ?_
          refine r_i2l hC dL_law_998 (fun v248 => ?_)
          refine r_lcmp hC dL_law_999 (fun v249 => ?_)
          refine r_if_eq hC 1005 dL_law_1000 (by decide) ?_ ?_
          · refine Wo.sub [2, 3, 4, 5, 6] rfl ?_
            exact t_L_law_1005 hC hX P23 hm23 k23 hk23 x23_1 x23_2 x23_3 x23_4 σ245 _ _ ⟨by omega, by omega⟩ (hm23 _ _ _ _ (by omega) (by omega) hP23)
          · refine r_iconst hC (0) rfl dL_law_1003 ?_
            exact e_law hC hX ⟨by omega, by omega⟩ dL_law_1004
      · refine r_iconst hC (0) rfl dL_law_986 ?_
        exact e_law hC hX ⟨by omega, by omega⟩ dL_law_987
    refine Wo.ite (fun h39_12 => ?_) (fun h39_12 => ?_)
    · refine r_tab hC 1008 dL_law_39 (by rw [h39_12]; decide) (by rw [h39_12]; decide) (by rw [h39_12]; rfl) (by decide) ?_
      refine r_aloadn hC 1 (r := x23_1) rfl rfl dL_law_1008 ?_
      refine r_aloadn hC 0 (r := (some b9)) rfl rfl dL_law_1009 ?_
      refine r_iload hC 4 rfl dL_law_1010 ?_
      refine r_iconst hC (1) rfl dL_law_1012 ?_
      refine r_iadd hC dL_law_1013 (fun v250 => ?_)
      refine r_sX hC hX dL_law_1014 (fun v251 => ?_)
      refine r_aloadn hC 0 (r := (some b9)) rfl rfl dL_law_1015 ?_
      refine r_iload hC 4 rfl dL_law_1016 ?_
      refine r_iconst hC (2) rfl dL_law_1018 ?_
      refine r_iadd hC dL_law_1019 (fun v252 => ?_)
      refine r_sX hC hX dL_law_1020 (fun v253 => ?_)
      refine r_aloadn hC 0 (r := (some b9)) rfl rfl dL_law_1021 ?_
      refine r_iload hC 4 rfl dL_law_1022 ?_
      refine r_iconst hC (3) rfl dL_law_1024 ?_
      refine r_iadd hC dL_law_1025 (fun v254 => ?_)
      refine r_sX hC hX dL_law_1026 (fun v255 => ?_)
      refine r_aloadn hC 0 (r := (some b9)) rfl rfl dL_law_1027 ?_
      refine r_iload hC 4 rfl dL_law_1028 ?_
      refine r_iconst hC (4) rfl dL_law_1030 ?_
      refine r_iadd hC dL_law_1031 (fun v256 => ?_)
      refine r_sX hC hX dL_law_1032 (fun v257 => ?_)
      refine r_aloadn hC 3 (r := x23_3) rfl rfl dL_law_1033 ?_
      refine call_SW hC (av := [va_rf x23_1, .int v251, .int v253, .int v255, .int v257, va_rf x23_3]) (st := []) (ct_L_mix hC.hl G x23_1 v251 v253 v255 v257 x23_3 σ) q_670 q_671 q_38 q_672 yd_L_mix rfl ⟨Nat.le_of_ble_eq_true rfl, Nat.le_of_ble_eq_true rfl⟩ ⟨by omega, by omega⟩ rfl (Nat.le_of_ble_eq_true rfl) dL_law_1034 (fun v258 σ259 => ?_)
      show Wo _ _ _ _ _ _ _ _ _ _ [.int v258]
      refine r_istore hC [(5, .int v258), (0, va_rf (some b9)), (1, va_rf x23_1), (2, va_rf x23_2), (3, va_rf x23_3), (4, .int x23_4)] (i := 5) (by decide) rfl dL_law_1037 ?_
      refine r_aloadn hC 3 (r := x23_2) rfl rfl dL_law_1039 ?_
      refine r_aloadn hC 1 (r := (some b9)) rfl rfl dL_law_1040 ?_
      refine r_iload hC 5 rfl dL_law_1041 ?_
      refine r_iconst hC (1) rfl dL_law_1043 ?_
      refine r_iadd hC dL_law_1044 (fun v260 => ?_)
      refine r_sX hC hX dL_law_1045 (fun v261 => ?_)
      refine r_aloadn hC 1 (r := (some b9)) rfl rfl dL_law_1046 ?_
      refine r_iload hC 5 rfl dL_law_1047 ?_
      refine r_iconst hC (2) rfl dL_law_1049 ?_
      refine r_iadd hC dL_law_1050 (fun v262 => ?_)
      refine r_sX hC hX dL_law_1051 (fun v263 => ?_)
      refine r_aloadn hC 1 (r := (some b9)) rfl rfl dL_law_1052 ?_
      refine r_iload hC 5 rfl dL_law_1053 ?_
      refine r_iconst hC (3) rfl dL_law_1055 ?_
      refine r_iadd hC dL_law_1056 (fun v264 => ?_)
      refine r_sX hC hX dL_law_1057 (fun v265 => ?_)
      refine r_aloadn hC 1 (r := (some b9)) rfl rfl dL_law_1058 ?_
      refine r_iload hC 5 rfl dL_law_1059 ?_
      refine r_iconst hC (4) rfl dL_law_1061 ?_
      refine r_iadd hC dL_law_1062 (fun v266 => ?_)
      refine r_sX hC hX dL_law_1063 (fun v267 => ?_)
      refine call_V hC (av := [.int v261, .int v263, .int v265, .int v267]) (st := []) (r := x23_2) (ci := 10) rfl rfl (fun h9 => ct_X8_mix hC.hl G h9 v261 v263 v265 v267 σ259) q_1254 q_1255 q_1256 q_44 q_1257 yd_X8_mix rfl ⟨Nat.le_of_ble_eq_true rfl, Nat.le_of_ble_eq_true rfl⟩ ⟨by omega, by omega⟩ rfl (Nat.le_of_ble_eq_true rfl) dL_law_1064 (fun v268 σ269 => ?_)
      show Wo _ _ _ _ _ _ _ _ _ _ [.int v268]
      refine r_istore hC [(6, .int v268), (5, .int v258), (0, va_rf (some b9)), (1, va_rf x23_1), (2, va_rf x23_2), (3, va_rf x23_3), (4, .int x23_4)] (i := 6) (by decide) rfl dL_law_1067 ?_
      refine r_aloadn hC 4 (r := x23_2) rfl rfl dL_law_1069 ?_
      refine call_V hC (av := []) (st := []) (r := x23_2) (ci := 10) rfl rfl (fun h9 => ct_X8_thrown hC.hl G h9 σ269) q_871 q_872 q_873 q_44 q_874 yd_X8_thrown rfl ⟨Nat.le_of_ble_eq_true rfl, Nat.le_of_ble_eq_true rfl⟩ ⟨by omega, by omega⟩ rfl (Nat.le_of_ble_eq_true rfl) dL_law_1070 (fun v271 σ272 => ?_)
      show Wo _ _ _ _ _ _ _ _ _ _ [.int v271]
      refine r_iload hC 1 rfl dL_law_1073 ?_
      refine r_icmp_eq hC 1080 dL_law_1075 (by decide) ?_ ?_
      · refine r_iload hC 1 rfl dL_law_1080 ?_
        refine r_if_ne hC 1097 dL_law_1082 (by decide) ?_ ?_
        · refine Wo.sub [2, 3, 4, 5, 6] rfl ?_
          exact t_L_law_1097 hC hX P23 hm23 k23 hk23 x23_1 x23_2 x23_3 x23_4 σ272 _ _ ⟨by omega, by omega⟩ (hm23 _ _ _ _ (by omega) (by omega) hP23)
        · refine r_aloadn hC 5 (r := x23_3) rfl rfl dL_law_1085 ?_
          refine r_iconst hC (0) rfl dL_law_1086 ?_
          refine r_aJ hC (r := x23_3) dL_law_1087 (fun v274 => ?_)
          refine r_iload hC 0 rfl dL_law_1088 ?_
          refine r_i2l hC dL_law_1090 (fun v275 => ?_)
          refine r_lcmp hC dL_law_1091 (fun v276 => ?_)
          refine r_if_eq hC 1097 dL_law_1092 (by decide) ?_ ?_
          · refine Wo.sub [2, 3, 4, 5, 6] rfl ?_
            exact t_L_law_1097 hC hX P23 hm23 k23 hk23 x23_1 x23_2 x23_3 x23_4 σ272 _ _ ⟨by omega, by omega⟩ (hm23 _ _ _ _ (by omega) (by omega) hP23)
          · refine r_iconst hC (0) rfl dL_law_1095 ?_
            exact e_law hC hX ⟨by omega, by omega⟩ dL_law_1096
      · refine r_iconst hC (0) rfl dL_law_1078 ?_
        exact e_law hC hX ⟨by omega, by omega⟩ dL_law_1079
    refine Wo.ite (fun h39_13 => ?_) (fun h39_13 => ?_)
    · refine r_tab hC 1100 dL_law_39 (by rw [h39_13]; decide) (by rw [h39_13]; decide) (by rw [h39_13]; rfl) (by decide) ?_
      refine r_aloadn hC 1 (r := x23_1) rfl rfl dL_law_1100 ?_
      refine r_aloadn hC 0 (r := (some b9)) rfl rfl dL_law_1101 ?_
      refine r_iload hC 4 rfl dL_law_1102 ?_
      refine r_iconst hC (1) rfl dL_law_1104 ?_
      refine r_iadd hC dL_law_1105 (fun v277 => ?_)
      refine r_sX hC hX dL_law_1106 (fun v278 => ?_)
      refine r_aloadn hC 0 (r := (some b9)) rfl rfl dL_law_1107 ?_
      refine r_iload hC 4 rfl dL_law_1108 ?_
      refine r_iconst hC (2) rfl dL_law_1110 ?_
      refine r_iadd hC dL_law_1111 (fun v279 => ?_)
      refine r_sX hC hX dL_law_1112 (fun v280 => ?_)
      refine r_aloadn hC 3 (r := x23_3) rfl rfl dL_law_1113 ?_
      refine call_SW hC (av := [va_rf x23_1, .int v278, .int v280, va_rf x23_3]) (st := []) (ct_L_lean hC.hl G x23_1 v278 v280 x23_3 σ) q_682 q_683 q_38 q_684 yd_L_lean rfl ⟨Nat.le_of_ble_eq_true rfl, Nat.le_of_ble_eq_true rfl⟩ ⟨by omega, by omega⟩ rfl (Nat.le_of_ble_eq_true rfl) dL_law_1114 (fun v281 σ282 => ?_)
      show Wo _ _ _ _ _ _ _ _ _ _ [.int v281]
      refine r_istore hC [(5, .int v281), (0, va_rf (some b9)), (1, va_rf x23_1), (2, va_rf x23_2), (3, va_rf x23_3), (4, .int x23_4)] (i := 5) (by decide) rfl dL_law_1117 ?_
      refine r_aloadn hC 3 (r := x23_2) rfl rfl dL_law_1119 ?_
      refine r_aloadn hC 1 (r := (some b9)) rfl rfl dL_law_1120 ?_
      refine r_iload hC 5 rfl dL_law_1121 ?_
      refine r_iconst hC (1) rfl dL_law_1123 ?_
      refine r_iadd hC dL_law_1124 (fun v283 => ?_)
      refine r_sX hC hX dL_law_1125 (fun v284 => ?_)
      refine r_aloadn hC 1 (r := (some b9)) rfl rfl dL_law_1126 ?_
      refine r_iload hC 5 rfl dL_law_1127 ?_
      refine r_iconst hC (2) rfl dL_law_1129 ?_
      refine r_iadd hC dL_law_1130 (fun v285 => ?_)
      refine r_sX hC hX dL_law_1131 (fun v286 => ?_)
      refine call_V hC (av := [.int v284, .int v286]) (st := []) (r := x23_2) (ci := 10) rfl rfl (fun h9 => ct_X8_lean hC.hl G h9 v284 v286 σ282) q_1275 q_1276 q_1277 q_44 q_1278 yd_X8_lean rfl ⟨Nat.le_of_ble_eq_true rfl, Nat.le_of_ble_eq_true rfl⟩ ⟨by omega, by omega⟩ rfl (Nat.le_of_ble_eq_true rfl) dL_law_1132 (fun v287 σ288 => ?_)
      show Wo _ _ _ _ _ _ _ _ _ _ [.int v287]
      refine r_istore hC [(6, .int v287), (5, .int v281), (0, va_rf (some b9)), (1, va_rf x23_1), (2, va_rf x23_2), (3, va_rf x23_3), (4, .int x23_4)] (i := 6) (by decide) rfl dL_law_1135 ?_
      refine r_aloadn hC 4 (r := x23_2) rfl rfl dL_law_1137 ?_
      refine call_V hC (av := []) (st := []) (r := x23_2) (ci := 10) rfl rfl (fun h9 => ct_X8_thrown hC.hl G h9 σ288) q_871 q_872 q_873 q_44 q_874 yd_X8_thrown rfl ⟨Nat.le_of_ble_eq_true rfl, Nat.le_of_ble_eq_true rfl⟩ ⟨by omega, by omega⟩ rfl (Nat.le_of_ble_eq_true rfl) dL_law_1138 (fun v290 σ291 => ?_)
      show Wo _ _ _ _ _ _ _ _ _ _ [.int v290]
      refine r_iload hC 1 rfl dL_law_1141 ?_
      refine r_icmp_eq hC 1148 dL_law_1143 (by decide) ?_ ?_
      · refine r_iload hC 1 rfl dL_law_1148 ?_
        refine r_if_ne hC 1165 dL_law_1150 (by decide) ?_ ?_
        · refine Wo.sub [2, 3, 4, 5, 6] rfl ?_
          exact t_L_law_1165 hC hX P23 hm23 k23 hk23 x23_1 x23_2 x23_3 x23_4 σ291 _ _ ⟨by omega, by omega⟩ (hm23 _ _ _ _ (by omega) (by omega) hP23)
        · refine r_aloadn hC 5 (r := x23_3) rfl rfl dL_law_1153 ?_
          refine r_iconst hC (0) rfl dL_law_1154 ?_
          refine r_aJ hC (r := x23_3) dL_law_1155 (fun v293 => ?_)
          refine r_iload hC 0 rfl dL_law_1156 ?_
          refine r_i2l hC dL_law_1158 (fun v294 => ?_)
          refine r_lcmp hC dL_law_1159 (fun v295 => ?_)
          refine r_if_eq hC 1165 dL_law_1160 (by decide) ?_ ?_
          · refine Wo.sub [2, 3, 4, 5, 6] rfl ?_
            exact t_L_law_1165 hC hX P23 hm23 k23 hk23 x23_1 x23_2 x23_3 x23_4 σ291 _ _ ⟨by omega, by omega⟩ (hm23 _ _ _ _ (by omega) (by omega) hP23)
          · refine r_iconst hC (0) rfl dL_law_1163 ?_
            exact e_law hC hX ⟨by omega, by omega⟩ dL_law_1164
      · refine r_iconst hC (0) rfl dL_law_1146 ?_
        exact e_law hC hX ⟨by omega, by omega⟩ dL_law_1147
    refine Wo.ite (fun h39_14 => ?_) (fun h39_14 => ?_)
    · refine r_tab hC 1168 dL_law_39 (by rw [h39_14]; decide) (by rw [h39_14]; decide) (by rw [h39_14]; rfl) (by decide) ?_
      refine r_aloadn hC 1 (r := x23_1) rfl rfl dL_law_1168 ?_
      refine r_aloadn hC 0 (r := (some b9)) rfl rfl dL_law_1169 ?_
      refine r_iload hC 4 rfl dL_law_1170 ?_
      refine r_iconst hC (1) rfl dL_law_1172 ?_
      refine r_iadd hC dL_law_1173 (fun v296 => ?_)
      refine r_sX hC hX dL_law_1174 (fun v297 => ?_)
      refine r_aloadn hC 0 (r := (some b9)) rfl rfl dL_law_1175 ?_
      refine r_iload hC 4 rfl dL_law_1176 ?_
      refine r_iconst hC (2) rfl dL_law_1178 ?_
      refine r_iadd hC dL_law_1179 (fun v298 => ?_)
      refine r_sX hC hX dL_law_1180 (fun v299 => ?_)
      refine r_aloadn hC 3 (r := x23_3) rfl rfl dL_law_1181 ?_
      refine call_SW hC (av := [va_rf x23_1, .int v297, .int v299, va_rf x23_3]) (st := []) (ct_L_repeat hC.hl G x23_1 v297 v299 x23_3 σ) q_689 q_690 q_38 q_691 yd_L_repeat rfl ⟨Nat.le_of_ble_eq_true rfl, Nat.le_of_ble_eq_true rfl⟩ ⟨by omega, by omega⟩ rfl (Nat.le_of_ble_eq_true rfl) dL_law_1182 (fun v300 σ301 => ?_)
      show Wo _ _ _ _ _ _ _ _ _ _ [.int v300]
      refine r_istore hC [(5, .int v300), (0, va_rf (some b9)), (1, va_rf x23_1), (2, va_rf x23_2), (3, va_rf x23_3), (4, .int x23_4)] (i := 5) (by decide) rfl dL_law_1185 ?_
      refine r_aloadn hC 3 (r := x23_2) rfl rfl dL_law_1187 ?_
      refine r_aloadn hC 1 (r := (some b9)) rfl rfl dL_law_1188 ?_
      refine r_iload hC 5 rfl dL_law_1189 ?_
      refine r_iconst hC (1) rfl dL_law_1191 ?_
      refine r_iadd hC dL_law_1192 (fun v302 => ?_)
      refine r_sX hC hX dL_law_1193 (fun v303 => ?_)
      refine r_aloadn hC 1 (r := (some b9)) rfl rfl dL_law_1194 ?_
      refine r_iload hC 5 rfl dL_law_1195 ?_
      refine r_iconst hC (2) rfl dL_law_1197 ?_
      refine r_iadd hC dL_law_1198 (fun v304 => ?_)
      refine r_sX hC hX dL_law_1199 (fun v305 => ?_)
      refine call_V hC (av := [.int v303, .int v305]) (st := []) (r := x23_2) (ci := 10) rfl rfl (fun h9 => ct_X8_repeat hC.hl G h9 v303 v305 σ301) q_1282 q_1283 q_1284 q_44 q_1285 yd_X8_repeat rfl ⟨Nat.le_of_ble_eq_true rfl, Nat.le_of_ble_eq_true rfl⟩ ⟨by omega, by omega⟩ rfl (Nat.le_of_ble_eq_true rfl) dL_law_1200 (fun v306 σ307 => ?_)
      show Wo _ _ _ _ _ _ _ _ _ _ [.int v306]
      refine r_istore hC [(6, .int v306), (5, .int v300), (0, va_rf (some b9)), (1, va_rf x23_1), (2, va_rf x23_2), (3, va_rf x23_3), (4, .int x23_4)] (i := 6) (by decide) rfl dL_law_1203 ?_
      refine r_aloadn hC 4 (r := x23_2) rfl rfl dL_law_1205 ?_
      refine call_V hC (av := []) (st := []) (r := x23_2) (ci := 10) rfl rfl (fun h9 => ct_X8_thrown hC.hl G h9 σ307) q_871 q_872 q_873 q_44 q_874 yd_X8_thrown rfl ⟨Nat.le_of_ble_eq_true rfl, Nat.le_of_ble_eq_true rfl⟩ ⟨by omega, by omega⟩ rfl (Nat.le_of_ble_eq_true rfl) dL_law_1206 (fun v309 σ310 => ?_)
      show Wo _ _ _ _ _ _ _ _ _ _ [.int v309]
      refine r_iload hC 1 rfl dL_law_1209 ?_
      refine r_icmp_eq hC 1216 dL_law_1211 (by decide) ?_ ?_
      · refine r_iload hC 1 rfl dL_law_1216 ?_
        refine r_if_ne hC 1233 dL_law_1218 (by decide) ?_ ?_
        · refine Wo.sub [2, 3, 4, 5, 6] rfl ?_
          exact t_L_law_1233 hC hX P23 hm23 k23 hk23 x23_1 x23_2 x23_3 x23_4 σ310 _ _ ⟨by omega, by omega⟩ (hm23 _ _ _ _ (by omega) (by omega) hP23)
        · refine r_aloadn hC 5 (r := x23_3) rfl rfl dL_law_1221 ?_
          refine r_iconst hC (0) rfl dL_law_1222 ?_
          refine r_aJ hC (r := x23_3) dL_law_1223 (fun v312 => ?_)
          refine r_iload hC 0 rfl dL_law_1224 ?_
          refine r_i2l hC dL_law_1226 (fun v313 => ?_)
          refine r_lcmp hC dL_law_1227 (fun v314 => ?_)
          refine r_if_eq hC 1233 dL_law_1228 (by decide) ?_ ?_
          · refine Wo.sub [2, 3, 4, 5, 6] rfl ?_
            exact t_L_law_1233 hC hX P23 hm23 k23 hk23 x23_1 x23_2 x23_3 x23_4 σ310 _ _ ⟨by omega, by omega⟩ (hm23 _ _ _ _ (by omega) (by omega) hP23)
          · refine r_iconst hC (0) rfl dL_law_1231 ?_
            exact e_law hC hX ⟨by omega, by omega⟩ dL_law_1232
      · refine r_iconst hC (0) rfl dL_law_1214 ?_
        exact e_law hC hX ⟨by omega, by omega⟩ dL_law_1215
    refine Wo.ite (fun h39_15 => ?_) (fun h39_15 => ?_)
    · refine r_tab hC 1236 dL_law_39 (by rw [h39_15]; decide) (by rw [h39_15]; decide) (by rw [h39_15]; rfl) (by decide) ?_
      refine r_aloadn hC 1 (r := x23_1) rfl rfl dL_law_1236 ?_
      refine r_aloadn hC 0 (r := (some b9)) rfl rfl dL_law_1237 ?_
      refine r_iload hC 4 rfl dL_law_1238 ?_
      refine r_iconst hC (1) rfl dL_law_1240 ?_
      refine r_iadd hC dL_law_1241 (fun v315 => ?_)
      refine r_sX hC hX dL_law_1242 (fun v316 => ?_)
      refine r_aloadn hC 0 (r := (some b9)) rfl rfl dL_law_1243 ?_
      refine r_iload hC 4 rfl dL_law_1244 ?_
      refine r_iconst hC (2) rfl dL_law_1246 ?_
      refine r_iadd hC dL_law_1247 (fun v317 => ?_)
      refine r_sX hC hX dL_law_1248 (fun v318 => ?_)
      refine r_aloadn hC 3 (r := x23_3) rfl rfl dL_law_1249 ?_
      refine call_SW hC (av := [va_rf x23_1, .int v316, .int v318, va_rf x23_3]) (st := []) (ct_L_purse hC.hl G x23_1 v316 v318 x23_3 σ) q_700 q_701 q_38 q_702 yd_L_purse rfl ⟨Nat.le_of_ble_eq_true rfl, Nat.le_of_ble_eq_true rfl⟩ ⟨by omega, by omega⟩ rfl (Nat.le_of_ble_eq_true rfl) dL_law_1250 (fun v319 σ320 => ?_)
      show Wo _ _ _ _ _ _ _ _ _ _ [.int v319]
      refine r_istore hC [(5, .int v319), (0, va_rf (some b9)), (1, va_rf x23_1), (2, va_rf x23_2), (3, va_rf x23_3), (4, .int x23_4)] (i := 5) (by decide) rfl dL_law_1253 ?_
      refine r_aloadn hC 3 (r := x23_2) rfl rfl dL_law_1255 ?_
      refine r_aloadn hC 1 (r := (some b9)) rfl rfl dL_law_1256 ?_
      refine r_iload hC 5 rfl dL_law_1257 ?_
      refine r_iconst hC (1) rfl dL_law_1259 ?_
      refine r_iadd hC dL_law_1260 (fun v321 => ?_)
      refine r_sX hC hX dL_law_1261 (fun v322 => ?_)
      refine r_aloadn hC 1 (r := (some b9)) rfl rfl dL_law_1262 ?_
      refine r_iload hC 5 rfl dL_law_1263 ?_
      refine r_iconst hC (2) rfl dL_law_1265 ?_
      refine r_iadd hC dL_law_1266 (fun v323 => ?_)
      refine r_sX hC hX dL_law_1267 (fun v324 => ?_)
      refine call_V hC (av := [.int v322, .int v324]) (st := []) (r := x23_2) (ci := 10) rfl rfl (fun h9 => ct_X8_purse hC.hl G h9 v322 v324 σ320) q_1296 q_1297 q_1298 q_44 q_1299 yd_X8_purse rfl ⟨Nat.le_of_ble_eq_true rfl, Nat.le_of_ble_eq_true rfl⟩ ⟨by omega, by omega⟩ rfl (Nat.le_of_ble_eq_true rfl) dL_law_1268 (fun v325 σ326 => ?_)
      show Wo _ _ _ _ _ _ _ _ _ _ [.int v325]
      refine r_istore hC [(6, .int v325), (5, .int v319), (0, va_rf (some b9)), (1, va_rf x23_1), (2, va_rf x23_2), (3, va_rf x23_3), (4, .int x23_4)] (i := 6) (by decide) rfl dL_law_1271 ?_
      refine r_aloadn hC 4 (r := x23_2) rfl rfl dL_law_1273 ?_
      refine call_V hC (av := []) (st := []) (r := x23_2) (ci := 10) rfl rfl (fun h9 => ct_X8_thrown hC.hl G h9 σ326) q_871 q_872 q_873 q_44 q_874 yd_X8_thrown rfl ⟨Nat.le_of_ble_eq_true rfl, Nat.le_of_ble_eq_true rfl⟩ ⟨by omega, by omega⟩ rfl (Nat.le_of_ble_eq_true rfl) dL_law_1274 (fun v328 σ329 => ?_)
      show Wo _ _ _ _ _ _ _ _ _ _ [.int v328]
      refine r_iload hC 1 rfl dL_law_1277 ?_
      refine r_icmp_eq hC 1284 dL_law_1279 (by decide) ?_ ?_
      · refine r_iload hC 1 rfl dL_law_1284 ?_
        refine r_if_ne hC 1301 dL_law_1286 (by decide) ?_ ?_
        · refine Wo.sub [2, 3, 4, 5, 6] rfl ?_
          exact t_L_law_1301 hC hX P23 hm23 k23 hk23 x23_1 x23_2 x23_3 x23_4 σ329 _ _ ⟨by omega, by omega⟩ (hm23 _ _ _ _ (by omega) (by omega) hP23)
        · refine r_aloadn hC 5 (r := x23_3) rfl rfl dL_law_1289 ?_
          refine r_iconst hC (0) rfl dL_law_1290 ?_
          refine r_aJ hC (r := x23_3) dL_law_1291 (fun v331 => ?_)
          refine r_iload hC 0 rfl dL_law_1292 ?_
          refine r_i2l hC dL_law_1294 (fun v332 => ?_)
          refine r_lcmp hC dL_law_1295 (fun v333 => ?_)
          refine r_if_eq hC 1301 dL_law_1296 (by decide) ?_ ?_
          · refine Wo.sub [2, 3, 4, 5, 6] rfl ?_
            exact t_L_law_1301 hC hX P23 hm23 k23 hk23 x23_1 x23_2 x23_3 x23_4 σ329 _ _ ⟨by omega, by omega⟩ (hm23 _ _ _ _ (by omega) (by omega) hP23)
          · refine r_iconst hC (0) rfl dL_law_1299 ?_
            exact e_law hC hX ⟨by omega, by omega⟩ dL_law_1300
      · refine r_iconst hC (0) rfl dL_law_1282 ?_
        exact e_law hC hX ⟨by omega, by omega⟩ dL_law_1283
    refine Wo.ite (fun h39_16 => ?_) (fun h39_16 => ?_)
    · refine r_tab hC 1304 dL_law_39 (by rw [h39_16]; decide) (by rw [h39_16]; decide) (by rw [h39_16]; rfl) (by decide) ?_
      refine r_aloadn hC 1 (r := x23_1) rfl rfl dL_law_1304 ?_
      refine r_aloadn hC 0 (r := (some b9)) rfl rfl dL_law_1305 ?_
      refine r_iload hC 4 rfl dL_law_1306 ?_
      refine r_iconst hC (1) rfl dL_law_1308 ?_
      refine r_iadd hC dL_law_1309 (fun v334 => ?_)
      refine r_sX hC hX dL_law_1310 (fun v335 => ?_)
      refine r_aloadn hC 0 (r := (some b9)) rfl rfl dL_law_1311 ?_
      refine r_iload hC 4 rfl dL_law_1312 ?_
      refine r_iconst hC (2) rfl dL_law_1314 ?_
      refine r_iadd hC dL_law_1315 (fun v336 => ?_)
      refine r_sX hC hX dL_law_1316 (fun v337 => ?_)
      refine r_aloadn hC 3 (r := x23_3) rfl rfl dL_law_1317 ?_
      refine call_SW hC (av := [va_rf x23_1, .int v335, .int v337, va_rf x23_3]) (st := []) (ct_L_offer hC.hl G x23_1 v335 v337 x23_3 σ) q_707 q_708 q_38 q_709 yd_L_offer rfl ⟨Nat.le_of_ble_eq_true rfl, Nat.le_of_ble_eq_true rfl⟩ ⟨by omega, by omega⟩ rfl (Nat.le_of_ble_eq_true rfl) dL_law_1318 (fun v338 σ339 => ?_)
      show Wo _ _ _ _ _ _ _ _ _ _ [.int v338]
      refine r_istore hC [(5, .int v338), (0, va_rf (some b9)), (1, va_rf x23_1), (2, va_rf x23_2), (3, va_rf x23_3), (4, .int x23_4)] (i := 5) (by decide) rfl dL_law_1321 ?_
      refine r_aloadn hC 3 (r := x23_2) rfl rfl dL_law_1323 ?_
      refine r_aloadn hC 1 (r := (some b9)) rfl rfl dL_law_1324 ?_
      refine r_iload hC 5 rfl dL_law_1325 ?_
      refine r_iconst hC (1) rfl dL_law_1327 ?_
      refine r_iadd hC dL_law_1328 (fun v340 => ?_)
      refine r_sX hC hX dL_law_1329 (fun v341 => ?_)
      refine r_aloadn hC 1 (r := (some b9)) rfl rfl dL_law_1330 ?_
      refine r_iload hC 5 rfl dL_law_1331 ?_
      refine r_iconst hC (2) rfl dL_law_1333 ?_
      refine r_iadd hC dL_law_1334 (fun v342 => ?_)
      refine r_sX hC hX dL_law_1335 (fun v343 => ?_)
      refine call_V hC (av := [.int v341, .int v343]) (st := []) (r := x23_2) (ci := 10) rfl rfl (fun h9 => ct_X8_offer hC.hl G h9 v341 v343 σ339) q_1303 q_1304 q_1305 q_44 q_1306 yd_X8_offer rfl ⟨Nat.le_of_ble_eq_true rfl, Nat.le_of_ble_eq_true rfl⟩ ⟨by omega, by omega⟩ rfl (Nat.le_of_ble_eq_true rfl) dL_law_1336 (fun v344 σ345 => ?_)
      show Wo _ _ _ _ _ _ _ _ _ _ [.int v344]
      refine r_istore hC [(6, .int v344), (5, .int v338), (0, va_rf (some b9)), (1, va_rf x23_1), (2, va_rf x23_2), (3, va_rf x23_3), (4, .int x23_4)] (i := 6) (by decide) rfl dL_law_1339 ?_
      refine r_aloadn hC 4 (r := x23_2) rfl rfl dL_law_1341 ?_
      refine call_V hC (av := []) (st := []) (r := x23_2) (ci := 10) rfl rfl (fun h9 => ct_X8_thrown hC.hl G h9 σ345) q_871 q_872 q_873 q_44 q_874 yd_X8_thrown rfl ⟨Nat.le_of_ble_eq_true rfl, Nat.le_of_ble_eq_true rfl⟩ ⟨by omega, by omega⟩ rfl (Nat.le_of_ble_eq_true rfl) dL_law_1342 (fun v347 σ348 => ?_)
      show Wo _ _ _ _ _ _ _ _ _ _ [.int v347]
      refine r_iload hC 1 rfl dL_law_1345 ?_
      refine r_icmp_eq hC 1352 dL_law_1347 (by decide) ?_ ?_
      · refine r_iload hC 1 rfl dL_law_1352 ?_
        refine r_if_ne hC 1369 dL_law_1354 (by decide) ?_ ?_
        · refine Wo.sub [2, 3, 4, 5, 6] rfl ?_
          exact t_L_law_1369 hC hX P23 hm23 k23 hk23 x23_1 x23_2 x23_3 x23_4 σ348 _ _ ⟨by omega, by omega⟩ (hm23 _ _ _ _ (by omega) (by omega) hP23)
        · refine r_aloadn hC 5 (r := x23_3) rfl rfl dL_law_1357 ?_
          refine r_iconst hC (0) rfl dL_law_1358 ?_
          refine r_aJ hC (r := x23_3) dL_law_1359 (fun v350 => ?_)
          refine r_iload hC 0 rfl dL_law_1360 ?_
          refine r_i2l hC dL_law_1362 (fun v351 => ?_)
          refine r_lcmp hC dL_law_1363 (fun v352 => ?_)
          refine r_if_eq hC 1369 dL_law_1364 (by decide) ?_ ?_
          · refine Wo.sub [2, 3, 4, 5, 6] rfl ?_
            exact t_L_law_1369 hC hX P23 hm23 k23 hk23 x23_1 x23_2 x23_3 x23_4 σ348 _ _ ⟨by omega, by omega⟩ (hm23 _ _ _ _ (by omega) (by omega) hP23)
          · refine r_iconst hC (0) rfl dL_law_1367 ?_
            exact e_law hC hX ⟨by omega, by omega⟩ dL_law_1368
      · refine r_iconst hC (0) rfl dL_law_1350 ?_
        exact e_law hC hX ⟨by omega, by omega⟩ dL_law_1351
    refine Wo.ite (fun h39_17 => ?_) (fun h39_17 => ?_)
    · refine r_tab hC 1372 dL_law_39 (by rw [h39_17]; decide) (by rw [h39_17]; decide) (by rw [h39_17]; rfl) (by decide) ?_
      refine r_aloadn hC 1 (r := x23_1) rfl rfl dL_law_1372 ?_
      refine r_aloadn hC 0 (r := (some b9)) rfl rfl dL_law_1373 ?_
      refine r_iload hC 4 rfl dL_law_1374 ?_
      refine r_iconst hC (1) rfl dL_law_1376 ?_
      refine r_iadd hC dL_law_1377 (fun v353 => ?_)
      refine r_sX hC hX dL_law_1378 (fun v354 => ?_)
      refine r_aloadn hC 0 (r := (some b9)) rfl rfl dL_law_1379 ?_
      refine r_iload hC 4 rfl dL_law_1380 ?_
      refine r_iconst hC (2) rfl dL_law_1382 ?_
      refine r_iadd hC dL_law_1383 (fun v355 => ?_)
      refine r_sX hC hX dL_law_1384 (fun v356 => ?_)
      refine r_aloadn hC 0 (r := (some b9)) rfl rfl dL_law_1385 ?_
      refine r_iload hC 4 rfl dL_law_1386 ?_
      refine r_iconst hC (3) rfl dL_law_1388 ?_
      refine r_iadd hC dL_law_1389 (fun v357 => ?_)
      refine r_sX hC hX dL_law_1390 (fun v358 => ?_)
      refine r_aloadn hC 3 (r := x23_3) rfl rfl dL_law_1391 ?_
      refine call_SW hC (av := [va_rf x23_1, .int v354, .int v356, .int v358, va_rf x23_3]) (st := []) (ct_L_bid hC.hl G x23_1 v354 v356 v358 x23_3 σ) q_714 q_715 q_38 q_716 yd_L_bid rfl ⟨Nat.le_of_ble_eq_true rfl, Nat.le_of_ble_eq_true rfl⟩ ⟨by omega, by omega⟩ rfl (Nat.le_of_ble_eq_true rfl) dL_law_1392 (fun v359 σ360 => ?_)
      show Wo _ _ _ _ _ _ _ _ _ _ [.int v359]
      refine r_istore hC [(5, .int v359), (0, va_rf (some b9)), (1, va_rf x23_1), (2, va_rf x23_2), (3, va_rf x23_3), (4, .int x23_4)] (i := 5) (by decide) rfl dL_law_1395 ?_
      refine r_aloadn hC 3 (r := x23_2) rfl rfl dL_law_1397 ?_
      refine r_aloadn hC 1 (r := (some b9)) rfl rfl dL_law_1398 ?_
      refine r_iload hC 5 rfl dL_law_1399 ?_
      refine r_iconst hC (1) rfl dL_law_1401 ?_
      refine r_iadd hC dL_law_1402 (fun v361 => ?_)
      refine r_sX hC hX dL_law_1403 (fun v362 => ?_)
      refine r_aloadn hC 1 (r := (some b9)) rfl rfl dL_law_1404 ?_
      refine r_iload hC 5 rfl dL_law_1405 ?_
      refine r_iconst hC (2) rfl dL_law_1407 ?_
      refine r_iadd hC dL_law_1408 (fun v363 => ?_)
      refine r_sX hC hX dL_law_1409 (fun v364 => ?_)
      refine r_aloadn hC 1 (r := (some b9)) rfl rfl dL_law_1410 ?_
      refine r_iload hC 5 rfl dL_law_1411 ?_
      refine r_iconst hC (3) rfl dL_law_1413 ?_
      refine r_iadd hC dL_law_1414 (fun v365 => ?_)
      refine r_sX hC hX dL_law_1415 (fun v366 => ?_)
      refine call_V hC (av := [.int v362, .int v364, .int v366]) (st := []) (r := x23_2) (ci := 10) rfl rfl (fun h9 => ct_X8_bid hC.hl G h9 v362 v364 v366 σ360) q_1307 q_1308 q_1309 q_44 q_1310 yd_X8_bid rfl ⟨Nat.le_of_ble_eq_true rfl, Nat.le_of_ble_eq_true rfl⟩ ⟨by omega, by omega⟩ rfl (Nat.le_of_ble_eq_true rfl) dL_law_1416 (fun v367 σ368 => ?_)
      show Wo _ _ _ _ _ _ _ _ _ _ [.int v367]
      refine r_istore hC [(6, .int v367), (5, .int v359), (0, va_rf (some b9)), (1, va_rf x23_1), (2, va_rf x23_2), (3, va_rf x23_3), (4, .int x23_4)] (i := 6) (by decide) rfl dL_law_1419 ?_
      refine r_aloadn hC 4 (r := x23_2) rfl rfl dL_law_1421 ?_
      refine call_V hC (av := []) (st := []) (r := x23_2) (ci := 10) rfl rfl (fun h9 => ct_X8_thrown hC.hl G h9 σ368) q_871 q_872 q_873 q_44 q_874 yd_X8_thrown rfl ⟨Nat.le_of_ble_eq_true rfl, Nat.le_of_ble_eq_true rfl⟩ ⟨by omega, by omega⟩ rfl (Nat.le_of_ble_eq_true rfl) dL_law_1422 (fun v370 σ371 => ?_)
      show Wo _ _ _ _ _ _ _ _ _ _ [.int v370]
      refine r_iload hC 1 rfl dL_law_1425 ?_
      refine r_icmp_eq hC 1432 dL_law_1427 (by decide) ?_ ?_
      · refine r_iload hC 1 rfl dL_law_1432 ?_
        refine r_if_ne hC 1449 dL_law_1434 (by decide) ?_ ?_
        · refine Wo.sub [2, 3, 4, 5, 6] rfl ?_
          exact t_L_law_1449 hC hX P23 hm23 k23 hk23 x23_1 x23_2 x23_3 x23_4 σ371 _ _ ⟨by omega, by omega⟩ (hm23 _ _ _ _ (by omega) (by omega) hP23)
        · refine r_aloadn hC 5 (r := x23_3) rfl rfl dL_law_1437 ?_
          refine r_iconst hC (0) rfl dL_law_1438 ?_
          refine r_aJ hC (r := x23_3) dL_law_1439 (fun v373 => ?_)
          refine r_iload hC 0 rfl dL_law_1440 ?_
          refine r_i2l hC dL_law_1442 (fun v374 => ?_)
          refine r_lcmp hC dL_law_1443 (fun v375 => ?_)
          refine r_if_eq hC 1449 dL_law_1444 (by decide) ?_ ?_
          · refine Wo.sub [2, 3, 4, 5, 6] rfl ?_
            exact t_L_law_1449 hC hX P23 hm23 k23 hk23 x23_1 x23_2 x23_3 x23_4 σ371 _ _ ⟨by omega, by omega⟩ (hm23 _ _ _ _ (by omega) (by omega) hP23)
          · refine r_iconst hC (0) rfl dL_law_1447 ?_
            exact e_law hC hX ⟨by omega, by omega⟩ dL_law_1448
      · refine r_iconst hC (0) rfl dL_law_1430 ?_
        exact e_law hC hX ⟨by omega, by omega⟩ dL_law_1431
    refine Wo.ite (fun h39_18 => ?_) (fun h39_18 => ?_)
    · refine r_tab hC 1452 dL_law_39 (by rw [h39_18]; decide) (by rw [h39_18]; decide) (by rw [h39_18]; rfl) (by decide) ?_
      refine r_aloadn hC 1 (r := x23_1) rfl rfl dL_law_1452 ?_
      refine r_aloadn hC 0 (r := (some b9)) rfl rfl dL_law_1453 ?_
      refine r_iload hC 4 rfl dL_law_1454 ?_
      refine r_iconst hC (1) rfl dL_law_1456 ?_
      refine r_iadd hC dL_law_1457 (fun v376 => ?_)
      refine r_sX hC hX dL_law_1458 (fun v377 => ?_)
      refine r_aloadn hC 3 (r := x23_3) rfl rfl dL_law_1459 ?_
      refine call_SW hC (av := [va_rf x23_1, .int v377, va_rf x23_3]) (st := []) (ct_L_knock hC.hl G x23_1 v377 x23_3 σ) q_730 q_731 q_38 q_732 yd_L_knock rfl ⟨Nat.le_of_ble_eq_true rfl, Nat.le_of_ble_eq_true rfl⟩ ⟨by omega, by omega⟩ rfl (Nat.le_of_ble_eq_true rfl) dL_law_1460 (fun v378 σ379 => ?_)
      show Wo _ _ _ _ _ _ _ _ _ _ [.int v378]
      refine r_istore hC [(5, .int v378), (0, va_rf (some b9)), (1, va_rf x23_1), (2, va_rf x23_2), (3, va_rf x23_3), (4, .int x23_4)] (i := 5) (by decide) rfl dL_law_1463 ?_
      refine r_aloadn hC 3 (r := x23_2) rfl rfl dL_law_1465 ?_
      refine r_aloadn hC 1 (r := (some b9)) rfl rfl dL_law_1466 ?_
      refine r_iload hC 5 rfl dL_law_1467 ?_
      refine r_iconst hC (1) rfl dL_law_1469 ?_
      refine r_iadd hC dL_law_1470 (fun v380 => ?_)
      refine r_sX hC hX dL_law_1471 (fun v381 => ?_)
      refine call_V hC (av := [.int v381]) (st := []) (r := x23_2) (ci := 10) rfl rfl (fun h9 => ct_X8_knock hC.hl G h9 v381 σ379) q_1320 q_1321 q_1322 q_44 q_1323 yd_X8_knock rfl ⟨Nat.le_of_ble_eq_true rfl, Nat.le_of_ble_eq_true rfl⟩ ⟨by omega, by omega⟩ rfl (Nat.le_of_ble_eq_true rfl) dL_law_1472 (fun v382 σ383 => ?_)
      show Wo _ _ _ _ _ _ _ _ _ _ [.int v382]
      refine r_istore hC [(6, .int v382), (5, .int v378), (0, va_rf (some b9)), (1, va_rf x23_1), (2, va_rf x23_2), (3, va_rf x23_3), (4, .int x23_4)] (i := 6) (by decide) rfl dL_law_1475 ?_
      refine r_aloadn hC 4 (r := x23_2) rfl rfl dL_law_1477 ?_
      refine call_V hC (av := []) (st := []) (r := x23_2) (ci := 10) rfl rfl (fun h9 => ct_X8_thrown hC.hl G h9 σ383) q_871 q_872 q_873 q_44 q_874 yd_X8_thrown rfl ⟨Nat.le_of_ble_eq_true rfl, Nat.le_of_ble_eq_true rfl⟩ ⟨by omega, by omega⟩ rfl (Nat.le_of_ble_eq_true rfl) dL_law_1478 (fun v385 σ386 => ?_)
      show Wo _ _ _ _ _ _ _ _ _ _ [.int v385]
      refine r_iload hC 1 rfl dL_law_1481 ?_
      refine r_icmp_eq hC 1488 dL_law_1483 (by decide) ?_ ?_
      · refine r_iload hC 1 rfl dL_law_1488 ?_
        refine r_if_ne hC 1505 dL_law_1490 (by decide) ?_ ?_
        · refine Wo.sub [2, 3, 4, 5, 6] rfl ?_
          exact t_L_law_1505 hC hX P23 hm23 k23 hk23 x23_1 x23_2 x23_3 x23_4 σ386 _ _ ⟨by omega, by omega⟩ (hm23 _ _ _ _ (by omega) (by omega) hP23)
        · refine r_aloadn hC 5 (r := x23_3) rfl rfl dL_law_1493 ?_
          refine r_iconst hC (0) rfl dL_law_1494 ?_
          refine r_aJ hC (r := x23_3) dL_law_1495 (fun v388 => ?_)
          refine r_iload hC 0 rfl dL_law_1496 ?_
          refine r_i2l hC dL_law_1498 (fun v389 => ?_)
          refine r_lcmp hC dL_law_1499 (fun v390 => ?_)
          refine r_if_eq hC 1505 dL_law_1500 (by decide) ?_ ?_
          · refine Wo.sub [2, 3, 4, 5, 6] rfl ?_
            exact t_L_law_1505 hC hX P23 hm23 k23 hk23 x23_1 x23_2 x23_3 x23_4 σ386 _ _ ⟨by omega, by omega⟩ (hm23 _ _ _ _ (by omega) (by omega) hP23)
          · refine r_iconst hC (0) rfl dL_law_1503 ?_
            exact e_law hC hX ⟨by omega, by omega⟩ dL_law_1504
      · refine r_iconst hC (0) rfl dL_law_1486 ?_
        exact e_law hC hX ⟨by omega, by omega⟩ dL_law_1487
    refine Wo.ite (fun h39_19 => ?_) (fun h39_19 => ?_)
    · refine r_tab hC 1508 dL_law_39 (by rw [h39_19]; decide) (by rw [h39_19]; decide) (by rw [h39_19]; rfl) (by decide) ?_
      refine r_aloadn hC 1 (r := x23_1) rfl rfl dL_law_1508 ?_
      refine r_aloadn hC 0 (r := (some b9)) rfl rfl dL_law_1509 ?_
      refine r_iload hC 4 rfl dL_law_1510 ?_
      refine r_iconst hC (1) rfl dL_law_1512 ?_
      refine r_iadd hC dL_law_1513 (fun v391 => ?_)
      refine r_sX hC hX dL_law_1514 (fun v392 => ?_)
      refine r_aloadn hC 0 (r := (some b9)) rfl rfl dL_law_1515 ?_
      refine r_iload hC 4 rfl dL_law_1516 ?_
      refine r_iconst hC (2) rfl dL_law_1518 ?_
      refine r_iadd hC dL_law_1519 (fun v393 => ?_)
      refine r_sX hC hX dL_law_1520 (fun v394 => ?_)
      refine r_aloadn hC 3 (r := x23_3) rfl rfl dL_law_1521 ?_
      refine call_SW hC (av := [va_rf x23_1, .int v392, .int v394, va_rf x23_3]) (st := []) (ct_L_ofSection hC.hl G x23_1 v392 v394 x23_3 σ) q_741 q_742 q_38 q_743 yd_L_ofSection rfl ⟨Nat.le_of_ble_eq_true rfl, Nat.le_of_ble_eq_true rfl⟩ ⟨by omega, by omega⟩ rfl (Nat.le_of_ble_eq_true rfl) dL_law_1522 (fun v395 σ396 => ?_)
      show Wo _ _ _ _ _ _ _ _ _ _ [.int v395]
      refine r_istore hC [(5, .int v395), (0, va_rf (some b9)), (1, va_rf x23_1), (2, va_rf x23_2), (3, va_rf x23_3), (4, .int x23_4)] (i := 5) (by decide) rfl dL_law_1525 ?_
      refine r_aloadn hC 3 (r := x23_2) rfl rfl dL_law_1527 ?_
      refine r_aloadn hC 1 (r := (some b9)) rfl rfl dL_law_1528 ?_
      refine r_iload hC 5 rfl dL_law_1529 ?_
      refine r_iconst hC (1) rfl dL_law_1531 ?_
      refine r_iadd hC dL_law_1532 (fun v397 => ?_)
      refine r_sX hC hX dL_law_1533 (fun v398 => ?_)
      refine r_aloadn hC 1 (r := (some b9)) rfl rfl dL_law_1534 ?_
      refine r_iload hC 5 rfl dL_law_1535 ?_
      refine r_iconst hC (2) rfl dL_law_1537 ?_
      refine r_iadd hC dL_law_1538 (fun v399 => ?_)
      refine r_sX hC hX dL_law_1539 (fun v400 => ?_)
      refine call_V hC (av := [.int v398, .int v400]) (st := []) (r := x23_2) (ci := 10) rfl rfl (fun h9 => ct_X8_ofSection hC.hl G h9 v398 v400 σ396) q_1333 q_1334 q_1335 q_44 q_1336 yd_X8_ofSection rfl ⟨Nat.le_of_ble_eq_true rfl, Nat.le_of_ble_eq_true rfl⟩ ⟨by omega, by omega⟩ rfl (Nat.le_of_ble_eq_true rfl) dL_law_1540 (fun v401 σ402 => ?_)
      show Wo _ _ _ _ _ _ _ _ _ _ [.int v401]
      refine r_istore hC [(6, .int v401), (5, .int v395), (0, va_rf (some b9)), (1, va_rf x23_1), (2, va_rf x23_2), (3, va_rf x23_3), (4, .int x23_4)] (i := 6) (by decide) rfl dL_law_1543 ?_
      refine r_aloadn hC 4 (r := x23_2) rfl rfl dL_law_1545 ?_
      refine call_V hC (av := []) (st := []) (r := x23_2) (ci := 10) rfl rfl (fun h9 => ct_X8_thrown hC.hl G h9 σ402) q_871 q_872 q_873 q_44 q_874 yd_X8_thrown rfl ⟨Nat.le_of_ble_eq_true rfl, Nat.le_of_ble_eq_true rfl⟩ ⟨by omega, by omega⟩ rfl (Nat.le_of_ble_eq_true rfl) dL_law_1546 (fun v404 σ405 => ?_)
      show Wo _ _ _ _ _ _ _ _ _ _ [.int v404]
      refine r_iload hC 1 rfl dL_law_1549 ?_
      refine r_icmp_eq hC 1556 dL_law_1551 (by decide) ?_ ?_
      · refine r_iload hC 1 rfl dL_law_1556 ?_
        refine r_if_ne hC 1573 dL_law_1558 (by decide) ?_ ?_
        · refine Wo.sub [2, 3, 4, 5, 6] rfl ?_
          exact t_L_law_1573 hC hX P23 hm23 k23 hk23 x23_1 x23_2 x23_3 x23_4 σ405 _ _ ⟨by omega, by omega⟩ (hm23 _ _ _ _ (by omega) (by omega) hP23)
        · refine r_aloadn hC 5 (r := x23_3) rfl rfl dL_law_1561 ?_
          refine r_iconst hC (0) rfl dL_law_1562 ?_
          refine r_aJ hC (r := x23_3) dL_law_1563 (fun v407 => ?_)
          refine r_iload hC 0 rfl dL_law_1564 ?_
          refine r_i2l hC dL_law_1566 (fun v408 => ?_)
          refine r_lcmp hC dL_law_1567 (fun v409 => ?_)
          refine r_if_eq hC 1573 dL_law_1568 (by decide) ?_ ?_
          · refine Wo.sub [2, 3, 4, 5, 6] rfl ?_
            exact t_L_law_1573 hC hX P23 hm23 k23 hk23 x23_1 x23_2 x23_3 x23_4 σ405 _ _ ⟨by omega, by omega⟩ (hm23 _ _ _ _ (by omega) (by omega) hP23)
          · refine r_iconst hC (0) rfl dL_law_1571 ?_
            exact e_law hC hX ⟨by omega, by omega⟩ dL_law_1572
      · refine r_iconst hC (0) rfl dL_law_1554 ?_
        exact e_law hC hX ⟨by omega, by omega⟩ dL_law_1555
    refine Wo.ite (fun h39_20 => ?_) (fun h39_20 => ?_)
    · refine r_tab hC 1576 dL_law_39 (by rw [h39_20]; decide) (by rw [h39_20]; decide) (by rw [h39_20]; rfl) (by decide) ?_
      refine r_aloadn hC 1 (r := x23_1) rfl rfl dL_law_1576 ?_
      refine r_aloadn hC 0 (r := (some b9)) rfl rfl dL_law_1577 ?_
      refine r_iload hC 4 rfl dL_law_1578 ?_
      refine r_iconst hC (1) rfl dL_law_1580 ?_
      refine r_iadd hC dL_law_1581 (fun v410 => ?_)
      refine r_sX hC hX dL_law_1582 (fun v411 => ?_)
      refine r_aloadn hC 0 (r := (some b9)) rfl rfl dL_law_1583 ?_
      refine r_iload hC 4 rfl dL_law_1584 ?_
      refine r_iconst hC (2) rfl dL_law_1586 ?_
      refine r_iadd hC dL_law_1587 (fun v412 => ?_)
      refine r_sX hC hX dL_law_1588 (fun v413 => ?_)
      refine r_aloadn hC 3 (r := x23_3) rfl rfl dL_law_1589 ?_
      refine call_SW hC (av := [va_rf x23_1, .int v411, .int v413, va_rf x23_3]) (st := []) (ct_L_ofLot hC.hl G x23_1 v411 v413 x23_3 σ) q_745 q_746 q_38 q_747 yd_L_ofLot rfl ⟨Nat.le_of_ble_eq_true rfl, Nat.le_of_ble_eq_true rfl⟩ ⟨by omega, by omega⟩ rfl (Nat.le_of_ble_eq_true rfl) dL_law_1590 (fun v414 σ415 => ?_)
      show Wo _ _ _ _ _ _ _ _ _ _ [.int v414]
      refine r_istore hC [(5, .int v414), (0, va_rf (some b9)), (1, va_rf x23_1), (2, va_rf x23_2), (3, va_rf x23_3), (4, .int x23_4)] (i := 5) (by decide) rfl dL_law_1593 ?_
      refine r_aloadn hC 3 (r := x23_2) rfl rfl dL_law_1595 ?_
      refine r_aloadn hC 1 (r := (some b9)) rfl rfl dL_law_1596 ?_
      refine r_iload hC 5 rfl dL_law_1597 ?_
      refine r_iconst hC (1) rfl dL_law_1599 ?_
      refine r_iadd hC dL_law_1600 (fun v416 => ?_)
      refine r_sX hC hX dL_law_1601 (fun v417 => ?_)
      refine r_aloadn hC 1 (r := (some b9)) rfl rfl dL_law_1602 ?_
      refine r_iload hC 5 rfl dL_law_1603 ?_
      refine r_iconst hC (2) rfl dL_law_1605 ?_
      refine r_iadd hC dL_law_1606 (fun v418 => ?_)
      refine r_sX hC hX dL_law_1607 (fun v419 => ?_)
      refine call_V hC (av := [.int v417, .int v419]) (st := []) (r := x23_2) (ci := 10) rfl rfl (fun h9 => ct_X8_ofLot hC.hl G h9 v417 v419 σ415) q_1341 q_1342 q_1343 q_44 q_1344 yd_X8_ofLot rfl ⟨Nat.le_of_ble_eq_true rfl, Nat.le_of_ble_eq_true rfl⟩ ⟨by omega, by omega⟩ rfl (Nat.le_of_ble_eq_true rfl) dL_law_1608 (fun v420 σ421 => ?_)
      show Wo _ _ _ _ _ _ _ _ _ _ [.int v420]
      refine r_istore hC [(6, .int v420), (5, .int v414), (0, va_rf (some b9)), (1, va_rf x23_1), (2, va_rf x23_2), (3, va_rf x23_3), (4, .int x23_4)] (i := 6) (by decide) rfl dL_law_1611 ?_
      refine r_aloadn hC 4 (r := x23_2) rfl rfl dL_law_1613 ?_
      refine call_V hC (av := []) (st := []) (r := x23_2) (ci := 10) rfl rfl (fun h9 => ct_X8_thrown hC.hl G h9 σ421) q_871 q_872 q_873 q_44 q_874 yd_X8_thrown rfl ⟨Nat.le_of_ble_eq_true rfl, Nat.le_of_ble_eq_true rfl⟩ ⟨by omega, by omega⟩ rfl (Nat.le_of_ble_eq_true rfl) dL_law_1614 (fun v423 σ424 => ?_)
      show Wo _ _ _ _ _ _ _ _ _ _ [.int v423]
      refine r_iload hC 1 rfl dL_law_1617 ?_
      refine r_icmp_eq hC 1624 dL_law_1619 (by decide) ?_ ?_
      · refine r_iload hC 1 rfl dL_law_1624 ?_
        refine r_if_ne hC 1641 dL_law_1626 (by decide) ?_ ?_
        · refine Wo.sub [2, 3, 4, 5, 6] rfl ?_
          exact t_L_law_1641 hC hX P23 hm23 k23 hk23 x23_1 x23_2 x23_3 x23_4 σ424 _ _ ⟨by omega, by omega⟩ (hm23 _ _ _ _ (by omega) (by omega) hP23)
        · refine r_aloadn hC 5 (r := x23_3) rfl rfl dL_law_1629 ?_
          refine r_iconst hC (0) rfl dL_law_1630 ?_
          refine r_aJ hC (r := x23_3) dL_law_1631 (fun v426 => ?_)
          refine r_iload hC 0 rfl dL_law_1632 ?_
          refine r_i2l hC dL_law_1634 (fun v427 => ?_)
          refine r_lcmp hC dL_law_1635 (fun v428 => ?_)
          refine r_if_eq hC 1641 dL_law_1636 (by decide) ?_ ?_
          · refine Wo.sub [2, 3, 4, 5, 6] rfl ?_
            exact t_L_law_1641 hC hX P23 hm23 k23 hk23 x23_1 x23_2 x23_3 x23_4 σ424 _ _ ⟨by omega, by omega⟩ (hm23 _ _ _ _ (by omega) (by omega) hP23)
          · refine r_iconst hC (0) rfl dL_law_1639 ?_
            exact e_law hC hX ⟨by omega, by omega⟩ dL_law_1640
      · refine r_iconst hC (0) rfl dL_law_1622 ?_
        exact e_law hC hX ⟨by omega, by omega⟩ dL_law_1623
    refine Wo.ite (fun h39_21 => ?_) (fun h39_21 => ?_)
    · refine r_tab hC 1644 dL_law_39 (by rw [h39_21]; decide) (by rw [h39_21]; decide) (by rw [h39_21]; rfl) (by decide) ?_
      refine r_aloadn hC 1 (r := x23_1) rfl rfl dL_law_1644 ?_
      refine r_aloadn hC 0 (r := (some b9)) rfl rfl dL_law_1645 ?_
      refine r_iload hC 4 rfl dL_law_1646 ?_
      refine r_iconst hC (1) rfl dL_law_1648 ?_
      refine r_iadd hC dL_law_1649 (fun v429 => ?_)
      refine r_sX hC hX dL_law_1650 (fun v430 => ?_)
      refine r_aloadn hC 0 (r := (some b9)) rfl rfl dL_law_1651 ?_
      refine r_iload hC 4 rfl dL_law_1652 ?_
      refine r_iconst hC (2) rfl dL_law_1654 ?_
      refine r_iadd hC dL_law_1655 (fun v431 => ?_)
      refine r_sX hC hX dL_law_1656 (fun v432 => ?_)
      refine r_aloadn hC 3 (r := x23_3) rfl rfl dL_law_1657 ?_
      refine call_SW hC (av := [va_rf x23_1, .int v430, .int v432, va_rf x23_3]) (st := []) (ct_L_note hC.hl G x23_1 v430 v432 x23_3 σ) q_749 q_750 q_38 q_751 yd_L_note rfl ⟨Nat.le_of_ble_eq_true rfl, Nat.le_of_ble_eq_true rfl⟩ ⟨by omega, by omega⟩ rfl (Nat.le_of_ble_eq_true rfl) dL_law_1658 (fun v433 σ434 => ?_)
      show Wo _ _ _ _ _ _ _ _ _ _ [.int v433]
      refine r_istore hC [(5, .int v433), (0, va_rf (some b9)), (1, va_rf x23_1), (2, va_rf x23_2), (3, va_rf x23_3), (4, .int x23_4)] (i := 5) (by decide) rfl dL_law_1661 ?_
      refine r_aloadn hC 3 (r := x23_2) rfl rfl dL_law_1663 ?_
      refine r_aloadn hC 1 (r := (some b9)) rfl rfl dL_law_1664 ?_
      refine r_iload hC 5 rfl dL_law_1665 ?_
      refine r_iconst hC (1) rfl dL_law_1667 ?_
      refine r_iadd hC dL_law_1668 (fun v435 => ?_)
      refine r_sX hC hX dL_law_1669 (fun v436 => ?_)
      refine r_aloadn hC 1 (r := (some b9)) rfl rfl dL_law_1670 ?_
      refine r_iload hC 5 rfl dL_law_1671 ?_
      refine r_iconst hC (2) rfl dL_law_1673 ?_
      refine r_iadd hC dL_law_1674 (fun v437 => ?_)
      refine r_sX hC hX dL_law_1675 (fun v438 => ?_)
      refine call_V hC (av := [.int v436, .int v438]) (st := []) (r := x23_2) (ci := 10) rfl rfl (fun h9 => ct_X8_note hC.hl G h9 v436 v438 σ434) q_1349 q_1350 q_1351 q_44 q_1352 yd_X8_note rfl ⟨Nat.le_of_ble_eq_true rfl, Nat.le_of_ble_eq_true rfl⟩ ⟨by omega, by omega⟩ rfl (Nat.le_of_ble_eq_true rfl) dL_law_1676 (fun v439 σ440 => ?_)
      show Wo _ _ _ _ _ _ _ _ _ _ [.int v439]
      refine r_istore hC [(6, .int v439), (5, .int v433), (0, va_rf (some b9)), (1, va_rf x23_1), (2, va_rf x23_2), (3, va_rf x23_3), (4, .int x23_4)] (i := 6) (by decide) rfl dL_law_1679 ?_
      refine r_aloadn hC 4 (r := x23_2) rfl rfl dL_law_1681 ?_
      refine call_V hC (av := []) (st := []) (r := x23_2) (ci := 10) rfl rfl (fun h9 => ct_X8_thrown hC.hl G h9 σ440) q_871 q_872 q_873 q_44 q_874 yd_X8_thrown rfl ⟨Nat.le_of_ble_eq_true rfl, Nat.le_of_ble_eq_true rfl⟩ ⟨by omega, by omega⟩ rfl (Nat.le_of_ble_eq_true rfl) dL_law_1682 (fun v442 σ443 => ?_)
      show Wo _ _ _ _ _ _ _ _ _ _ [.int v442]
      refine r_iload hC 1 rfl dL_law_1685 ?_
      refine r_icmp_eq hC 1692 dL_law_1687 (by decide) ?_ ?_
      · refine r_iload hC 1 rfl dL_law_1692 ?_
        refine r_if_ne hC 1709 dL_law_1694 (by decide) ?_ ?_
        · refine Wo.sub [2, 3, 4, 5, 6] rfl ?_
          exact t_L_law_1709 hC hX P23 hm23 k23 hk23 x23_1 x23_2 x23_3 x23_4 σ443 _ _ ⟨by omega, by omega⟩ (hm23 _ _ _ _ (by omega) (by omega) hP23)
        · refine r_aloadn hC 5 (r := x23_3) rfl rfl dL_law_1697 ?_
          refine r_iconst hC (0) rfl dL_law_1698 ?_
          refine r_aJ hC (r := x23_3) dL_law_1699 (fun v445 => ?_)
          refine r_iload hC 0 rfl dL_law_1700 ?_
          refine r_i2l hC dL_law_1702 (fun v446 => ?_)
          refine r_lcmp hC dL_law_1703 (fun v447 => ?_)
          refine r_if_eq hC 1709 dL_law_1704 (by decide) ?_ ?_
          · refine Wo.sub [2, 3, 4, 5, 6] rfl ?_
            exact t_L_law_1709 hC hX P23 hm23 k23 hk23 x23_1 x23_2 x23_3 x23_4 σ443 _ _ ⟨by omega, by omega⟩ (hm23 _ _ _ _ (by omega) (by omega) hP23)
          · refine r_iconst hC (0) rfl dL_law_1707 ?_
            exact e_law hC hX ⟨by omega, by omega⟩ dL_law_1708
      · refine r_iconst hC (0) rfl dL_law_1690 ?_
        exact e_law hC hX ⟨by omega, by omega⟩ dL_law_1691
    refine Wo.ite (fun h39_22 => ?_) (fun h39_22 => ?_)
    · refine r_tab hC 1712 dL_law_39 (by rw [h39_22]; decide) (by rw [h39_22]; decide) (by rw [h39_22]; rfl) (by decide) ?_
      refine r_aloadn hC 1 (r := x23_1) rfl rfl dL_law_1712 ?_
      refine r_aloadn hC 0 (r := (some b9)) rfl rfl dL_law_1713 ?_
      refine r_iload hC 4 rfl dL_law_1714 ?_
      refine r_iconst hC (1) rfl dL_law_1716 ?_
      refine r_iadd hC dL_law_1717 (fun v448 => ?_)
      refine r_sX hC hX dL_law_1718 (fun v449 => ?_)
      refine r_aloadn hC 0 (r := (some b9)) rfl rfl dL_law_1719 ?_
      refine r_iload hC 4 rfl dL_law_1720 ?_
      refine r_iconst hC (2) rfl dL_law_1722 ?_
      refine r_iadd hC dL_law_1723 (fun v450 => ?_)
      refine r_sX hC hX dL_law_1724 (fun v451 => ?_)
      refine r_aloadn hC 3 (r := x23_3) rfl rfl dL_law_1725 ?_
      refine call_SW hC (av := [va_rf x23_1, .int v449, .int v451, va_rf x23_3]) (st := []) (ct_L_taste hC.hl G x23_1 v449 v451 x23_3 σ) q_753 q_754 q_38 q_755 yd_L_taste rfl ⟨Nat.le_of_ble_eq_true rfl, Nat.le_of_ble_eq_true rfl⟩ ⟨by omega, by omega⟩ rfl (Nat.le_of_ble_eq_true rfl) dL_law_1726 (fun v452 σ453 => ?_)
      show Wo _ _ _ _ _ _ _ _ _ _ [.int v452]
      refine r_istore hC [(5, .int v452), (0, va_rf (some b9)), (1, va_rf x23_1), (2, va_rf x23_2), (3, va_rf x23_3), (4, .int x23_4)] (i := 5) (by decide) rfl dL_law_1729 ?_
      refine r_aloadn hC 3 (r := x23_2) rfl rfl dL_law_1731 ?_
      refine r_aloadn hC 1 (r := (some b9)) rfl rfl dL_law_1732 ?_
      refine r_iload hC 5 rfl dL_law_1733 ?_
      refine r_iconst hC (1) rfl dL_law_1735 ?_
      refine r_iadd hC dL_law_1736 (fun v454 => ?_)
      refine r_sX hC hX dL_law_1737 (fun v455 => ?_)
      refine r_aloadn hC 1 (r := (some b9)) rfl rfl dL_law_1738 ?_
      refine r_iload hC 5 rfl dL_law_1739 ?_
      refine r_iconst hC (2) rfl dL_law_1741 ?_
      refine r_iadd hC dL_law_1742 (fun v456 => ?_)
      refine r_sX hC hX dL_law_1743 (fun v457 => ?_)
      refine call_V hC (av := [.int v455, .int v457]) (st := []) (r := x23_2) (ci := 10) rfl rfl (fun h9 => ct_X8_taste hC.hl G h9 v455 v457 σ453) q_1357 q_1358 q_1359 q_44 q_1360 yd_X8_taste rfl ⟨Nat.le_of_ble_eq_true rfl, Nat.le_of_ble_eq_true rfl⟩ ⟨by omega, by omega⟩ rfl (Nat.le_of_ble_eq_true rfl) dL_law_1744 (fun v458 σ459 => ?_)
      show Wo _ _ _ _ _ _ _ _ _ _ [.int v458]
      refine r_istore hC [(6, .int v458), (5, .int v452), (0, va_rf (some b9)), (1, va_rf x23_1), (2, va_rf x23_2), (3, va_rf x23_3), (4, .int x23_4)] (i := 6) (by decide) rfl dL_law_1747 ?_
      refine r_aloadn hC 4 (r := x23_2) rfl rfl dL_law_1749 ?_
      refine call_V hC (av := []) (st := []) (r := x23_2) (ci := 10) rfl rfl (fun h9 => ct_X8_thrown hC.hl G h9 σ459) q_871 q_872 q_873 q_44 q_874 yd_X8_thrown rfl ⟨Nat.le_of_ble_eq_true rfl, Nat.le_of_ble_eq_true rfl⟩ ⟨by omega, by omega⟩ rfl (Nat.le_of_ble_eq_true rfl) dL_law_1750 (fun v461 σ462 => ?_)
      show Wo _ _ _ _ _ _ _ _ _ _ [.int v461]
      refine r_iload hC 1 rfl dL_law_1753 ?_
      refine r_icmp_eq hC 1760 dL_law_1755 (by decide) ?_ ?_
      · refine r_iload hC 1 rfl dL_law_1760 ?_
        refine r_if_ne hC 1777 dL_law_1762 (by decide) ?_ ?_
        · refine Wo.sub [2, 3, 4, 5, 6] rfl ?_
          exact t_L_law_1777 hC hX P23 hm23 k23 hk23 x23_1 x23_2 x23_3 x23_4 σ462 _ _ ⟨by omega, by omega⟩ (hm23 _ _ _ _ (by omega) (by omega) hP23)
        · refine r_aloadn hC 5 (r := x23_3) rfl rfl dL_law_1765 ?_
          refine r_iconst hC (0) rfl dL_law_1766 ?_
          refine r_aJ hC (r := x23_3) dL_law_1767 (fun v464 => ?_)
          refine r_iload hC 0 rfl dL_law_1768 ?_
          refine r_i2l hC dL_law_1770 (fun v465 => ?_)
          refine r_lcmp hC dL_law_1771 (fun v466 => ?_)
          refine r_if_eq hC 1777 dL_law_1772 (by decide) ?_ ?_
          · refine Wo.sub [2, 3, 4, 5, 6] rfl ?_
            exact t_L_law_1777 hC hX P23 hm23 k23 hk23 x23_1 x23_2 x23_3 x23_4 σ462 _ _ ⟨by omega, by omega⟩ (hm23 _ _ _ _ (by omega) (by omega) hP23)
          · refine r_iconst hC (0) rfl dL_law_1775 ?_
            exact e_law hC hX ⟨by omega, by omega⟩ dL_law_1776
      · refine r_iconst hC (0) rfl dL_law_1758 ?_
        exact e_law hC hX ⟨by omega, by omega⟩ dL_law_1759
    refine Wo.ite (fun h39_23 => ?_) (fun h39_23 => ?_)
    · refine r_tab hC 1780 dL_law_39 (by rw [h39_23]; decide) (by rw [h39_23]; decide) (by rw [h39_23]; rfl) (by decide) ?_
      refine r_aloadn hC 1 (r := x23_1) rfl rfl dL_law_1780 ?_
      refine r_aloadn hC 0 (r := (some b9)) rfl rfl dL_law_1781 ?_
      refine r_iload hC 4 rfl dL_law_1782 ?_
      refine r_iconst hC (1) rfl dL_law_1784 ?_
      refine r_iadd hC dL_law_1785 (fun v467 => ?_)
      refine r_sX hC hX dL_law_1786 (fun v468 => ?_)
      refine r_aloadn hC 0 (r := (some b9)) rfl rfl dL_law_1787 ?_
      refine r_iload hC 4 rfl dL_law_1788 ?_
      refine r_iconst hC (2) rfl dL_law_1790 ?_
      refine r_iadd hC dL_law_1791 (fun v469 => ?_)
      refine r_sX hC hX dL_law_1792 (fun v470 => ?_)
      refine r_aloadn hC 3 (r := x23_3) rfl rfl dL_law_1793 ?_
      refine call_SW hC (av := [va_rf x23_1, .int v468, .int v470, va_rf x23_3]) (st := []) (ct_L_ofTaster hC.hl G x23_1 v468 v470 x23_3 σ) q_757 q_758 q_38 q_759 yd_L_ofTaster rfl ⟨Nat.le_of_ble_eq_true rfl, Nat.le_of_ble_eq_true rfl⟩ ⟨by omega, by omega⟩ rfl (Nat.le_of_ble_eq_true rfl) dL_law_1794 (fun v471 σ472 => ?_)
      show Wo _ _ _ _ _ _ _ _ _ _ [.int v471]
      refine r_istore hC [(5, .int v471), (0, va_rf (some b9)), (1, va_rf x23_1), (2, va_rf x23_2), (3, va_rf x23_3), (4, .int x23_4)] (i := 5) (by decide) rfl dL_law_1797 ?_
      refine r_aloadn hC 3 (r := x23_2) rfl rfl dL_law_1799 ?_
      refine r_aloadn hC 1 (r := (some b9)) rfl rfl dL_law_1800 ?_
      refine r_iload hC 5 rfl dL_law_1801 ?_
      refine r_iconst hC (1) rfl dL_law_1803 ?_
      refine r_iadd hC dL_law_1804 (fun v473 => ?_)
      refine r_sX hC hX dL_law_1805 (fun v474 => ?_)
      refine r_aloadn hC 1 (r := (some b9)) rfl rfl dL_law_1806 ?_
      refine r_iload hC 5 rfl dL_law_1807 ?_
      refine r_iconst hC (2) rfl dL_law_1809 ?_
      refine r_iadd hC dL_law_1810 (fun v475 => ?_)
      refine r_sX hC hX dL_law_1811 (fun v476 => ?_)
      refine call_V hC (av := [.int v474, .int v476]) (st := []) (r := x23_2) (ci := 10) rfl rfl (fun h9 => ct_X8_ofTaster hC.hl G h9 v474 v476 σ472) q_1366 q_1367 q_1368 q_44 q_1369 yd_X8_ofTaster rfl ⟨Nat.le_of_ble_eq_true rfl, Nat.le_of_ble_eq_true rfl⟩ ⟨by omega, by omega⟩ rfl (Nat.le_of_ble_eq_true rfl) dL_law_1812 (fun v477 σ478 => ?_)
      show Wo _ _ _ _ _ _ _ _ _ _ [.int v477]
      refine r_istore hC [(6, .int v477), (5, .int v471), (0, va_rf (some b9)), (1, va_rf x23_1), (2, va_rf x23_2), (3, va_rf x23_3), (4, .int x23_4)] (i := 6) (by decide) rfl dL_law_1815 ?_
      refine r_aloadn hC 4 (r := x23_2) rfl rfl dL_law_1817 ?_
      refine call_V hC (av := []) (st := []) (r := x23_2) (ci := 10) rfl rfl (fun h9 => ct_X8_thrown hC.hl G h9 σ478) q_871 q_872 q_873 q_44 q_874 yd_X8_thrown rfl ⟨Nat.le_of_ble_eq_true rfl, Nat.le_of_ble_eq_true rfl⟩ ⟨by omega, by omega⟩ rfl (Nat.le_of_ble_eq_true rfl) dL_law_1818 (fun v480 σ481 => ?_)
      show Wo _ _ _ _ _ _ _ _ _ _ [.int v480]
      refine r_iload hC 1 rfl dL_law_1821 ?_
      refine r_icmp_eq hC 1828 dL_law_1823 (by decide) ?_ ?_
      · refine r_iload hC 1 rfl dL_law_1828 ?_
        refine r_if_ne hC 1845 dL_law_1830 (by decide) ?_ ?_
        · refine Wo.sub [2, 3, 4, 5, 6] rfl ?_
          exact t_L_law_1845 hC hX P23 hm23 k23 hk23 x23_1 x23_2 x23_3 x23_4 σ481 _ _ ⟨by omega, by omega⟩ (hm23 _ _ _ _ (by omega) (by omega) hP23)
        · refine r_aloadn hC 5 (r := x23_3) rfl rfl dL_law_1833 ?_
          refine r_iconst hC (0) rfl dL_law_1834 ?_
          refine r_aJ hC (r := x23_3) dL_law_1835 (fun v483 => ?_)
          refine r_iload hC 0 rfl dL_law_1836 ?_
          refine r_i2l hC dL_law_1838 (fun v484 => ?_)
          refine r_lcmp hC dL_law_1839 (fun v485 => ?_)
          refine r_if_eq hC 1845 dL_law_1840 (by decide) ?_ ?_
          · refine Wo.sub [2, 3, 4, 5, 6] rfl ?_
            exact t_L_law_1845 hC hX P23 hm23 k23 hk23 x23_1 x23_2 x23_3 x23_4 σ481 _ _ ⟨by omega, by omega⟩ (hm23 _ _ _ _ (by omega) (by omega) hP23)
          · refine r_iconst hC (0) rfl dL_law_1843 ?_
            exact e_law hC hX ⟨by omega, by omega⟩ dL_law_1844
      · refine r_iconst hC (0) rfl dL_law_1826 ?_
        exact e_law hC hX ⟨by omega, by omega⟩ dL_law_1827
    refine Wo.ite (fun h39_24 => ?_) (fun h39_24 => ?_)
    · refine r_tab hC 1848 dL_law_39 (by rw [h39_24]; decide) (by rw [h39_24]; decide) (by rw [h39_24]; rfl) (by decide) ?_
      refine r_aloadn hC 1 (r := x23_1) rfl rfl dL_law_1848 ?_
      refine r_aloadn hC 0 (r := (some b9)) rfl rfl dL_law_1849 ?_
      refine r_iload hC 4 rfl dL_law_1850 ?_
      refine r_iconst hC (1) rfl dL_law_1852 ?_
      refine r_iadd hC dL_law_1853 (fun v486 => ?_)
      refine r_sX hC hX dL_law_1854 (fun v487 => ?_)
      refine r_aloadn hC 0 (r := (some b9)) rfl rfl dL_law_1855 ?_
      refine r_iload hC 4 rfl dL_law_1856 ?_
      refine r_iconst hC (2) rfl dL_law_1858 ?_
      refine r_iadd hC dL_law_1859 (fun v488 => ?_)
      refine r_sX hC hX dL_law_1860 (fun v489 => ?_)
      refine r_aloadn hC 3 (r := x23_3) rfl rfl dL_law_1861 ?_
      refine call_SW hC (av := [va_rf x23_1, .int v487, .int v489, va_rf x23_3]) (st := []) (ct_L_bidOf hC.hl G x23_1 v487 v489 x23_3 σ) q_761 q_762 q_38 q_763 yd_L_bidOf rfl ⟨Nat.le_of_ble_eq_true rfl, Nat.le_of_ble_eq_true rfl⟩ ⟨by omega, by omega⟩ rfl (Nat.le_of_ble_eq_true rfl) dL_law_1862 (fun v490 σ491 => ?_)
      show Wo _ _ _ _ _ _ _ _ _ _ [.int v490]
      refine r_istore hC [(5, .int v490), (0, va_rf (some b9)), (1, va_rf x23_1), (2, va_rf x23_2), (3, va_rf x23_3), (4, .int x23_4)] (i := 5) (by decide) rfl dL_law_1865 ?_
      refine r_aloadn hC 3 (r := x23_2) rfl rfl dL_law_1867 ?_
      refine r_aloadn hC 1 (r := (some b9)) rfl rfl dL_law_1868 ?_
      refine r_iload hC 5 rfl dL_law_1869 ?_
      refine r_iconst hC (1) rfl dL_law_1871 ?_
      refine r_iadd hC dL_law_1872 (fun v492 => ?_)
      refine r_sX hC hX dL_law_1873 (fun v493 => ?_)
      refine r_aloadn hC 1 (r := (some b9)) rfl rfl dL_law_1874 ?_
      refine r_iload hC 5 rfl dL_law_1875 ?_
      refine r_iconst hC (2) rfl dL_law_1877 ?_
      refine r_iadd hC dL_law_1878 (fun v494 => ?_)
      refine r_sX hC hX dL_law_1879 (fun v495 => ?_)
      refine call_V hC (av := [.int v493, .int v495]) (st := []) (r := x23_2) (ci := 10) rfl rfl (fun h9 => ct_X8_bidOf hC.hl G h9 v493 v495 σ491) q_1374 q_1375 q_1376 q_44 q_1377 yd_X8_bidOf rfl ⟨Nat.le_of_ble_eq_true rfl, Nat.le_of_ble_eq_true rfl⟩ ⟨by omega, by omega⟩ rfl (Nat.le_of_ble_eq_true rfl) dL_law_1880 (fun v496 σ497 => ?_)
      show Wo _ _ _ _ _ _ _ _ _ _ [.int v496]
      refine r_istore hC [(6, .int v496), (5, .int v490), (0, va_rf (some b9)), (1, va_rf x23_1), (2, va_rf x23_2), (3, va_rf x23_3), (4, .int x23_4)] (i := 6) (by decide) rfl dL_law_1883 ?_
      refine r_aloadn hC 4 (r := x23_2) rfl rfl dL_law_1885 ?_
      refine call_V hC (av := []) (st := []) (r := x23_2) (ci := 10) rfl rfl (fun h9 => ct_X8_thrown hC.hl G h9 σ497) q_871 q_872 q_873 q_44 q_874 yd_X8_thrown rfl ⟨Nat.le_of_ble_eq_true rfl, Nat.le_of_ble_eq_true rfl⟩ ⟨by omega, by omega⟩ rfl (Nat.le_of_ble_eq_true rfl) dL_law_1886 (fun v499 σ500 => ?_)
      show Wo _ _ _ _ _ _ _ _ _ _ [.int v499]
      refine r_iload hC 1 rfl dL_law_1889 ?_
      refine r_icmp_eq hC 1896 dL_law_1891 (by decide) ?_ ?_
      · refine r_iload hC 1 rfl dL_law_1896 ?_
        refine r_if_ne hC 1913 dL_law_1898 (by decide) ?_ ?_
        · refine Wo.sub [2, 3, 4, 5, 6] rfl ?_
          exact t_L_law_1913 hC hX P23 hm23 k23 hk23 x23_1 x23_2 x23_3 x23_4 σ500 _ _ ⟨by omega, by omega⟩ (hm23 _ _ _ _ (by omega) (by omega) hP23)
        · refine r_aloadn hC 5 (r := x23_3) rfl rfl dL_law_1901 ?_
          refine r_iconst hC (0) rfl dL_law_1902 ?_
          refine r_aJ hC (r := x23_3) dL_law_1903 (fun v502 => ?_)
          refine r_iload hC 0 rfl dL_law_1904 ?_
          refine r_i2l hC dL_law_1906 (fun v503 => ?_)
          refine r_lcmp hC dL_law_1907 (fun v504 => ?_)
          refine r_if_eq hC 1913 dL_law_1908 (by decide) ?_ ?_
          · refine Wo.sub [2, 3, 4, 5, 6] rfl ?_
            exact t_L_law_1913 hC hX P23 hm23 k23 hk23 x23_1 x23_2 x23_3 x23_4 σ500 _ _ ⟨by omega, by omega⟩ (hm23 _ _ _ _ (by omega) (by omega) hP23)
          · refine r_iconst hC (0) rfl dL_law_1911 ?_
            exact e_law hC hX ⟨by omega, by omega⟩ dL_law_1912
      · refine r_iconst hC (0) rfl dL_law_1894 ?_
        exact e_law hC hX ⟨by omega, by omega⟩ dL_law_1895
    refine Wo.ite (fun h39_25 => ?_) (fun h39_25 => ?_)
    · refine r_tab hC 1916 dL_law_39 (by rw [h39_25]; decide) (by rw [h39_25]; decide) (by rw [h39_25]; rfl) (by decide) ?_
      refine r_aloadn hC 1 (r := x23_1) rfl rfl dL_law_1916 ?_
      refine r_aloadn hC 0 (r := (some b9)) rfl rfl dL_law_1917 ?_
      refine r_iload hC 4 rfl dL_law_1918 ?_
      refine r_iconst hC (1) rfl dL_law_1920 ?_
      refine r_iadd hC dL_law_1921 (fun v505 => ?_)
      refine r_sX hC hX dL_law_1922 (fun v506 => ?_)
      refine r_aloadn hC 3 (r := x23_3) rfl rfl dL_law_1923 ?_
      refine call_SW hC (av := [va_rf x23_1, .int v506, va_rf x23_3]) (st := []) (ct_L_many hC.hl G x23_1 v506 x23_3 σ) q_765 q_766 q_38 q_767 yd_L_many rfl ⟨Nat.le_of_ble_eq_true rfl, Nat.le_of_ble_eq_true rfl⟩ ⟨by omega, by omega⟩ rfl (Nat.le_of_ble_eq_true rfl) dL_law_1924 (fun v507 σ508 => ?_)
      show Wo _ _ _ _ _ _ _ _ _ _ [.int v507]
      refine r_istore hC [(5, .int v507), (0, va_rf (some b9)), (1, va_rf x23_1), (2, va_rf x23_2), (3, va_rf x23_3), (4, .int x23_4)] (i := 5) (by decide) rfl dL_law_1927 ?_
      refine r_aloadn hC 3 (r := x23_2) rfl rfl dL_law_1929 ?_
      refine r_aloadn hC 1 (r := (some b9)) rfl rfl dL_law_1930 ?_
      refine r_iload hC 5 rfl dL_law_1931 ?_
      refine r_iconst hC (1) rfl dL_law_1933 ?_
      refine r_iadd hC dL_law_1934 (fun v509 => ?_)
      refine r_sX hC hX dL_law_1935 (fun v510 => ?_)
      refine call_V hC (av := [.int v510]) (st := []) (r := x23_2) (ci := 10) rfl rfl (fun h9 => ct_X8_many hC.hl G h9 v510 σ508) q_1382 q_1383 q_1384 q_44 q_1385 yd_X8_many rfl ⟨Nat.le_of_ble_eq_true rfl, Nat.le_of_ble_eq_true rfl⟩ ⟨by omega, by omega⟩ rfl (Nat.le_of_ble_eq_true rfl) dL_law_1936 (fun v511 σ512 => ?_)
      show Wo _ _ _ _ _ _ _ _ _ _ [.int v511]
      refine r_istore hC [(6, .int v511), (5, .int v507), (0, va_rf (some b9)), (1, va_rf x23_1), (2, va_rf x23_2), (3, va_rf x23_3), (4, .int x23_4)] (i := 6) (by decide) rfl dL_law_1939 ?_
      refine r_aloadn hC 4 (r := x23_2) rfl rfl dL_law_1941 ?_
      refine call_V hC (av := []) (st := []) (r := x23_2) (ci := 10) rfl rfl (fun h9 => ct_X8_thrown hC.hl G h9 σ512) q_871 q_872 q_873 q_44 q_874 yd_X8_thrown rfl ⟨Nat.le_of_ble_eq_true rfl, Nat.le_of_ble_eq_true rfl⟩ ⟨by omega, by omega⟩ rfl (Nat.le_of_ble_eq_true rfl) dL_law_1942 (fun v514 σ515 => ?_)
      show Wo _ _ _ _ _ _ _ _ _ _ [.int v514]
      refine r_iload hC 1 rfl dL_law_1945 ?_
      refine r_icmp_eq hC 1952 dL_law_1947 (by decide) ?_ ?_
      · refine r_iload hC 1 rfl dL_law_1952 ?_
        refine r_if_ne hC 1969 dL_law_1954 (by decide) ?_ ?_
        · refine Wo.sub [2, 3, 4, 5, 6] rfl ?_
          exact t_L_law_1969 hC hX P23 hm23 k23 hk23 x23_1 x23_2 x23_3 x23_4 σ515 _ _ ⟨by omega, by omega⟩ (hm23 _ _ _ _ (by omega) (by omega) hP23)
        · refine r_aloadn hC 5 (r := x23_3) rfl rfl dL_law_1957 ?_
          refine r_iconst hC (0) rfl dL_law_1958 ?_
          refine r_aJ hC (r := x23_3) dL_law_1959 (fun v517 => ?_)
          refine r_iload hC 0 rfl dL_law_1960 ?_
          refine r_i2l hC dL_law_1962 (fun v518 => ?_)
          refine r_lcmp hC dL_law_1963 (fun v519 => ?_)
          refine r_if_eq hC 1969 dL_law_1964 (by decide) ?_ ?_
          · refine Wo.sub [2, 3, 4, 5, 6] rfl ?_
            exact t_L_law_1969 hC hX P23 hm23 k23 hk23 x23_1 x23_2 x23_3 x23_4 σ515 _ _ ⟨by omega, by omega⟩ (hm23 _ _ _ _ (by omega) (by omega) hP23)
          · refine r_iconst hC (0) rfl dL_law_1967 ?_
            exact e_law hC hX ⟨by omega, by omega⟩ dL_law_1968
      · refine r_iconst hC (0) rfl dL_law_1950 ?_
        exact e_law hC hX ⟨by omega, by omega⟩ dL_law_1951
    refine Wo.ite (fun h39_26 => ?_) (fun h39_26 => ?_)
    · refine r_tab hC 1972 dL_law_39 (by rw [h39_26]; decide) (by rw [h39_26]; decide) (by rw [h39_26]; rfl) (by decide) ?_
      refine r_aloadn hC 1 (r := x23_1) rfl rfl dL_law_1972 ?_
      refine call_V hC (av := []) (st := []) (r := x23_1) (ci := 6) rfl rfl (fun h9 => ct_X4_meanNotes hC.hl G h9 σ) q_263 q_264 q_265 q_39 q_266 yd_X4_meanNotes rfl ⟨Nat.le_of_ble_eq_true rfl, Nat.le_of_ble_eq_true rfl⟩ ⟨by omega, by omega⟩ rfl (Nat.le_of_ble_eq_true rfl) dL_law_1973 (fun v520 σ521 => ?_)
      show Wo _ _ _ _ _ _ _ _ _ _ [.double v520]
      refine r_dstore hC [(5, .double v520), (0, va_rf (some b9)), (1, va_rf x23_1), (2, va_rf x23_2), (3, va_rf x23_3), (4, .int x23_4)] (i := 5) (by decide) rfl dL_law_1976 ?_
      refine r_aloadn hC 3 (r := x23_2) rfl rfl dL_law_1978 ?_
      refine call_V hC (av := []) (st := []) (r := x23_2) (ci := 10) rfl rfl (fun h9 => ct_X8_meanNotes hC.hl G h9 σ521) q_1394 q_1395 q_1396 q_44 q_1397 yd_X8_meanNotes rfl ⟨Nat.le_of_ble_eq_true rfl, Nat.le_of_ble_eq_true rfl⟩ ⟨by omega, by omega⟩ rfl (Nat.le_of_ble_eq_true rfl) dL_law_1979 (fun v523 σ524 => ?_)
      show Wo _ _ _ _ _ _ _ _ _ _ [.double v523]
      refine r_dstore hC [(7, .double v523), (5, .double v520), (0, va_rf (some b9)), (1, va_rf x23_1), (2, va_rf x23_2), (3, va_rf x23_3), (4, .int x23_4)] (i := 7) (by decide) rfl dL_law_1982 ?_
      refine r_dload hC 1 rfl dL_law_1984 ?_
      refine r_dload hC 0 rfl dL_law_1986 ?_
      refine r_dcmp hC dL_law_1988 (fun v526 => ?_)
      refine r_if_eq hC 2010 dL_law_1989 (by decide) ?_ ?_
      · refine Wo.sub [2, 3, 4, 5, 6] rfl ?_
        exact t_L_law_2010 hC hX P23 hm23 k23 hk23 x23_1 x23_2 x23_3 x23_4 σ524 _ _ ⟨by omega, by omega⟩ (hm23 _ _ _ _ (by omega) (by omega) hP23)
      · refine r_dload hC 1 rfl dL_law_1992 ?_
        refine r_dload hC 1 rfl dL_law_1994 ?_
        refine r_dcmp hC dL_law_1996 (fun v527 => ?_)
        refine r_if_eq hC 2008 dL_law_1997 (by decide) ?_ ?_
        · refine Wo.sub [] rfl ?_
          exact t_L_law_2008 hC hX  σ524 _ _ ⟨by omega, by omega⟩
        · refine r_dload hC 0 rfl dL_law_2000 ?_
          refine r_dload hC 0 rfl dL_law_2002 ?_
          refine r_dcmp hC dL_law_2004 (fun v528 => ?_)
          refine r_if_ne hC 2010 dL_law_2005 (by decide) ?_ ?_
          · refine Wo.sub [2, 3, 4, 5, 6] rfl ?_
            exact t_L_law_2010 hC hX P23 hm23 k23 hk23 x23_1 x23_2 x23_3 x23_4 σ524 _ _ ⟨by omega, by omega⟩ (hm23 _ _ _ _ (by omega) (by omega) hP23)
          · refine Wo.sub [] rfl ?_
            exact t_L_law_2008 hC hX  σ524 _ _ ⟨by omega, by omega⟩
    refine Wo.ite (fun h39_27 => ?_) (fun h39_27 => ?_)
    · refine r_tab hC 2013 dL_law_39 (by rw [h39_27]; decide) (by rw [h39_27]; decide) (by rw [h39_27]; rfl) (by decide) ?_
      refine r_aloadn hC 1 (r := x23_1) rfl rfl dL_law_2013 ?_
      refine r_aloadn hC 0 (r := (some b9)) rfl rfl dL_law_2014 ?_
      refine r_iload hC 4 rfl dL_law_2015 ?_
      refine r_iconst hC (1) rfl dL_law_2017 ?_
      refine r_iadd hC dL_law_2018 (fun v529 => ?_)
      refine r_sX hC hX dL_law_2019 (fun v530 => ?_)
      refine r_aloadn hC 0 (r := (some b9)) rfl rfl dL_law_2020 ?_
      refine r_iload hC 4 rfl dL_law_2021 ?_
      refine r_iconst hC (2) rfl dL_law_2023 ?_
      refine r_iadd hC dL_law_2024 (fun v531 => ?_)
      refine r_sX hC hX dL_law_2025 (fun v532 => ?_)
      refine r_aloadn hC 0 (r := (some b9)) rfl rfl dL_law_2026 ?_
      refine r_iload hC 4 rfl dL_law_2027 ?_
      refine r_iconst hC (3) rfl dL_law_2029 ?_
      refine r_iadd hC dL_law_2030 (fun v533 => ?_)
      refine r_sX hC hX dL_law_2031 (fun v534 => ?_)
      refine r_aloadn hC 3 (r := x23_3) rfl rfl dL_law_2032 ?_
      refine call_SW hC (av := [va_rf x23_1, .int v530, .int v532, .int v534, va_rf x23_3]) (st := []) (ct_L_flushIn hC.hl G x23_1 v530 v532 v534 x23_3 σ) q_769 q_770 q_38 q_771 yd_L_flushIn rfl ⟨Nat.le_of_ble_eq_true rfl, Nat.le_of_ble_eq_true rfl⟩ ⟨by omega, by omega⟩ rfl (Nat.le_of_ble_eq_true rfl) dL_law_2033 (fun v535 σ536 => ?_)
      show Wo _ _ _ _ _ _ _ _ _ _ [.int v535]
      refine r_istore hC [(5, .int v535), (0, va_rf (some b9)), (1, va_rf x23_1), (2, va_rf x23_2), (3, va_rf x23_3), (4, .int x23_4)] (i := 5) (by decide) rfl dL_law_2036 ?_
      refine r_aloadn hC 3 (r := x23_2) rfl rfl dL_law_2038 ?_
      refine r_aloadn hC 1 (r := (some b9)) rfl rfl dL_law_2039 ?_
      refine r_iload hC 5 rfl dL_law_2040 ?_
      refine r_iconst hC (1) rfl dL_law_2042 ?_
      refine r_iadd hC dL_law_2043 (fun v537 => ?_)
      refine r_sX hC hX dL_law_2044 (fun v538 => ?_)
      refine r_aloadn hC 1 (r := (some b9)) rfl rfl dL_law_2045 ?_
      refine r_iload hC 5 rfl dL_law_2046 ?_
      refine r_iconst hC (2) rfl dL_law_2048 ?_
      refine r_iadd hC dL_law_2049 (fun v539 => ?_)
      refine r_sX hC hX dL_law_2050 (fun v540 => ?_)
      refine r_aloadn hC 1 (r := (some b9)) rfl rfl dL_law_2051 ?_
      refine r_iload hC 5 rfl dL_law_2052 ?_
      refine r_iconst hC (3) rfl dL_law_2054 ?_
      refine r_iadd hC dL_law_2055 (fun v541 => ?_)
      refine r_sX hC hX dL_law_2056 (fun v542 => ?_)
      refine call_V hC (av := [.int v538, .int v540, .int v542]) (st := []) (r := x23_2) (ci := 10) rfl rfl (fun h9 => ct_X8_flushIn hC.hl G h9 v538 v540 v542 σ536) q_1403 q_1404 q_1405 q_44 q_1406 yd_X8_flushIn rfl ⟨Nat.le_of_ble_eq_true rfl, Nat.le_of_ble_eq_true rfl⟩ ⟨by omega, by omega⟩ rfl (Nat.le_of_ble_eq_true rfl) dL_law_2057 (fun v543 σ544 => ?_)
      show Wo _ _ _ _ _ _ _ _ _ _ [.int v543]
      refine r_istore hC [(6, .int v543), (5, .int v535), (0, va_rf (some b9)), (1, va_rf x23_1), (2, va_rf x23_2), (3, va_rf x23_3), (4, .int x23_4)] (i := 6) (by decide) rfl dL_law_2060 ?_
      refine r_aloadn hC 4 (r := x23_2) rfl rfl dL_law_2062 ?_
      refine call_V hC (av := []) (st := []) (r := x23_2) (ci := 10) rfl rfl (fun h9 => ct_X8_thrown hC.hl G h9 σ544) q_871 q_872 q_873 q_44 q_874 yd_X8_thrown rfl ⟨Nat.le_of_ble_eq_true rfl, Nat.le_of_ble_eq_true rfl⟩ ⟨by omega, by omega⟩ rfl (Nat.le_of_ble_eq_true rfl) dL_law_2063 (fun v546 σ547 => ?_)
      show Wo _ _ _ _ _ _ _ _ _ _ [.int v546]
      refine r_iload hC 1 rfl dL_law_2066 ?_
      refine r_icmp_eq hC 2073 dL_law_2068 (by decide) ?_ ?_
      · refine r_iload hC 1 rfl dL_law_2073 ?_
        refine r_if_ne hC 2090 dL_law_2075 (by decide) ?_ ?_
        · refine Wo.sub [2, 3, 4, 5, 6] rfl ?_
          exact t_L_law_2090 hC hX P23 hm23 k23 hk23 x23_1 x23_2 x23_3 x23_4 σ547 _ _ ⟨by omega, by omega⟩ (hm23 _ _ _ _ (by omega) (by omega) hP23)
        · refine r_aloadn hC 5 (r := x23_3) rfl rfl dL_law_2078 ?_
          refine r_iconst hC (0) rfl dL_law_2079 ?_
          refine r_aJ hC (r := x23_3) dL_law_2080 (fun v549 => ?_)
          refine r_iload hC 0 rfl dL_law_2081 ?_
          refine r_i2l hC dL_law_2083 (fun v550 => ?_)
          refine r_lcmp hC dL_law_2084 (fun v551 => ?_)
          refine r_if_eq hC 2090 dL_law_2085 (by decide) ?_ ?_
          · refine Wo.sub [2, 3, 4, 5, 6] rfl ?_
            exact t_L_law_2090 hC hX P23 hm23 k23 hk23 x23_1 x23_2 x23_3 x23_4 σ547 _ _ ⟨by omega, by omega⟩ (hm23 _ _ _ _ (by omega) (by omega) hP23)
          · refine r_iconst hC (0) rfl dL_law_2088 ?_
            exact e_law hC hX ⟨by omega, by omega⟩ dL_law_2089
      · refine r_iconst hC (0) rfl dL_law_2071 ?_
        exact e_law hC hX ⟨by omega, by omega⟩ dL_law_2072
    refine Wo.ite (fun h39_28 => ?_) (fun h39_28 => ?_)
    · refine r_tab hC 2093 dL_law_39 (by rw [h39_28]; decide) (by rw [h39_28]; decide) (by rw [h39_28]; rfl) (by decide) ?_
      refine r_aloadn hC 1 (r := x23_1) rfl rfl dL_law_2093 ?_
      refine r_aloadn hC 0 (r := (some b9)) rfl rfl dL_law_2094 ?_
      refine r_iload hC 4 rfl dL_law_2095 ?_
      refine r_iconst hC (1) rfl dL_law_2097 ?_
      refine r_iadd hC dL_law_2098 (fun v552 => ?_)
      refine r_sX hC hX dL_law_2099 (fun v553 => ?_)
      refine r_aloadn hC 3 (r := x23_3) rfl rfl dL_law_2100 ?_
      refine call_SW hC (av := [va_rf x23_1, .int v553, va_rf x23_3]) (st := []) (ct_L_bestFire hC.hl G x23_1 v553 x23_3 σ) q_773 q_774 q_38 q_775 yd_L_bestFire rfl ⟨Nat.le_of_ble_eq_true rfl, Nat.le_of_ble_eq_true rfl⟩ ⟨by omega, by omega⟩ rfl (Nat.le_of_ble_eq_true rfl) dL_law_2101 (fun v554 σ555 => ?_)
      show Wo _ _ _ _ _ _ _ _ _ _ [.int v554]
      refine r_istore hC [(5, .int v554), (0, va_rf (some b9)), (1, va_rf x23_1), (2, va_rf x23_2), (3, va_rf x23_3), (4, .int x23_4)] (i := 5) (by decide) rfl dL_law_2104 ?_
      refine r_aloadn hC 3 (r := x23_2) rfl rfl dL_law_2106 ?_
      refine r_aloadn hC 1 (r := (some b9)) rfl rfl dL_law_2107 ?_
      refine r_iload hC 5 rfl dL_law_2108 ?_
      refine r_iconst hC (1) rfl dL_law_2110 ?_
      refine r_iadd hC dL_law_2111 (fun v556 => ?_)
      refine r_sX hC hX dL_law_2112 (fun v557 => ?_)
      refine call_V hC (av := [.int v557]) (st := []) (r := x23_2) (ci := 10) rfl rfl (fun h9 => ct_X8_bestFire hC.hl G h9 v557 σ555) q_1418 q_1419 q_1420 q_44 q_1421 yd_X8_bestFire rfl ⟨Nat.le_of_ble_eq_true rfl, Nat.le_of_ble_eq_true rfl⟩ ⟨by omega, by omega⟩ rfl (Nat.le_of_ble_eq_true rfl) dL_law_2113 (fun v558 σ559 => ?_)
      show Wo _ _ _ _ _ _ _ _ _ _ [.int v558]
      refine r_istore hC [(6, .int v558), (5, .int v554), (0, va_rf (some b9)), (1, va_rf x23_1), (2, va_rf x23_2), (3, va_rf x23_3), (4, .int x23_4)] (i := 6) (by decide) rfl dL_law_2116 ?_
      refine r_aloadn hC 4 (r := x23_2) rfl rfl dL_law_2118 ?_
      refine call_V hC (av := []) (st := []) (r := x23_2) (ci := 10) rfl rfl (fun h9 => ct_X8_thrown hC.hl G h9 σ559) q_871 q_872 q_873 q_44 q_874 yd_X8_thrown rfl ⟨Nat.le_of_ble_eq_true rfl, Nat.le_of_ble_eq_true rfl⟩ ⟨by omega, by omega⟩ rfl (Nat.le_of_ble_eq_true rfl) dL_law_2119 (fun v561 σ562 => ?_)
      show Wo _ _ _ _ _ _ _ _ _ _ [.int v561]
      refine r_iload hC 1 rfl dL_law_2122 ?_
      refine r_icmp_eq hC 2129 dL_law_2124 (by decide) ?_ ?_
      · refine r_iload hC 1 rfl dL_law_2129 ?_
        refine r_if_ne hC 2146 dL_law_2131 (by decide) ?_ ?_
        · refine Wo.sub [2, 3, 4, 5, 6] rfl ?_
          exact t_L_law_2146 hC hX P23 hm23 k23 hk23 x23_1 x23_2 x23_3 x23_4 σ562 _ _ ⟨by omega, by omega⟩ (hm23 _ _ _ _ (by omega) (by omega) hP23)
        · refine r_aloadn hC 5 (r := x23_3) rfl rfl dL_law_2134 ?_
          refine r_iconst hC (0) rfl dL_law_2135 ?_
          refine r_aJ hC (r := x23_3) dL_law_2136 (fun v564 => ?_)
          refine r_iload hC 0 rfl dL_law_2137 ?_
          refine r_i2l hC dL_law_2139 (fun v565 => ?_)
          refine r_lcmp hC dL_law_2140 (fun v566 => ?_)
          refine r_if_eq hC 2146 dL_law_2141 (by decide) ?_ ?_
          · refine Wo.sub [2, 3, 4, 5, 6] rfl ?_
            exact t_L_law_2146 hC hX P23 hm23 k23 hk23 x23_1 x23_2 x23_3 x23_4 σ562 _ _ ⟨by omega, by omega⟩ (hm23 _ _ _ _ (by omega) (by omega) hP23)
          · refine r_iconst hC (0) rfl dL_law_2144 ?_
            exact e_law hC hX ⟨by omega, by omega⟩ dL_law_2145
      · refine r_iconst hC (0) rfl dL_law_2127 ?_
        exact e_law hC hX ⟨by omega, by omega⟩ dL_law_2128
    refine Wo.ite (fun h39_29 => ?_) (fun h39_29 => ?_)
    · refine r_tab hC 2149 dL_law_39 (by rw [h39_29]; decide) (by rw [h39_29]; decide) (by rw [h39_29]; rfl) (by decide) ?_
      refine r_aloadn hC 1 (r := x23_1) rfl rfl dL_law_2149 ?_
      refine r_aloadn hC 0 (r := (some b9)) rfl rfl dL_law_2150 ?_
      refine r_iload hC 4 rfl dL_law_2151 ?_
      refine r_iconst hC (1) rfl dL_law_2153 ?_
      refine r_iadd hC dL_law_2154 (fun v567 => ?_)
      refine r_sX hC hX dL_law_2155 (fun v568 => ?_)
      refine r_aloadn hC 0 (r := (some b9)) rfl rfl dL_law_2156 ?_
      refine r_iload hC 4 rfl dL_law_2157 ?_
      refine r_iconst hC (2) rfl dL_law_2159 ?_
      refine r_iadd hC dL_law_2160 (fun v569 => ?_)
      refine r_sX hC hX dL_law_2161 (fun v570 => ?_)
      refine r_aloadn hC 0 (r := (some b9)) rfl rfl dL_law_2162 ?_
      refine r_iload hC 4 rfl dL_law_2163 ?_
      refine r_iconst hC (3) rfl dL_law_2165 ?_
      refine r_iadd hC dL_law_2166 (fun v571 => ?_)
      refine r_sX hC hX dL_law_2167 (fun v572 => ?_)
      refine r_aloadn hC 3 (r := x23_3) rfl rfl dL_law_2168 ?_
      refine call_SW hC (av := [va_rf x23_1, .int v568, .int v570, .int v572, va_rf x23_3]) (st := []) (ct_L_bestMix hC.hl G x23_1 v568 v570 v572 x23_3 σ) q_777 q_778 q_38 q_779 yd_L_bestMix rfl ⟨Nat.le_of_ble_eq_true rfl, Nat.le_of_ble_eq_true rfl⟩ ⟨by omega, by omega⟩ rfl (Nat.le_of_ble_eq_true rfl) dL_law_2169 (fun v573 σ574 => ?_)
      show Wo _ _ _ _ _ _ _ _ _ _ [.int v573]
      refine r_istore hC [(5, .int v573), (0, va_rf (some b9)), (1, va_rf x23_1), (2, va_rf x23_2), (3, va_rf x23_3), (4, .int x23_4)] (i := 5) (by decide) rfl dL_law_2172 ?_
      refine r_aloadn hC 3 (r := x23_2) rfl rfl dL_law_2174 ?_
      refine r_aloadn hC 1 (r := (some b9)) rfl rfl dL_law_2175 ?_
      refine r_iload hC 5 rfl dL_law_2176 ?_
      refine r_iconst hC (1) rfl dL_law_2178 ?_
      refine r_iadd hC dL_law_2179 (fun v575 => ?_)
      refine r_sX hC hX dL_law_2180 (fun v576 => ?_)
      refine r_aloadn hC 1 (r := (some b9)) rfl rfl dL_law_2181 ?_
      refine r_iload hC 5 rfl dL_law_2182 ?_
      refine r_iconst hC (2) rfl dL_law_2184 ?_
      refine r_iadd hC dL_law_2185 (fun v577 => ?_)
      refine r_sX hC hX dL_law_2186 (fun v578 => ?_)
      refine r_aloadn hC 1 (r := (some b9)) rfl rfl dL_law_2187 ?_
      refine r_iload hC 5 rfl dL_law_2188 ?_
      refine r_iconst hC (3) rfl dL_law_2190 ?_
      refine r_iadd hC dL_law_2191 (fun v579 => ?_)
      refine r_sX hC hX dL_law_2192 (fun v580 => ?_)
      refine call_V hC (av := [.int v576, .int v578, .int v580]) (st := []) (r := x23_2) (ci := 10) rfl rfl (fun h9 => ct_X8_bestMix hC.hl G h9 v576 v578 v580 σ574) q_1433 q_1434 q_1435 q_44 q_1436 yd_X8_bestMix rfl ⟨Nat.le_of_ble_eq_true rfl, Nat.le_of_ble_eq_true rfl⟩ ⟨by omega, by omega⟩ rfl (Nat.le_of_ble_eq_true rfl) dL_law_2193 (fun v581 σ582 => ?_)
      show Wo _ _ _ _ _ _ _ _ _ _ [.int v581]
      refine r_istore hC [(6, .int v581), (5, .int v573), (0, va_rf (some b9)), (1, va_rf x23_1), (2, va_rf x23_2), (3, va_rf x23_3), (4, .int x23_4)] (i := 6) (by decide) rfl dL_law_2196 ?_
      refine r_aloadn hC 4 (r := x23_2) rfl rfl dL_law_2198 ?_
      refine call_V hC (av := []) (st := []) (r := x23_2) (ci := 10) rfl rfl (fun h9 => ct_X8_thrown hC.hl G h9 σ582) q_871 q_872 q_873 q_44 q_874 yd_X8_thrown rfl ⟨Nat.le_of_ble_eq_true rfl, Nat.le_of_ble_eq_true rfl⟩ ⟨by omega, by omega⟩ rfl (Nat.le_of_ble_eq_true rfl) dL_law_2199 (fun v584 σ585 => ?_)
      show Wo _ _ _ _ _ _ _ _ _ _ [.int v584]
      refine r_iload hC 1 rfl dL_law_2202 ?_
      refine r_icmp_eq hC 2209 dL_law_2204 (by decide) ?_ ?_
      · refine r_iload hC 1 rfl dL_law_2209 ?_
        refine r_if_ne hC 2226 dL_law_2211 (by decide) ?_ ?_
        · refine Wo.sub [2, 3, 4, 5, 6] rfl ?_
          exact t_L_law_2226 hC hX P23 hm23 k23 hk23 x23_1 x23_2 x23_3 x23_4 σ585 _ _ ⟨by omega, by omega⟩ (hm23 _ _ _ _ (by omega) (by omega) hP23)
        · refine r_aloadn hC 5 (r := x23_3) rfl rfl dL_law_2214 ?_
          refine r_iconst hC (0) rfl dL_law_2215 ?_
          refine r_aJ hC (r := x23_3) dL_law_2216 (fun v587 => ?_)
          refine r_iload hC 0 rfl dL_law_2217 ?_
          refine r_i2l hC dL_law_2219 (fun v588 => ?_)
          refine r_lcmp hC dL_law_2220 (fun v589 => ?_)
          refine r_if_eq hC 2226 dL_law_2221 (by decide) ?_ ?_
          · refine Wo.sub [2, 3, 4, 5, 6] rfl ?_
            exact t_L_law_2226 hC hX P23 hm23 k23 hk23 x23_1 x23_2 x23_3 x23_4 σ585 _ _ ⟨by omega, by omega⟩ (hm23 _ _ _ _ (by omega) (by omega) hP23)
          · refine r_iconst hC (0) rfl dL_law_2224 ?_
            exact e_law hC hX ⟨by omega, by omega⟩ dL_law_2225
      · refine r_iconst hC (0) rfl dL_law_2207 ?_
        exact e_law hC hX ⟨by omega, by omega⟩ dL_law_2208
    refine Wo.ite (fun h39_30 => ?_) (fun h39_30 => ?_)
    · refine r_tab hC 2229 dL_law_39 (by rw [h39_30]; decide) (by rw [h39_30]; decide) (by rw [h39_30]; rfl) (by decide) ?_
      refine r_aloadn hC 1 (r := x23_1) rfl rfl dL_law_2229 ?_
      refine r_aloadn hC 0 (r := (some b9)) rfl rfl dL_law_2230 ?_
      refine r_iload hC 4 rfl dL_law_2231 ?_
      refine r_iconst hC (1) rfl dL_law_2233 ?_
      refine r_iadd hC dL_law_2234 (fun v590 => ?_)
      refine r_sX hC hX dL_law_2235 (fun v591 => ?_)
      refine r_aloadn hC 3 (r := x23_3) rfl rfl dL_law_2236 ?_
      refine call_SW hC (av := [va_rf x23_1, .int v591, va_rf x23_3]) (st := []) (ct_L_wouldPay hC.hl G x23_1 v591 x23_3 σ) q_781 q_782 q_38 q_783 yd_L_wouldPay rfl ⟨Nat.le_of_ble_eq_true rfl, Nat.le_of_ble_eq_true rfl⟩ ⟨by omega, by omega⟩ rfl (Nat.le_of_ble_eq_true rfl) dL_law_2237 (fun v592 σ593 => ?_)
      show Wo _ _ _ _ _ _ _ _ _ _ [.int v592]
      refine r_istore hC [(5, .int v592), (0, va_rf (some b9)), (1, va_rf x23_1), (2, va_rf x23_2), (3, va_rf x23_3), (4, .int x23_4)] (i := 5) (by decide) rfl dL_law_2240 ?_
      refine r_aloadn hC 3 (r := x23_2) rfl rfl dL_law_2242 ?_
      refine r_aloadn hC 1 (r := (some b9)) rfl rfl dL_law_2243 ?_
      refine r_iload hC 5 rfl dL_law_2244 ?_
      refine r_iconst hC (1) rfl dL_law_2246 ?_
      refine r_iadd hC dL_law_2247 (fun v594 => ?_)
      refine r_sX hC hX dL_law_2248 (fun v595 => ?_)
      refine call_V hC (av := [.int v595]) (st := []) (r := x23_2) (ci := 10) rfl rfl (fun h9 => ct_X8_wouldPay hC.hl G h9 v595 σ593) q_1444 q_1445 q_1446 q_44 q_1447 yd_X8_wouldPay rfl ⟨Nat.le_of_ble_eq_true rfl, Nat.le_of_ble_eq_true rfl⟩ ⟨by omega, by omega⟩ rfl (Nat.le_of_ble_eq_true rfl) dL_law_2249 (fun v596 σ597 => ?_)
      show Wo _ _ _ _ _ _ _ _ _ _ [.int v596]
      refine r_istore hC [(6, .int v596), (5, .int v592), (0, va_rf (some b9)), (1, va_rf x23_1), (2, va_rf x23_2), (3, va_rf x23_3), (4, .int x23_4)] (i := 6) (by decide) rfl dL_law_2252 ?_
      refine r_aloadn hC 4 (r := x23_2) rfl rfl dL_law_2254 ?_
      refine call_V hC (av := []) (st := []) (r := x23_2) (ci := 10) rfl rfl (fun h9 => ct_X8_thrown hC.hl G h9 σ597) q_871 q_872 q_873 q_44 q_874 yd_X8_thrown rfl ⟨Nat.le_of_ble_eq_true rfl, Nat.le_of_ble_eq_true rfl⟩ ⟨by omega, by omega⟩ rfl (Nat.le_of_ble_eq_true rfl) dL_law_2255 (fun v599 σ600 => ?_)
      show Wo _ _ _ _ _ _ _ _ _ _ [.int v599]
      refine r_iload hC 1 rfl dL_law_2258 ?_
      refine r_icmp_eq hC 2265 dL_law_2260 (by decide) ?_ ?_
      · refine r_iload hC 1 rfl dL_law_2265 ?_
        refine r_if_ne hC 2282 dL_law_2267 (by decide) ?_ ?_
        · refine Wo.sub [2, 3, 4, 5, 6] rfl ?_
          exact t_L_law_2282 hC hX P23 hm23 k23 hk23 x23_1 x23_2 x23_3 x23_4 σ600 _ _ ⟨by omega, by omega⟩ (hm23 _ _ _ _ (by omega) (by omega) hP23)
        · refine r_aloadn hC 5 (r := x23_3) rfl rfl dL_law_2270 ?_
          refine r_iconst hC (0) rfl dL_law_2271 ?_
          refine r_aJ hC (r := x23_3) dL_law_2272 (fun v602 => ?_)
          refine r_iload hC 0 rfl dL_law_2273 ?_
          refine r_i2l hC dL_law_2275 (fun v603 => ?_)
          refine r_lcmp hC dL_law_2276 (fun v604 => ?_)
          refine r_if_eq hC 2282 dL_law_2277 (by decide) ?_ ?_
          · refine Wo.sub [2, 3, 4, 5, 6] rfl ?_
            exact t_L_law_2282 hC hX P23 hm23 k23 hk23 x23_1 x23_2 x23_3 x23_4 σ600 _ _ ⟨by omega, by omega⟩ (hm23 _ _ _ _ (by omega) (by omega) hP23)
          · refine r_iconst hC (0) rfl dL_law_2280 ?_
            exact e_law hC hX ⟨by omega, by omega⟩ dL_law_2281
      · refine r_iconst hC (0) rfl dL_law_2263 ?_
        exact e_law hC hX ⟨by omega, by omega⟩ dL_law_2264
    refine Wo.ite (fun h39_31 => ?_) (fun h39_31 => ?_)
    · refine r_tab hC 2285 dL_law_39 (by rw [h39_31]; decide) (by rw [h39_31]; decide) (by rw [h39_31]; rfl) (by decide) ?_
      refine r_aloadn hC 1 (r := x23_1) rfl rfl dL_law_2285 ?_
      refine callH_V hC rfl (av := []) (st := []) (r := x23_1) (ci := 6) rfl rfl (fun h9 => ct_X4_digest hC.hl G h9 σ) q_300 q_301 q_302 q_39 q_303 yd_X4_digest rfl ⟨Nat.le_of_ble_eq_true rfl, Nat.le_of_ble_eq_true rfl⟩ ⟨by omega, by omega⟩ ⟨by omega, by omega⟩ rfl (Nat.le_of_ble_eq_true rfl) dL_law_2286 (fun k9 σ9 => Or.inl rfl) (fun v605 σ606 => ?_)
      show Wo _ _ _ _ _ _ _ _ _ _ [.long v605]
      refine r_aloadn hC 2 (r := x23_2) rfl rfl dL_law_2289 ?_
      refine call_V hC (av := []) (st := [.long v605]) (r := x23_2) (ci := 10) rfl rfl (fun h9 => ct_X8_digest hC.hl G h9 σ606) q_1452 q_1453 q_1454 q_44 q_1455 yd_X8_digest rfl ⟨Nat.le_of_ble_eq_true rfl, Nat.le_of_ble_eq_true rfl⟩ ⟨by omega, by omega⟩ rfl (by simp [cat_rf, cat_i, cat_j, cat_d, cat_a]) dL_law_2290 (fun v608 σ609 => ?_)
      show Wo _ _ _ _ _ _ _ _ _ _ [.long v608, .long v605]
      refine r_lcmp hC dL_law_2293 (fun v611 => ?_)
      refine r_if_eq hC 2299 dL_law_2294 (by decide) ?_ ?_
      · exact t_L_law_2299 hC hX P23 hm23 k23 hk23 x23_1 x23_2 x23_3 x23_4 σ609 _ _ ⟨by omega, by omega⟩ (hm23 _ _ _ _ (by omega) (by omega) hP23)
      · refine r_iconst hC (0) rfl dL_law_2297 ?_
        exact e_law hC hX ⟨by omega, by omega⟩ dL_law_2298
    refine r_tabD hC 2299 (n := 32) dL_law_39 (Nat.le_of_ble_eq_true rfl) (fun i hi => match i, hi with
      | 0, _ => h39_0
      | 1, _ => h39_1
      | 2, _ => h39_2
      | 3, _ => h39_3
      | 4, _ => h39_4
      | 5, _ => h39_5
      | 6, _ => h39_6
      | 7, _ => h39_7
      | 8, _ => h39_8
      | 9, _ => h39_9
      | 10, _ => h39_10
      | 11, _ => h39_11
      | 12, _ => h39_12
      | 13, _ => h39_13
      | 14, _ => h39_14
      | 15, _ => h39_15
      | 16, _ => h39_16
      | 17, _ => h39_17
      | 18, _ => h39_18
      | 19, _ => h39_19
      | 20, _ => h39_20
      | 21, _ => h39_21
      | 22, _ => h39_22
      | 23, _ => h39_23
      | 24, _ => h39_24
      | 25, _ => h39_25
      | 26, _ => h39_26
      | 27, _ => h39_27
      | 28, _ => h39_28
      | 29, _ => h39_29
      | 30, _ => h39_30
      | 31, _ => h39_31
      | i + 32, hi => absurd hi (by omega)) (by decide) ?_
    exact t_L_law_2299 hC hX P23 hm23 k23 hk23 x23_1 x23_2 x23_3 x23_4 σ _ _ ⟨by omega, by omega⟩ (hm23 _ _ _ _ (by omega) (by omega) hP23)

set_option maxRecDepth 100000 in
set_option maxHeartbeats 4000000 in
theorem u_L_law_23 {C : Cxt} {G : Glb} {xs : Nat → Int32} {L9 b9 : Nat} (hC : CX C G RL cL_law 9 ret 14 686331 7037111 554) (hX : Scr C G b9 L9 xs) : ∀ (n : Nat) (x23_1 : (Option Nat)) (x23_2 : (Option Nat)) (x23_3 : (Option Nat)) (x23_4 : Int32) (σ : Mem) (kc ks : Nat), (∀ m, n = m + 1 → (kc + m * 977 + 977 ≤ 686331 ∧ ks + m * 9676 + 9676 ≤ 7037111)) → Wo C G 9 (QL C b9) (l_L_law_23 G.2.2.2.1 G.2.2.2.2 xs L9 b9  n x23_1 x23_2 x23_3 x23_4 σ) σ kc ks 23 [(0, va_rf (some b9)), (1, va_rf x23_1), (2, va_rf x23_2), (3, va_rf x23_3), (4, .int x23_4)] [] := by
  intro n
  induction n with
  | zero => intro x23_1 x23_2 x23_3 x23_4 σ kc ks h0; exact Wo.none
  | succ n ih =>
    intro x23_1 x23_2 x23_3 x23_4 σ kc ks h0
    exact t_L_law_23 hC hX (fun kc ks => (∀ m, n = m + 1 → (kc + m * 977 + 977 ≤ 686331 ∧ ks + m * 9676 + 9676 ≤ 7037111))) (fun a b a2 b2 h1 h2 h m e => ⟨by have := (h m e).1; omega, by have := (h m e).2; omega⟩) (l_L_law_23 G.2.2.2.1 G.2.2.2.2 xs L9 b9  n) ih x23_1 x23_2 x23_3 x23_4 σ kc ks ⟨by have := (h0 n rfl).1; omega, by have := (h0 n rfl).2; omega⟩ (fun m e => by
      subst e
      exact ⟨by have := (h0 _ rfl).1; omega, by have := (h0 _ rfl).2; omega⟩)

set_option maxRecDepth 100000 in
set_option maxHeartbeats 4000000 in
theorem t_L_law_0 {C : Cxt} {G : Glb} {xs : Nat → Int32} {L9 b9 : Nat} (hC : CX C G RL cL_law 9 ret 14 686331 7037111 554) (hX : Scr C G b9 L9 xs) (σ : Mem) (kc ks : Nat) (hN : kc + 502308 ≤ 686331 ∧ ks + 4974214 ≤ 7037111) : Wo C G 9 (QL C b9) (b_L_law_0 G.2.2.2.1 G.2.2.2.2 xs L9 b9   σ) σ kc ks 0 [(0, va_rf (some b9))] [] := by
  unfold b_L_law_0
  refine r_nO hC cls_6 q_64 q_65 q_39 ⟨by omega, by omega⟩ dL_law_0 (fun σ1 r2 => ?_)
  refine r_dup hC (cat_rf _) dL_law_3 ?_
  refine call_I hC (av := []) (st := [va_rf r2]) (r := r2) (ci := 6) (fun h9 => ct_X4_init hC.hl G h9 σ1) q_66 q_67 q_39 q_68 rfl yd_X4_init rfl ⟨Nat.le_of_ble_eq_true rfl, Nat.le_of_ble_eq_true rfl⟩ ⟨by omega, by omega⟩ rfl (by simp [cat_rf, cat_i, cat_j, cat_d, cat_a]) dL_law_4 (fun σ4 => ?_)
  refine r_astoren hC [(1, va_rf r2), (0, va_rf (some b9))] (r := r2) (i := 1) rfl (by decide) rfl dL_law_7 ?_
  refine r_nO hC cls_10 q_785 q_786 q_44 ⟨by omega, by omega⟩ dL_law_8 (fun σ6 r7 => ?_)
  refine r_dup hC (cat_rf _) dL_law_11 ?_
  refine call_I hC (av := []) (st := [va_rf r7]) (r := r7) (ci := 10) (fun h9 => ct_X8_init hC.hl G h9 σ6) q_787 q_788 q_44 q_789 rfl yd_X8_init rfl ⟨Nat.le_of_ble_eq_true rfl, Nat.le_of_ble_eq_true rfl⟩ ⟨by omega, by omega⟩ rfl (by simp [cat_rf, cat_i, cat_j, cat_d, cat_a]) dL_law_12 (fun σ9 => ?_)
  refine r_astoren hC [(2, va_rf r7), (1, va_rf r2), (0, va_rf (some b9))] (r := r7) (i := 2) rfl (by decide) (by simp [List.filter, cat_rf, cat_i, cat_j, cat_d, cat_a]) dL_law_15 ?_
  refine r_iconst hC (1) rfl dL_law_16 ?_
  refine r_nA hC (t := 1) (b := 1) (ty := .long) rfl rfl rfl (fun _ h => va_nm_long h) q_1465 (Nat.le_of_ble_eq_true rfl) ⟨by omega, by omega⟩ dL_law_17 (fun σ11 r12 => ?_)
  refine r_astoren hC [(3, va_rf r12), (2, va_rf r7), (1, va_rf r2), (0, va_rf (some b9))] (r := r12) (i := 3) rfl (by decide) (by simp [List.filter, cat_rf, cat_i, cat_j, cat_d, cat_a]) dL_law_19 ?_
  refine r_iconst hC (0) rfl dL_law_20 ?_
  refine r_istore hC [(4, .int 0), (3, va_rf r12), (2, va_rf r7), (1, va_rf r2), (0, va_rf (some b9))] (i := 4) (by decide) (by simp [List.filter, cat_rf, cat_i, cat_j, cat_d, cat_a]) dL_law_21 ?_
  refine Wo.sub [4, 3, 2, 1, 0] rfl ?_
  exact u_L_law_23 hC hX 514 r2 r7 r12 0 σ11 _ _ (fun m e => by cases e; exact ⟨by omega, by omega⟩)
