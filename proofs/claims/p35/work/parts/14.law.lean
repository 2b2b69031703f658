/-! THE CLAIM OUT OF ONE WALK OF THE LAW'S BODY. Your part is whole_start (and what it stands on); all else here is the same for every law, but numbers. -/
def R_law : String := "FlushGardenLaw"
def lw_P (b : Addr) (xs : List Int32) (args : Array Value) (s : State) : Prop := args = #[.ref b] ∧ s.IntsAt b xs ∧ xs.length ≤ 260 ∧ (Jvm.Cond.and given_1 narrow_1).before args s = true
/-- what a walk over the start with the record d0 says of its end, said of the start itself -/
theorem lw_closed {s t : State} {o : Outcome} {d0 : Drawn} {L : List Loc} {k n : Nat} (hd0 : s.drawn.sameBut d0 lw_cs) (hv : ∃ v, o = .returned v) (hW : (s.setDrawn d0).WarmedH t.vm) (hs : (s.setDrawn d0).sameButNew ({ t with vm := s.vm } : State) L k n) : State.butDraws s t lw_cs (fun t1 => Framed s o t1 L k n) := by
  have h2 : t.drawn = d0 := congrArg State.drawn hs.1
  refine ⟨⟨hv, hW, State.sameButNew.setDrawn hs s.drawn⟩, ?_, by decide⟩
  rw [h2]
  exact hd0
def lw_Q (_ : Array Value) (s : State) (o : Outcome) (t : State) : Prop := o = .returned (some (.int 1)) ∧ State.butDraws s t lw_cs (fun t1 => Framed s o t1 [] 616891 7250952)
def lw_Z (below : List Frame) (a : Array Value) (s : State) : State → Prop := fun t => ∃ o, t.status = .running ∧ Ended t below o ∧ lw_Q a s o t
/-- the law's own end, with 1 on the stack, nothing written that was there before, its room as the claim has it; d0: the record of draws at this point (at the entry s.drawn: begin with 'refine W.base ?_' and 'have hd0 := Drawn.sameBut.refl s.drawn lw_cs') -/
theorem lw_ret {p : Program} {l : Launch} {e : Env} {s : State} {m : MethodId} {below : List Frame} {meth : Method} {c : Code} {b : Nat} {d0 : Drawn} (hd0 : s.drawn.sameBut d0 lw_cs) (hx : p.tables.exec = Jvm.exec) (hb : c.code = code) (hr : meth.sig.returnType = ret) (hlocks : meth.locks = false) {pc : Nat} {H : Heap} {ls : Array Slot} (hdg : decode code pc = .ok (.ireturn, 1)) : W p l e room_1 (s.setDrawn d0) m #[Value.ref b] below meth c H [] 616891 7250952 (lw_Z below #[Value.ref b] s) (F0 m pc ls [.int 1]) := by
  intro T hT X
  obtain ⟨fs, hret, hrun, hended, hW, hframe⟩ := X.leave (v := some (.int 1)) (hlocks := hlocks) (fun h => by rw [hr] at h; cases h)
  have hmeth' : T.vm.method? m = some meth := X.method'
  refine ⟨T.setFrames fs, ?_, .returned (some (.int 1)), hrun, hended, rfl, lw_closed hd0 ⟨_, rfl⟩ hW hframe⟩
  jvm_step X.here [X.here.top, hx, hb, hdg, hmeth', hr, ret, narrow_b1]
  (try refine ⟨rfl, ?_⟩); (try refine ⟨rfl, ?_⟩)
  first | (intro acts; rw [hret _ acts rfl rfl rfl]) | rw [hret _ _ rfl rfl rfl]
  exact Steps.refl _
/-- what holds at the law's entry: the machine, the code, the tables' words (any of lw_tbl by 'hts w (by decide +kernel)'), the script of L ints xs at the cell b, what the Statement gives of the start (any of its parts by flat_of_before) -/
def lw_At (p : Program) (s : State) (m : MethodId) (meth : Method) (c : Code) (b L : Nat) (xs : Nat → Int32) : Prop :=
  p.tables.exec = Jvm.exec ∧ c.code = code ∧ meth.sig.returnType = ret ∧ c.maxLocals = 14 ∧ s.vm.findClass R_law = some m.cls ∧ (∀ w ∈ lw_tbl, w.before #[Value.ref b] s = true) ∧ va_X b L xs s s.heap ∧ b < s.heap.size ∧ meth.locks = false ∧ (Jvm.Cond.and given_1 narrow_1).before #[Value.ref b] s = true

abbrev Lwa (C : Cxt) (G : Glb) : Prop := cA C = #[.ref (gB G)] ∧ (cS C).heap.size ≤ G.2.2.1
def QL (C : Cxt) (b : Nat) : Pst (Int32 × Mem) := (fun r => r.1 = 1, fun _ => lw_Z (cB C) #[Value.ref b] (cS C))
theorem e_law {C : Cxt} {G : Glb} (hC : CX C G RL cL_law 14 ret 14 616891 7250952 524) (hX : Lwa C G) {v : Int32} {σ : Mem} {kc ks pc : Nat} {lv : List (Nat × Value)} (hk : kc ≤ 616891 ∧ ks ≤ 7250952) (hd : decode cL_law pc = .ok (.ireturn, 1)) : Wo C G 14 (QL C (gB G)) (some (v, σ)) σ kc ks pc lv [.int v] := by
  intro res hres hφ H locs hM hS ls hl
  cases hres
  have hv : v = 1 := hφ
  subst hv
  obtain ⟨hargs, hsz⟩ := hX
  generalize gB G = a0 at hargs ⊢
  obtain ⟨p, l, e, R, s, m, args, below, meth, c⟩ := C
  have hR : R = room_1 := hC.hR
  have hargs2 : args = #[Value.ref a0] := hargs
  subst hR
  subst hargs2
  have hd0 := Drawn.sameBut.refl s.drawn lw_cs
  refine va_forget (fun q hq => Nat.le_trans hsz (hS.2.2 q hq)) ?_
  refine W.widen (k := 616891) (n := 7250952) hk.1 hk.2 ?_
  exact lw_ret hd0 hC.hx hC.hb hC.hr hC.hlk hd
noncomputable def b_L_law_729 (xs : Nat → Int32) (L9 b9 : Nat) (σ : Mem) : Option ((Int32) × Mem) :=
some (0, σ)

noncomputable def b_L_law_746 (xs : Nat → Int32) (L9 b9 : Nat) (y746_0 : Int32) (σ : Mem) : Option ((Int32) × Mem) :=
some (y746_0, σ)

noncomputable def b_L_law_658 (xs : Nat → Int32) (L9 b9 : Nat) (k76 : (Option Nat) → Int32 → Int32 → Int32 → Int32 → Mem → Option ((Int32) × Mem)) (x658_1 : (Option Nat)) (x658_2 : Int32) (x658_3 : Int32) (x658_4 : Int32) (x658_5 : Int32) (σ : Mem) : Option ((Int32) × Mem) :=
nm (x658_3 - x658_4) fun v68 =>
cl1 (f_L_isSound x658_1 x658_2 v68 σ) fun v69 σ70 =>
if v69 = 0 then
some (0, σ70)
else
nm (x658_5 + 1) fun v71 =>
k76 x658_1 x658_2 x658_3 x658_4 v71 σ70

noncomputable def b_L_law_228 (xs : Nat → Int32) (L9 b9 : Nat) (k76 : (Option Nat) → Int32 → Int32 → Int32 → Int32 → Mem → Option ((Int32) × Mem)) (x228_1 : (Option Nat)) (x228_2 : Int32) (x228_3 : Int32) (x228_4 : Int32) (x228_5 : Int32) (x228_6 : Int32) (x228_8 : Int32) (σ : Mem) : Option ((Int32) × Mem) :=
nm (x228_6 >>> (4 &&& 31)) fun v60 =>
cl1 (f_L_below v60 7 σ) fun v61 σ62 =>
nm (x228_6 >>> (7 &&& 31)) fun v63 =>
cl1 (f_L_below v63 7 σ62) fun v64 σ65 =>
cl1 (f_L_isGrown x228_1 x228_8 v61 v64 σ65) fun v66 σ67 =>
if v66 = 0 then
some (0, σ67)
else
b_L_law_658 xs L9 b9 k76 x228_1 x228_2 x228_3 x228_4 x228_5 σ67

noncomputable def b_L_law_375 (xs : Nat → Int32) (L9 b9 : Nat) (σ : Mem) : Option ((Int32) × Mem) :=
some (0, σ)

noncomputable def b_L_law_258 (xs : Nat → Int32) (L9 b9 : Nat) (k76 : (Option Nat) → Int32 → Int32 → Int32 → Int32 → Mem → Option ((Int32) × Mem)) (x258_1 : (Option Nat)) (x258_2 : Int32) (x258_3 : Int32) (x258_4 : Int32) (x258_5 : Int32) (x258_6 : Int32) (x258_8 : Int32) (σ : Mem) : Option ((Int32) × Mem) :=
ob 4 σ x258_1 fun h74 => cl1 (f_X4_many h74 2 σ) fun v72 σ73 =>
if 12 < v72 then
b_L_law_658 xs L9 b9 k76 x258_1 x258_2 x258_3 x258_4 x258_5 σ73
else
ob 4 σ73 x258_1 fun h77 => cl1 (f_X4_ofSection h77 x258_8 8 σ73) fun v75 σ76 =>
if v75 = 0 then
b_L_law_658 xs L9 b9 k76 x258_1 x258_2 x258_3 x258_4 x258_5 σ76
else
nm (x258_6 >>> (4 &&& 31)) fun v78 =>
cl1 (f_L_below v78 9 σ76) fun v79 σ80 =>
nm (1 + v79) fun v81 =>
nm (x258_6 >>> (7 &&& 31)) fun v82 =>
cl1 (f_L_below v82 3 σ80) fun v83 σ84 =>
nm (1 + v83) fun v85 =>
ob 4 σ84 x258_1 fun h88 => cl1 (f_X4_pluck h88 x258_8 v85 v81 σ84) fun v86 σ87 =>
ob 4 σ87 x258_1 fun h91 => cl1 (f_X4_many h91 2 σ87) fun v89 σ90 =>
nm (v89 - 1) fun v92 =>
if v86 = v92 then
ob 4 σ90 x258_1 fun h95 => cl1 (f_X4_many h95 2 σ90) fun v93 σ94 =>
nm (v93 - 1) fun v96 =>
nm (14 + x258_8) fun v97 =>
ob 4 σ94 x258_1 fun h100 => cl1 (f_X4_ofLot h100 v96 v97 σ94) fun v98 σ99 =>
ob 4 σ99 x258_1 fun h103 => cl1 (f_X4_many h103 2 σ99) fun v101 σ102 =>
nm (v101 - 1) fun v104 =>
ob 4 σ102 x258_1 fun h107 => cl1 (f_X4_ofLot h107 v104 1 σ102) fun v105 σ106 =>
if v98 = v105 then
ob 4 σ106 x258_1 fun h110 => cl1 (f_X4_many h110 2 σ106) fun v108 σ109 =>
nm (v108 - 1) fun v111 =>
ob 4 σ109 x258_1 fun h114 => cl1 (f_X4_ofLot h114 v111 1 σ109) fun v112 σ113 =>
nm (40 * v81) fun v115 =>
if v112 ≤ v115 then
nm (2 * v81) fun v116 =>
nm (x258_4 + v116) fun v117 =>
b_L_law_658 xs L9 b9 k76 x258_1 x258_2 x258_3 v117 x258_5 σ113
else
b_L_law_375 xs L9 b9 σ113
else
b_L_law_375 xs L9 b9 σ106
else
b_L_law_375 xs L9 b9 σ90

noncomputable def b_L_law_419 (xs : Nat → Int32) (L9 b9 : Nat) (σ : Mem) : Option ((Int32) × Mem) :=
some (0, σ)

noncomputable def b_L_law_560 (xs : Nat → Int32) (L9 b9 : Nat) (σ : Mem) : Option ((Int32) × Mem) :=
some (0, σ)

noncomputable def b_L_law_515 (xs : Nat → Int32) (L9 b9 : Nat) (k76 : (Option Nat) → Int32 → Int32 → Int32 → Int32 → Mem → Option ((Int32) × Mem)) (x515_1 : (Option Nat)) (x515_2 : Int32) (x515_3 : Int32) (x515_4 : Int32) (x515_5 : Int32) (x515_7 : Int32) (x515_9 : Int32) (x515_12 : Int32) (σ : Mem) : Option ((Int32) × Mem) :=
nm (x515_7 >>> (5 &&& 31)) fun v145 =>
cl1 (f_L_below v145 50 σ) fun v146 σ147 =>
nm (1 + v146) fun v148 =>
ob 4 σ147 x515_1 fun h151 => cl1 (f_X4_bid h151 x515_12 x515_9 v148 σ147) fun v149 σ150 =>
if 4 < v149 then
b_L_law_560 xs L9 b9 σ150
else
ob 4 σ150 x515_1 fun h154 => cl1 (f_X4_bidOf h154 x515_12 x515_9 σ150) fun v152 σ153 =>
nm (x515_7 >>> (5 &&& 31)) fun v155 =>
cl1 (f_L_below v155 50 σ153) fun v156 σ157 =>
nm (1 + v156) fun v158 =>
if v152 = v158 then
b_L_law_658 xs L9 b9 k76 x515_1 x515_2 x515_3 x515_4 x515_5 σ157
else
b_L_law_560 xs L9 b9 σ157

noncomputable def b_L_law_170 (xs : Nat → Int32) (L9 b9 : Nat) (k76 : (Option Nat) → Int32 → Int32 → Int32 → Int32 → Mem → Option ((Int32) × Mem)) (x170_1 : (Option Nat)) (x170_2 : Int32) (x170_3 : Int32) (x170_4 : Int32) (x170_5 : Int32) (x170_6 : Int32) (x170_7 : Int32) (x170_8 : Int32) (x170_9 : Int32) (y170_0 : Int32) (σ : Mem) : Option ((Int32) × Mem) :=
cl1 (f_L_below x170_6 14 σ) fun v58 σ59 =>
if v58 = 0 then
b_L_law_228 xs L9 b9 k76 x170_1 x170_2 x170_3 x170_4 x170_5 x170_6 x170_8 σ59
else if v58 = 1 then
b_L_law_228 xs L9 b9 k76 x170_1 x170_2 x170_3 x170_4 x170_5 x170_6 x170_8 σ59
else if v58 = 2 then
b_L_law_258 xs L9 b9 k76 x170_1 x170_2 x170_3 x170_4 x170_5 x170_6 x170_8 σ59
else if v58 = 3 then
b_L_law_258 xs L9 b9 k76 x170_1 x170_2 x170_3 x170_4 x170_5 x170_6 x170_8 σ59
else if v58 = 4 then
b_L_law_258 xs L9 b9 k76 x170_1 x170_2 x170_3 x170_4 x170_5 x170_6 x170_8 σ59
else if v58 = 5 then
ob 4 σ59 x170_1 fun h120 => cl1 (f_X4_spray h120 x170_8 σ59) fun v118 σ119 =>
if v118 < 0 then
b_L_law_419 xs L9 b9 σ119
else
ob 4 σ119 x170_1 fun h123 => cl1 (f_X4_ofSection h123 x170_8 4 σ119) fun v121 σ122 =>
if v121 = 0 then
ob 4 σ122 x170_1 fun h126 => cl1 (f_X4_ofSection h126 x170_8 5 σ122) fun v124 σ125 =>
if v124 = 3 then
b_L_law_658 xs L9 b9 k76 x170_1 x170_2 x170_3 x170_4 x170_5 σ125
else
b_L_law_419 xs L9 b9 σ125
else
b_L_law_419 xs L9 b9 σ122
else if v58 = 6 then
nm (x170_6 >>> (4 &&& 31)) fun v127 =>
cl1 (f_L_below v127 4 σ59) fun v128 σ129 =>
nm (x170_6 >>> (6 &&& 31)) fun v130 =>
cl1 (f_L_below v130 200 σ129) fun v131 σ132 =>
nm (1 + v131) fun v133 =>
ob 4 σ132 x170_1 fun h136 => cl1 (f_X4_purse h136 v128 v133 σ132) fun v134 σ135 =>
nm (11 + v128) fun v137 =>
ob 4 σ135 x170_1 fun h140 => cl1 (f_X4_many h140 v137 σ135) fun v138 σ139 =>
if v134 = v138 then
nm (x170_3 + v133) fun v141 =>
if y170_0 = 2 then
ob 4 σ139 x170_1 fun h144 => cl1 (f_X4_ofLot h144 x170_9 13 σ139) fun v142 σ143 =>
if v142 = 0 then
nm (x170_7 >>> (6 &&& 31)) fun v159 =>
cl1 (f_L_below v159 30 σ143) fun v160 σ161 =>
nm (1 + v160) fun v162 =>
ob 4 σ161 x170_1 fun h165 => cl1 (f_X4_offer h165 x170_9 v162 σ161) fun v163 σ164 =>
if v163 < 1 then
b_L_law_560 xs L9 b9 σ164
else
b_L_law_515 xs L9 b9 k76 x170_1 x170_2 v141 x170_4 x170_5 x170_7 x170_9 v128 σ164
else
b_L_law_515 xs L9 b9 k76 x170_1 x170_2 v141 x170_4 x170_5 x170_7 x170_9 v128 σ143
else
b_L_law_658 xs L9 b9 k76 x170_1 x170_2 v141 x170_4 x170_5 σ139
else
some (0, σ139)
else if v58 = 7 then
if y170_0 = 2 then
ob 4 σ59 x170_1 fun h168 => cl1 (f_X4_ofLot h168 x170_9 13 σ59) fun v166 σ167 =>
if v166 ≤ 0 then
b_L_law_658 xs L9 b9 k76 x170_1 x170_2 x170_3 x170_4 x170_5 σ167
else
cl1 (f_L_below x170_7 2 σ167) fun v169 σ170 =>
if v169 = 0 then
cl1 (f_L_isSold x170_1 x170_9 σ170) fun v171 σ172 =>
if v171 = 0 then
some (0, σ172)
else
b_L_law_658 xs L9 b9 k76 x170_1 x170_2 x170_3 x170_4 x170_5 σ172
else
b_L_law_658 xs L9 b9 k76 x170_1 x170_2 x170_3 x170_4 x170_5 σ170
else
b_L_law_658 xs L9 b9 k76 x170_1 x170_2 x170_3 x170_4 x170_5 σ59
else if v58 = 8 then
if y170_0 = 2 then
nm (x170_6 >>> (4 &&& 31)) fun v173 =>
cl1 (f_L_below v173 3 σ59) fun v174 σ175 =>
cl1 (f_L_below x170_7 5 σ175) fun v176 σ177 =>
nm (v176 - 2) fun v178 =>
cl1 (f_L_isTold x170_1 v174 x170_9 v178 σ177) fun v179 σ180 =>
if v179 = 0 then
some (0, σ180)
else
b_L_law_658 xs L9 b9 k76 x170_1 x170_2 x170_3 x170_4 x170_5 σ180
else
b_L_law_658 xs L9 b9 k76 x170_1 x170_2 x170_3 x170_4 x170_5 σ59
else 
if x170_9 < 0 then
b_L_law_658 xs L9 b9 k76 x170_1 x170_2 x170_3 x170_4 x170_5 σ59
else
nm (x170_6 >>> (3 &&& 31)) fun v181 =>
nm (x170_7 >>> (5 &&& 31)) fun v182 =>
cl1 (f_L_isWorked x170_1 x170_9 y170_0 v181 v182 σ59) fun v183 σ184 =>
if v183 = 0 then
some (0, σ184)
else
b_L_law_658 xs L9 b9 k76 x170_1 x170_2 x170_3 x170_4 x170_5 σ184

noncomputable def b_L_law_152 (xs : Nat → Int32) (L9 b9 : Nat) (k76 : (Option Nat) → Int32 → Int32 → Int32 → Int32 → Mem → Option ((Int32) × Mem)) (x152_1 : (Option Nat)) (x152_2 : Int32) (x152_3 : Int32) (x152_4 : Int32) (x152_5 : Int32) (x152_6 : Int32) (x152_7 : Int32) (x152_8 : Int32) (y152_0 : Int32) (σ : Mem) : Option ((Int32) × Mem) :=
if 0 ≤ y152_0 then
ob 4 σ x152_1 fun h57 => cl1 (f_X4_ofLot h57 y152_0 0 σ) fun v55 σ56 =>
b_L_law_170 xs L9 b9 k76 x152_1 x152_2 x152_3 x152_4 x152_5 x152_6 x152_7 x152_8 y152_0 v55 σ56
else
b_L_law_170 xs L9 b9 k76 x152_1 x152_2 x152_3 x152_4 x152_5 x152_6 x152_7 x152_8 y152_0 (-1) σ

noncomputable def b_L_law_76 (xs : Nat → Int32) (L9 b9 : Nat) (k76 : (Option Nat) → Int32 → Int32 → Int32 → Int32 → Mem → Option ((Int32) × Mem)) (x76_1 : (Option Nat)) (x76_2 : Int32) (x76_3 : Int32) (x76_4 : Int32) (x76_5 : Int32) (σ : Mem) : Option ((Int32) × Mem) :=
if 48 ≤ x76_5 then
ob 4 σ x76_1 fun h13 => cl1 (f_X4_digest h13 σ) fun v11 σ12 =>
ob 4 σ12 x76_1 fun h16 => cl1 (f_X4_bestMix h16 0 0 0 σ12) fun v14 σ15 =>
if v14 < (-1) then
b_L_law_729 xs L9 b9 σ15
else
ob 4 σ15 x76_1 fun h19 => cl1 (f_X4_flushIn h19 0 6 6 σ15) fun v17 σ18 =>
if 30 < v17 then
b_L_law_729 xs L9 b9 σ18
else
ob 4 σ18 x76_1 fun h22 => cl1 (f_X4_meanNotes h22 σ18) fun v20 σ21 =>
nm (Op.cmpValue (FP.dcmp v20 0) .g) fun v23 =>
if v23 < 0 then
b_L_law_729 xs L9 b9 σ21
else
ob 4 σ21 x76_1 fun h26 => cl1 (f_X4_meanNotes h26 σ21) fun v24 σ25 =>
nm (Op.cmpValue (FP.dcmp v24 4628293042053316608) .l) fun v27 =>
if v27 ≤ 0 then
ob 4 σ25 x76_1 fun h30 => cl1 (f_X4_digest h30 σ25) fun v28 σ29 =>
nm (lg_cmp v28 v11) fun v31 =>
if v31 = 0 then
b_L_law_746 xs L9 b9 1 σ29
else
b_L_law_746 xs L9 b9 0 σ29
else
b_L_law_729 xs L9 b9 σ25
else
rm x76_5 16 fun v32 =>
cl1 (f_L_cell xs L9 b9 (some b9) v32 σ) fun v33 σ34 =>
nm (37 * x76_5) fun v35 =>
nm (v33 + v35) fun v36 =>
nm (3 * x76_5) fun v37 =>
nm (v37 + 1) fun v38 =>
rm v38 16 fun v39 =>
cl1 (f_L_cell xs L9 b9 (some b9) v39 σ34) fun v40 σ41 =>
nm (5 * x76_5) fun v42 =>
nm (v40 + v42) fun v43 =>
cl1 (f_L_below v43 x76_2 σ41) fun v44 σ45 =>
ob 4 σ45 x76_1 fun h48 => cl1 (f_X4_many h48 2 σ45) fun v46 σ47 =>
if v46 = 0 then
b_L_law_152 xs L9 b9 k76 x76_1 x76_2 x76_3 x76_4 x76_5 v36 v43 v44 (-1) σ47
else
nm (v43 >>> (3 &&& 31)) fun v49 =>
ob 4 σ47 x76_1 fun h52 => cl1 (f_X4_many h52 2 σ47) fun v50 σ51 =>
cl1 (f_L_below v49 v50 σ51) fun v53 σ54 =>
b_L_law_152 xs L9 b9 k76 x76_1 x76_2 x76_3 x76_4 x76_5 v36 v43 v44 v53 σ54

noncomputable def l_L_law_76 (xs : Nat → Int32) (L9 b9 : Nat) (n : Nat) : (Option Nat) → Int32 → Int32 → Int32 → Int32 → Mem → Option ((Int32) × Mem) := itr (fun _ _ _ _ _ _ => none) (fun k => b_L_law_76 xs L9 b9  k) n

noncomputable def b_L_law_22 (xs : Nat → Int32) (L9 b9 : Nat) (k22 : (Option Nat) → Int32 → Int32 → Mem → Option ((Int32) × Mem)) (x22_1 : (Option Nat)) (x22_2 : Int32) (x22_3 : Int32) (σ : Mem) : Option ((Int32) × Mem) :=
if x22_2 ≤ x22_3 then
l_L_law_76 xs L9 b9 50 x22_1 x22_2 0 0 0 σ
else
nm (x22_3 + 1) fun v185 =>
cl1 (f_L_cell xs L9 b9 (some b9) v185 σ) fun v186 σ187 =>
cl1 (f_L_below v186 9 σ187) fun v188 σ189 =>
nm (1 + v188) fun v190 =>
nm (x22_3 + 2) fun v191 =>
cl1 (f_L_cell xs L9 b9 (some b9) v191 σ189) fun v192 σ193 =>
cl1 (f_L_below v192 3 σ193) fun v194 σ195 =>
ob 4 σ195 x22_1 fun h198 => cl1 (f_X4_section h198 v190 v194 σ195) fun v196 σ197 =>
if v196 = x22_3 then
nm (x22_3 + 1) fun v199 =>
k22 x22_1 x22_2 v199 σ197
else
some (0, σ197)

noncomputable def l_L_law_22 (xs : Nat → Int32) (L9 b9 : Nat) (n : Nat) : (Option Nat) → Int32 → Int32 → Mem → Option ((Int32) × Mem) := itr (fun _ _ _ _ => none) (fun k => b_L_law_22 xs L9 b9  k) n

noncomputable def b_L_law_0 (xs : Nat → Int32) (L9 b9 : Nat) (σ : Mem) : Option ((Int32) × Mem) :=
nO 4 σ fun σ1 r2 =>
ob 4 σ1 r2 fun h5 => cl1 (f_X4_init h5 σ1) fun _ σ4 =>
cl1 (f_L_cell xs L9 b9 (some b9) 0 σ4) fun v6 σ7 =>
cl1 (f_L_below v6 4 σ7) fun v8 σ9 =>
nm (1 + v8) fun v10 =>
l_L_law_22 xs L9 b9 6 r2 v10 0 σ9

noncomputable def f_L_law (xs : Nat → Int32) (L9 b9 : Nat) (σ : Mem) : Option ((Int32) × Mem) := b_L_law_0 xs L9 b9  σ
set_option maxRecDepth 100000 in
set_option maxHeartbeats 4000000 in
theorem t_L_law_729 {C : Cxt} {G : Glb} (hC : CX C G RL cL_law 14 ret 14 616891 7250952 524) (hX : Lwa C G) (σ : Mem) (kc ks : Nat) (hN : kc + 0 ≤ 616891 ∧ ks + 0 ≤ 7250952) : Wo C G 14 (QL C (gB G)) (b_L_law_729 (gX G) (gL G) (gB G)   σ) σ kc ks 729 [] [] := by
  unfold b_L_law_729
  refine r_iconst hC (0) rfl dL_law_729 ?_
  exact e_law hC hX ⟨by omega, by omega⟩ dL_law_730

set_option maxRecDepth 100000 in
set_option maxHeartbeats 4000000 in
theorem t_L_law_746 {C : Cxt} {G : Glb} (hC : CX C G RL cL_law 14 ret 14 616891 7250952 524) (hX : Lwa C G) (y746_0 : Int32) (σ : Mem) (kc ks : Nat) (hN : kc + 0 ≤ 616891 ∧ ks + 0 ≤ 7250952) : Wo C G 14 (QL C (gB G)) (b_L_law_746 (gX G) (gL G) (gB G)  y746_0 σ) σ kc ks 746 [] [.int y746_0] := by
  unfold b_L_law_746
  exact e_law hC hX ⟨by omega, by omega⟩ dL_law_746

set_option maxRecDepth 100000 in
set_option maxHeartbeats 4000000 in
theorem t_L_law_658 {C : Cxt} {G : Glb} (hC : CX C G RL cL_law 14 ret 14 616891 7250952 524) (hX : Lwa C G) (P76 : Nat → Nat → Prop) (hm76 : ∀ a b a2 b2 : Nat, a ≤ a2 → b ≤ b2 → P76 a2 b2 → P76 a b) (k76 : (Option Nat) → Int32 → Int32 → Int32 → Int32 → Mem → Option ((Int32) × Mem)) (hk76 : ∀ (x76_1 : (Option Nat)) (x76_2 : Int32) (x76_3 : Int32) (x76_4 : Int32) (x76_5 : Int32) (σ : Mem) (kc ks : Nat), P76 kc ks → Wo C G 14 (QL C (gB G)) (k76 x76_1 x76_2 x76_3 x76_4 x76_5 σ) σ kc ks 76 [(0, va_rf (some (gB G))), (1, va_rf x76_1), (2, .int x76_2), (3, .int x76_3), (4, .int x76_4), (5, .int x76_5)] []) (x658_1 : (Option Nat)) (x658_2 : Int32) (x658_3 : Int32) (x658_4 : Int32) (x658_5 : Int32) (σ : Mem) (kc ks : Nat) (hN : kc + 1 ≤ 616891 ∧ ks + 4 ≤ 7250952) (hP76 : P76 (kc + 1) (ks + 4)) : Wo C G 14 (QL C (gB G)) (b_L_law_658 (gX G) (gL G) (gB G) k76 x658_1 x658_2 x658_3 x658_4 x658_5 σ) σ kc ks 658 [(0, va_rf (some (gB G))), (1, va_rf x658_1), (2, .int x658_2), (3, .int x658_3), (4, .int x658_4), (5, .int x658_5)] [] := by
  unfold b_L_law_658
  refine r_aloadn hC 1 (r := x658_1) rfl rfl dL_law_658 ?_
  refine r_iloadn hC 2 rfl rfl dL_law_659 ?_
  refine r_iloadn hC 3 rfl rfl dL_law_660 ?_
  refine r_iload hC 4 rfl dL_law_661 ?_
  refine r_isub hC dL_law_663 (fun v68 => ?_)
  refine call_S hC (av := [va_rf x658_1, .int x658_2, .int v68]) (st := []) (ct_L_isSound hC.hl G x658_1 x658_2 v68 σ) q_664 q_665 q_12 q_666 yd_L_isSound rfl ⟨Nat.le_of_ble_eq_true rfl, Nat.le_of_ble_eq_true rfl⟩ ⟨by omega, by omega⟩ rfl (Nat.le_of_ble_eq_true rfl) dL_law_664 (fun v69 σ70 => ?_)
  show Wo _ _ _ _ _ _ _ _ _ _ [.int v69]
  refine r_if_ne hC 672 dL_law_667 (by decide) ?_ ?_
  · refine r_iinc hC 5 (fun w => [(5, .int w), (0, va_rf (some (gB G))), (1, va_rf x658_1), (2, .int x658_2), (3, .int x658_3), (4, .int x658_4)]) 1 rfl (by decide) rfl (fun w => rfl) dL_law_672 (fun v71 => ?_)
    refine r_goto hC 76 dL_law_675 (by decide) ?_
    refine Wo.sub [1, 2, 3, 4, 5, 0] rfl ?_
    exact hk76 x658_1 x658_2 x658_3 x658_4 v71 σ70 _ _ (hm76 _ _ _ _ (by omega) (by omega) hP76)
  · refine r_iconst hC (0) rfl dL_law_670 ?_
    exact e_law hC hX ⟨by omega, by omega⟩ dL_law_671

set_option maxRecDepth 100000 in
set_option maxHeartbeats 4000000 in
theorem t_L_law_228 {C : Cxt} {G : Glb} (hC : CX C G RL cL_law 14 ret 14 616891 7250952 524) (hX : Lwa C G) (P76 : Nat → Nat → Prop) (hm76 : ∀ a b a2 b2 : Nat, a ≤ a2 → b ≤ b2 → P76 a2 b2 → P76 a b) (k76 : (Option Nat) → Int32 → Int32 → Int32 → Int32 → Mem → Option ((Int32) × Mem)) (hk76 : ∀ (x76_1 : (Option Nat)) (x76_2 : Int32) (x76_3 : Int32) (x76_4 : Int32) (x76_5 : Int32) (σ : Mem) (kc ks : Nat), P76 kc ks → Wo C G 14 (QL C (gB G)) (k76 x76_1 x76_2 x76_3 x76_4 x76_5 σ) σ kc ks 76 [(0, va_rf (some (gB G))), (1, va_rf x76_1), (2, .int x76_2), (3, .int x76_3), (4, .int x76_4), (5, .int x76_5)] []) (x228_1 : (Option Nat)) (x228_2 : Int32) (x228_3 : Int32) (x228_4 : Int32) (x228_5 : Int32) (x228_6 : Int32) (x228_8 : Int32) (σ : Mem) (kc ks : Nat) (hN : kc + 1 ≤ 616891 ∧ ks + 4 ≤ 7250952) (hP76 : P76 (kc + 1) (ks + 4)) : Wo C G 14 (QL C (gB G)) (b_L_law_228 (gX G) (gL G) (gB G) k76 x228_1 x228_2 x228_3 x228_4 x228_5 x228_6 x228_8 σ) σ kc ks 228 [(0, va_rf (some (gB G))), (1, va_rf x228_1), (2, .int x228_2), (3, .int x228_3), (4, .int x228_4), (5, .int x228_5), (6, .int x228_6), (8, .int x228_8)] [] := by
  unfold b_L_law_228
  refine r_aloadn hC 1 (r := x228_1) rfl rfl dL_law_228 ?_
  refine r_iload hC 7 rfl dL_law_229 ?_
  refine r_iload hC 6 rfl dL_law_231 ?_
  refine r_iconst hC (4) rfl dL_law_233 ?_
  refine r_ishr hC dL_law_234 (fun v60 => ?_)
  refine r_bipush hC (7) (by decide) dL_law_235 ?_
  refine call_S hC (av := [.int v60, .int 7]) (st := [.int x228_8, va_rf x228_1]) (ct_L_below hC.hl G v60 7 σ) q_549 q_550 q_12 q_551 yd_L_below rfl ⟨Nat.le_of_ble_eq_true rfl, Nat.le_of_ble_eq_true rfl⟩ ⟨by omega, by omega⟩ rfl (by simp [cat_rf, cat_i, cat_j, cat_d, cat_a]) dL_law_237 (fun v61 σ62 => ?_)
  show Wo _ _ _ _ _ _ _ _ _ _ [.int v61, .int x228_8, va_rf x228_1]
  refine r_iload hC 6 rfl dL_law_240 ?_
  refine r_bipush hC (7) (by decide) dL_law_242 ?_
  refine r_ishr hC dL_law_244 (fun v63 => ?_)
  refine r_bipush hC (7) (by decide) dL_law_245 ?_
  refine call_S hC (av := [.int v63, .int 7]) (st := [.int v61, .int x228_8, va_rf x228_1]) (ct_L_below hC.hl G v63 7 σ62) q_549 q_550 q_12 q_551 yd_L_below rfl ⟨Nat.le_of_ble_eq_true rfl, Nat.le_of_ble_eq_true rfl⟩ ⟨by omega, by omega⟩ rfl (by simp [cat_rf, cat_i, cat_j, cat_d, cat_a]) dL_law_247 (fun v64 σ65 => ?_)
  show Wo _ _ _ _ _ _ _ _ _ _ [.int v64, .int v61, .int x228_8, va_rf x228_1]
  refine call_S hC (av := [va_rf x228_1, .int x228_8, .int v61, .int v64]) (st := []) (ct_L_isGrown hC.hl G x228_1 x228_8 v61 v64 σ65) q_557 q_558 q_12 q_559 yd_L_isGrown rfl ⟨Nat.le_of_ble_eq_true rfl, Nat.le_of_ble_eq_true rfl⟩ ⟨by omega, by omega⟩ rfl (Nat.le_of_ble_eq_true rfl) dL_law_250 (fun v66 σ67 => ?_)
  show Wo _ _ _ _ _ _ _ _ _ _ [.int v66]
  refine r_if_ne hC 658 dL_law_253 (by decide) ?_ ?_
  · refine Wo.sub [0, 1, 2, 3, 4, 5] rfl ?_
    exact t_L_law_658 hC hX P76 hm76 k76 hk76 x228_1 x228_2 x228_3 x228_4 x228_5 σ67 _ _ ⟨by omega, by omega⟩ (hm76 _ _ _ _ (by omega) (by omega) hP76)
  · refine r_iconst hC (0) rfl dL_law_256 ?_
    exact e_law hC hX ⟨by omega, by omega⟩ dL_law_257

set_option maxRecDepth 100000 in
set_option maxHeartbeats 4000000 in
theorem t_L_law_375 {C : Cxt} {G : Glb} (hC : CX C G RL cL_law 14 ret 14 616891 7250952 524) (hX : Lwa C G) (σ : Mem) (kc ks : Nat) (hN : kc + 0 ≤ 616891 ∧ ks + 0 ≤ 7250952) : Wo C G 14 (QL C (gB G)) (b_L_law_375 (gX G) (gL G) (gB G)   σ) σ kc ks 375 [] [] := by
  unfold b_L_law_375
  refine r_iconst hC (0) rfl dL_law_375 ?_
  exact e_law hC hX ⟨by omega, by omega⟩ dL_law_376

set_option maxRecDepth 100000 in
set_option maxHeartbeats 4000000 in
theorem t_L_law_258 {C : Cxt} {G : Glb} (hC : CX C G RL cL_law 14 ret 14 616891 7250952 524) (hX : Lwa C G) (P76 : Nat → Nat → Prop) (hm76 : ∀ a b a2 b2 : Nat, a ≤ a2 → b ≤ b2 → P76 a2 b2 → P76 a b) (k76 : (Option Nat) → Int32 → Int32 → Int32 → Int32 → Mem → Option ((Int32) × Mem)) (hk76 : ∀ (x76_1 : (Option Nat)) (x76_2 : Int32) (x76_3 : Int32) (x76_4 : Int32) (x76_5 : Int32) (σ : Mem) (kc ks : Nat), P76 kc ks → Wo C G 14 (QL C (gB G)) (k76 x76_1 x76_2 x76_3 x76_4 x76_5 σ) σ kc ks 76 [(0, va_rf (some (gB G))), (1, va_rf x76_1), (2, .int x76_2), (3, .int x76_3), (4, .int x76_4), (5, .int x76_5)] []) (x258_1 : (Option Nat)) (x258_2 : Int32) (x258_3 : Int32) (x258_4 : Int32) (x258_5 : Int32) (x258_6 : Int32) (x258_8 : Int32) (σ : Mem) (kc ks : Nat) (hN : kc + 1 ≤ 616891 ∧ ks + 4 ≤ 7250952) (hP76 : P76 (kc + 1) (ks + 4)) : Wo C G 14 (QL C (gB G)) (b_L_law_258 (gX G) (gL G) (gB G) k76 x258_1 x258_2 x258_3 x258_4 x258_5 x258_6 x258_8 σ) σ kc ks 258 [(0, va_rf (some (gB G))), (1, va_rf x258_1), (2, .int x258_2), (3, .int x258_3), (4, .int x258_4), (5, .int x258_5), (6, .int x258_6), (8, .int x258_8)] [] := by
  unfold b_L_law_258
  refine r_aloadn hC 1 (r := x258_1) rfl rfl dL_law_258 ?_
  refine r_iconst hC (2) rfl dL_law_259 ?_
  refine call_V hC (av := [.int 2]) (st := []) (r := x258_1) (ci := 4) rfl rfl (fun h9 => ct_X4_many hC.hl G h9 2 σ) q_394 q_395 q_396 q_13 q_397 yd_X4_many rfl ⟨Nat.le_of_ble_eq_true rfl, Nat.le_of_ble_eq_true rfl⟩ ⟨by omega, by omega⟩ rfl (Nat.le_of_ble_eq_true rfl) dL_law_260 (fun v72 σ73 => ?_)
  show Wo _ _ _ _ _ _ _ _ _ _ [.int v72]
  refine r_bipush hC (12) (by decide) dL_law_263 ?_
  refine r_icmp_gt hC 658 dL_law_265 (by decide) ?_ ?_
  · refine Wo.sub [0, 1, 2, 3, 4, 5] rfl ?_
    exact t_L_law_658 hC hX P76 hm76 k76 hk76 x258_1 x258_2 x258_3 x258_4 x258_5 σ73 _ _ ⟨by omega, by omega⟩ (hm76 _ _ _ _ (by omega) (by omega) hP76)
  · refine r_aloadn hC 1 (r := x258_1) rfl rfl dL_law_268 ?_
    refine r_iload hC 7 rfl dL_law_269 ?_
    refine r_bipush hC (8) (by decide) dL_law_271 ?_
    refine call_V hC (av := [.int x258_8, .int 8]) (st := []) (r := x258_1) (ci := 4) rfl rfl (fun h9 => ct_X4_ofSection hC.hl G h9 x258_8 8 σ73) q_381 q_382 q_383 q_13 q_384 yd_X4_ofSection rfl ⟨Nat.le_of_ble_eq_true rfl, Nat.le_of_ble_eq_true rfl⟩ ⟨by omega, by omega⟩ rfl (Nat.le_of_ble_eq_true rfl) dL_law_273 (fun v75 σ76 => ?_)
    show Wo _ _ _ _ _ _ _ _ _ _ [.int v75]
    refine r_if_ne hC 282 dL_law_276 (by decide) ?_ ?_
    · refine r_iconst hC (1) rfl dL_law_282 ?_
      refine r_iload hC 6 rfl dL_law_283 ?_
      refine r_iconst hC (4) rfl dL_law_285 ?_
      refine r_ishr hC dL_law_286 (fun v78 => ?_)
      refine r_bipush hC (9) (by decide) dL_law_287 ?_
      refine call_S hC (av := [.int v78, .int 9]) (st := [.int 1]) (ct_L_below hC.hl G v78 9 σ76) q_549 q_550 q_12 q_551 yd_L_below rfl ⟨Nat.le_of_ble_eq_true rfl, Nat.le_of_ble_eq_true rfl⟩ ⟨by omega, by omega⟩ rfl (by simp [cat_rf, cat_i, cat_j, cat_d, cat_a]) dL_law_289 (fun v79 σ80 => ?_)
      show Wo _ _ _ _ _ _ _ _ _ _ [.int v79, .int 1]
      refine r_iadd hC dL_law_292 (fun v81 => ?_)
      refine r_istore hC [(11, .int v81), (0, va_rf (some (gB G))), (1, va_rf x258_1), (2, .int x258_2), (3, .int x258_3), (4, .int x258_4), (5, .int x258_5), (6, .int x258_6), (8, .int x258_8)] (i := 11) (by decide) rfl dL_law_293 ?_
      refine r_aloadn hC 2 (r := x258_1) rfl rfl dL_law_295 ?_
      refine r_iload hC 8 rfl dL_law_296 ?_
      refine r_iconst hC (1) rfl dL_law_298 ?_
      refine r_iload hC 7 rfl dL_law_299 ?_
      refine r_bipush hC (7) (by decide) dL_law_301 ?_
      refine r_ishr hC dL_law_303 (fun v82 => ?_)
      refine r_iconst hC (3) rfl dL_law_304 ?_
      refine call_S hC (av := [.int v82, .int 3]) (st := [.int 1, .int x258_8, va_rf x258_1]) (ct_L_below hC.hl G v82 3 σ80) q_549 q_550 q_12 q_551 yd_L_below rfl ⟨Nat.le_of_ble_eq_true rfl, Nat.le_of_ble_eq_true rfl⟩ ⟨by omega, by omega⟩ rfl (by simp [cat_rf, cat_i, cat_j, cat_d, cat_a]) dL_law_305 (fun v83 σ84 => ?_)
      show Wo _ _ _ _ _ _ _ _ _ _ [.int v83, .int 1, .int x258_8, va_rf x258_1]
      refine r_iadd hC dL_law_308 (fun v85 => ?_)
      refine r_iload hC 0 rfl dL_law_309 ?_
      refine call_V hC (av := [.int x258_8, .int v85, .int v81]) (st := []) (r := x258_1) (ci := 4) rfl rfl (fun h9 => ct_X4_pluck hC.hl G h9 x258_8 v85 v81 σ84) q_338 q_339 q_340 q_13 q_341 yd_X4_pluck rfl ⟨Nat.le_of_ble_eq_true rfl, Nat.le_of_ble_eq_true rfl⟩ ⟨by omega, by omega⟩ rfl (Nat.le_of_ble_eq_true rfl) dL_law_311 (fun v86 σ87 => ?_)
      show Wo _ _ _ _ _ _ _ _ _ _ [.int v86]
      refine r_aloadn hC 2 (r := x258_1) rfl rfl dL_law_314 ?_
      refine r_iconst hC (2) rfl dL_law_315 ?_
      refine call_V hC (av := [.int 2]) (st := [.int v86]) (r := x258_1) (ci := 4) rfl rfl (fun h9 => ct_X4_many hC.hl G h9 2 σ87) q_394 q_395 q_396 q_13 q_397 yd_X4_many rfl ⟨Nat.le_of_ble_eq_true rfl, Nat.le_of_ble_eq_true rfl⟩ ⟨by omega, by omega⟩ rfl (by simp [cat_rf, cat_i, cat_j, cat_d, cat_a]) dL_law_316 (fun v89 σ90 => ?_)
      show Wo _ _ _ _ _ _ _ _ _ _ [.int v89, .int v86]
      refine r_iconst hC (1) rfl dL_law_319 ?_
      refine r_isub hC dL_law_320 (fun v92 => ?_)
      refine r_icmp_ne hC 375 dL_law_321 (by decide) ?_ ?_
      · refine Wo.sub [] rfl ?_
        exact t_L_law_375 hC hX  σ90 _ _ ⟨by omega, by omega⟩
      · refine r_aloadn hC 2 (r := x258_1) rfl rfl dL_law_324 ?_
        refine r_aloadn hC 2 (r := x258_1) rfl rfl dL_law_325 ?_
        refine r_iconst hC (2) rfl dL_law_326 ?_
        refine call_V hC (av := [.int 2]) (st := [va_rf x258_1]) (r := x258_1) (ci := 4) rfl rfl (fun h9 => ct_X4_many hC.hl G h9 2 σ90) q_394 q_395 q_396 q_13 q_397 yd_X4_many rfl ⟨Nat.le_of_ble_eq_true rfl, Nat.le_of_ble_eq_true rfl⟩ ⟨by omega, by omega⟩ rfl (by simp [cat_rf, cat_i, cat_j, cat_d, cat_a]) dL_law_327 (fun v93 σ94 => ?_)
        show Wo _ _ _ _ _ _ _ _ _ _ [.int v93, va_rf x258_1]
        refine r_iconst hC (1) rfl dL_law_330 ?_
        refine r_isub hC dL_law_331 (fun v96 => ?_)
        refine r_bipush hC (14) (by decide) dL_law_332 ?_
        refine r_iload hC 8 rfl dL_law_334 ?_
        refine r_iadd hC dL_law_336 (fun v97 => ?_)
        refine call_V hC (av := [.int v96, .int v97]) (st := []) (r := x258_1) (ci := 4) rfl rfl (fun h9 => ct_X4_ofLot hC.hl G h9 v96 v97 σ94) q_385 q_386 q_387 q_13 q_388 yd_X4_ofLot rfl ⟨Nat.le_of_ble_eq_true rfl, Nat.le_of_ble_eq_true rfl⟩ ⟨by omega, by omega⟩ rfl (Nat.le_of_ble_eq_true rfl) dL_law_337 (fun v98 σ99 => ?_)
        show Wo _ _ _ _ _ _ _ _ _ _ [.int v98]
        refine r_aloadn hC 2 (r := x258_1) rfl rfl dL_law_340 ?_
        refine r_aloadn hC 2 (r := x258_1) rfl rfl dL_law_341 ?_
        refine r_iconst hC (2) rfl dL_law_342 ?_
        refine call_V hC (av := [.int 2]) (st := [va_rf x258_1, .int v98]) (r := x258_1) (ci := 4) rfl rfl (fun h9 => ct_X4_many hC.hl G h9 2 σ99) q_394 q_395 q_396 q_13 q_397 yd_X4_many rfl ⟨Nat.le_of_ble_eq_true rfl, Nat.le_of_ble_eq_true rfl⟩ ⟨by omega, by omega⟩ rfl (by simp [cat_rf, cat_i, cat_j, cat_d, cat_a]) dL_law_343 (fun v101 σ102 => ?_)
        show Wo _ _ _ _ _ _ _ _ _ _ [.int v101, va_rf x258_1, .int v98]
        refine r_iconst hC (1) rfl dL_law_346 ?_
        refine r_isub hC dL_law_347 (fun v104 => ?_)
        refine r_iconst hC (1) rfl dL_law_348 ?_
        refine call_V hC (av := [.int v104, .int 1]) (st := [.int v98]) (r := x258_1) (ci := 4) rfl rfl (fun h9 => ct_X4_ofLot hC.hl G h9 v104 1 σ102) q_385 q_386 q_387 q_13 q_388 yd_X4_ofLot rfl ⟨Nat.le_of_ble_eq_true rfl, Nat.le_of_ble_eq_true rfl⟩ ⟨by omega, by omega⟩ rfl (by simp [cat_rf, cat_i, cat_j, cat_d, cat_a]) dL_law_349 (fun v105 σ106 => ?_)
        show Wo _ _ _ _ _ _ _ _ _ _ [.int v105, .int v98]
        refine r_icmp_ne hC 375 dL_law_352 (by decide) ?_ ?_
        · refine Wo.sub [] rfl ?_
          exact t_L_law_375 hC hX  σ106 _ _ ⟨by omega, by omega⟩
        · refine r_aloadn hC 2 (r := x258_1) rfl rfl dL_law_355 ?_
          refine r_aloadn hC 2 (r := x258_1) rfl rfl dL_law_356 ?_
          refine r_iconst hC (2) rfl dL_law_357 ?_
          refine call_V hC (av := [.int 2]) (st := [va_rf x258_1]) (r := x258_1) (ci := 4) rfl rfl (fun h9 => ct_X4_many hC.hl G h9 2 σ106) q_394 q_395 q_396 q_13 q_397 yd_X4_many rfl ⟨Nat.le_of_ble_eq_true rfl, Nat.le_of_ble_eq_true rfl⟩ ⟨by omega, by omega⟩ rfl (by simp [cat_rf, cat_i, cat_j, cat_d, cat_a]) dL_law_358 (fun v108 σ109 => ?_)
          show Wo _ _ _ _ _ _ _ _ _ _ [.int v108, va_rf x258_1]
          refine r_iconst hC (1) rfl dL_law_361 ?_
          refine r_isub hC dL_law_362 (fun v111 => ?_)
          refine r_iconst hC (1) rfl dL_law_363 ?_
          refine call_V hC (av := [.int v111, .int 1]) (st := []) (r := x258_1) (ci := 4) rfl rfl (fun h9 => ct_X4_ofLot hC.hl G h9 v111 1 σ109) q_385 q_386 q_387 q_13 q_388 yd_X4_ofLot rfl ⟨Nat.le_of_ble_eq_true rfl, Nat.le_of_ble_eq_true rfl⟩ ⟨by omega, by omega⟩ rfl (Nat.le_of_ble_eq_true rfl) dL_law_364 (fun v112 σ113 => ?_)
          show Wo _ _ _ _ _ _ _ _ _ _ [.int v112]
          refine r_bipush hC (40) (by decide) dL_law_367 ?_
          refine r_iload hC 0 rfl dL_law_369 ?_
          refine r_imul hC dL_law_371 (fun v115 => ?_)
          refine r_icmp_le hC 377 dL_law_372 (by decide) ?_ ?_
          · refine r_iload hC 5 rfl dL_law_377 ?_
            refine r_iconst hC (2) rfl dL_law_379 ?_
            refine r_iload hC 0 rfl dL_law_380 ?_
            refine r_imul hC dL_law_382 (fun v116 => ?_)
            refine r_iadd hC dL_law_383 (fun v117 => ?_)
            refine r_istore hC [(4, .int v117), (11, .int v81), (0, va_rf (some (gB G))), (1, va_rf x258_1), (2, .int x258_2), (3, .int x258_3), (5, .int x258_5), (6, .int x258_6), (8, .int x258_8)] (i := 4) (by decide) rfl dL_law_384 ?_
            refine r_goto hC 658 dL_law_386 (by decide) ?_
            refine Wo.sub [2, 3, 4, 5, 0, 6] rfl ?_
            exact t_L_law_658 hC hX P76 hm76 k76 hk76 x258_1 x258_2 x258_3 v117 x258_5 σ113 _ _ ⟨by omega, by omega⟩ (hm76 _ _ _ _ (by omega) (by omega) hP76)
          · refine Wo.sub [] rfl ?_
            exact t_L_law_375 hC hX  σ113 _ _ ⟨by omega, by omega⟩
    · refine r_goto hC 658 dL_law_279 (by decide) ?_
      refine Wo.sub [0, 1, 2, 3, 4, 5] rfl ?_
      exact t_L_law_658 hC hX P76 hm76 k76 hk76 x258_1 x258_2 x258_3 x258_4 x258_5 σ76 _ _ ⟨by omega, by omega⟩ (hm76 _ _ _ _ (by omega) (by omega) hP76)

set_option maxRecDepth 100000 in
set_option maxHeartbeats 4000000 in
theorem t_L_law_419 {C : Cxt} {G : Glb} (hC : CX C G RL cL_law 14 ret 14 616891 7250952 524) (hX : Lwa C G) (σ : Mem) (kc ks : Nat) (hN : kc + 0 ≤ 616891 ∧ ks + 0 ≤ 7250952) : Wo C G 14 (QL C (gB G)) (b_L_law_419 (gX G) (gL G) (gB G)   σ) σ kc ks 419 [] [] := by
  unfold b_L_law_419
  refine r_iconst hC (0) rfl dL_law_419 ?_
  exact e_law hC hX ⟨by omega, by omega⟩ dL_law_420

set_option maxRecDepth 100000 in
set_option maxHeartbeats 4000000 in
theorem t_L_law_560 {C : Cxt} {G : Glb} (hC : CX C G RL cL_law 14 ret 14 616891 7250952 524) (hX : Lwa C G) (σ : Mem) (kc ks : Nat) (hN : kc + 0 ≤ 616891 ∧ ks + 0 ≤ 7250952) : Wo C G 14 (QL C (gB G)) (b_L_law_560 (gX G) (gL G) (gB G)   σ) σ kc ks 560 [] [] := by
  unfold b_L_law_560
  refine r_iconst hC (0) rfl dL_law_560 ?_
  exact e_law hC hX ⟨by omega, by omega⟩ dL_law_561

set_option maxRecDepth 100000 in
set_option maxHeartbeats 4000000 in
theorem t_L_law_515 {C : Cxt} {G : Glb} (hC : CX C G RL cL_law 14 ret 14 616891 7250952 524) (hX : Lwa C G) (P76 : Nat → Nat → Prop) (hm76 : ∀ a b a2 b2 : Nat, a ≤ a2 → b ≤ b2 → P76 a2 b2 → P76 a b) (k76 : (Option Nat) → Int32 → Int32 → Int32 → Int32 → Mem → Option ((Int32) × Mem)) (hk76 : ∀ (x76_1 : (Option Nat)) (x76_2 : Int32) (x76_3 : Int32) (x76_4 : Int32) (x76_5 : Int32) (σ : Mem) (kc ks : Nat), P76 kc ks → Wo C G 14 (QL C (gB G)) (k76 x76_1 x76_2 x76_3 x76_4 x76_5 σ) σ kc ks 76 [(0, va_rf (some (gB G))), (1, va_rf x76_1), (2, .int x76_2), (3, .int x76_3), (4, .int x76_4), (5, .int x76_5)] []) (x515_1 : (Option Nat)) (x515_2 : Int32) (x515_3 : Int32) (x515_4 : Int32) (x515_5 : Int32) (x515_7 : Int32) (x515_9 : Int32) (x515_12 : Int32) (σ : Mem) (kc ks : Nat) (hN : kc + 1 ≤ 616891 ∧ ks + 4 ≤ 7250952) (hP76 : P76 (kc + 1) (ks + 4)) : Wo C G 14 (QL C (gB G)) (b_L_law_515 (gX G) (gL G) (gB G) k76 x515_1 x515_2 x515_3 x515_4 x515_5 x515_7 x515_9 x515_12 σ) σ kc ks 515 [(0, va_rf (some (gB G))), (1, va_rf x515_1), (2, .int x515_2), (3, .int x515_3), (4, .int x515_4), (5, .int x515_5), (7, .int x515_7), (9, .int x515_9), (12, .int x515_12)] [] := by
  unfold b_L_law_515
  refine r_aloadn hC 1 (r := x515_1) rfl rfl dL_law_515 ?_
  refine r_iload hC 8 rfl dL_law_516 ?_
  refine r_iload hC 7 rfl dL_law_518 ?_
  refine r_iconst hC (1) rfl dL_law_520 ?_
  refine r_iload hC 6 rfl dL_law_521 ?_
  refine r_iconst hC (5) rfl dL_law_523 ?_
  refine r_ishr hC dL_law_524 (fun v145 => ?_)
  refine r_bipush hC (50) (by decide) dL_law_525 ?_
  refine call_S hC (av := [.int v145, .int 50]) (st := [.int 1, .int x515_9, .int x515_12, va_rf x515_1]) (ct_L_below hC.hl G v145 50 σ) q_549 q_550 q_12 q_551 yd_L_below rfl ⟨Nat.le_of_ble_eq_true rfl, Nat.le_of_ble_eq_true rfl⟩ ⟨by omega, by omega⟩ rfl (by simp [cat_rf, cat_i, cat_j, cat_d, cat_a]) dL_law_527 (fun v146 σ147 => ?_)
  show Wo _ _ _ _ _ _ _ _ _ _ [.int v146, .int 1, .int x515_9, .int x515_12, va_rf x515_1]
  refine r_iadd hC dL_law_530 (fun v148 => ?_)
  refine call_V hC (av := [.int x515_12, .int x515_9, .int v148]) (st := []) (r := x515_1) (ci := 4) rfl rfl (fun h9 => ct_X4_bid hC.hl G h9 x515_12 x515_9 v148 σ147) q_365 q_366 q_367 q_13 q_368 yd_X4_bid rfl ⟨Nat.le_of_ble_eq_true rfl, Nat.le_of_ble_eq_true rfl⟩ ⟨by omega, by omega⟩ rfl (Nat.le_of_ble_eq_true rfl) dL_law_531 (fun v149 σ150 => ?_)
  show Wo _ _ _ _ _ _ _ _ _ _ [.int v149]
  refine r_iconst hC (4) rfl dL_law_534 ?_
  refine r_icmp_gt hC 560 dL_law_535 (by decide) ?_ ?_
  · refine Wo.sub [] rfl ?_
    exact t_L_law_560 hC hX  σ150 _ _ ⟨by omega, by omega⟩
  · refine r_aloadn hC 1 (r := x515_1) rfl rfl dL_law_538 ?_
    refine r_iload hC 8 rfl dL_law_539 ?_
    refine r_iload hC 7 rfl dL_law_541 ?_
    refine call_V hC (av := [.int x515_12, .int x515_9]) (st := []) (r := x515_1) (ci := 4) rfl rfl (fun h9 => ct_X4_bidOf hC.hl G h9 x515_12 x515_9 σ150) q_389 q_390 q_391 q_13 q_392 yd_X4_bidOf rfl ⟨Nat.le_of_ble_eq_true rfl, Nat.le_of_ble_eq_true rfl⟩ ⟨by omega, by omega⟩ rfl (Nat.le_of_ble_eq_true rfl) dL_law_543 (fun v152 σ153 => ?_)
    show Wo _ _ _ _ _ _ _ _ _ _ [.int v152]
    refine r_iconst hC (1) rfl dL_law_546 ?_
    refine r_iload hC 6 rfl dL_law_547 ?_
    refine r_iconst hC (5) rfl dL_law_549 ?_
    refine r_ishr hC dL_law_550 (fun v155 => ?_)
    refine r_bipush hC (50) (by decide) dL_law_551 ?_
    refine call_S hC (av := [.int v155, .int 50]) (st := [.int 1, .int v152]) (ct_L_below hC.hl G v155 50 σ153) q_549 q_550 q_12 q_551 yd_L_below rfl ⟨Nat.le_of_ble_eq_true rfl, Nat.le_of_ble_eq_true rfl⟩ ⟨by omega, by omega⟩ rfl (by simp [cat_rf, cat_i, cat_j, cat_d, cat_a]) dL_law_553 (fun v156 σ157 => ?_)
    show Wo _ _ _ _ _ _ _ _ _ _ [.int v156, .int 1, .int v152]
    refine r_iadd hC dL_law_556 (fun v158 => ?_)
    refine r_icmp_eq hC 658 dL_law_557 (by decide) ?_ ?_
    · refine Wo.sub [0, 1, 2, 3, 4, 5] rfl ?_
      exact t_L_law_658 hC hX P76 hm76 k76 hk76 x515_1 x515_2 x515_3 x515_4 x515_5 σ157 _ _ ⟨by omega, by omega⟩ (hm76 _ _ _ _ (by omega) (by omega) hP76)
    · refine Wo.sub [] rfl ?_
      exact t_L_law_560 hC hX  σ157 _ _ ⟨by omega, by omega⟩

set_option maxRecDepth 100000 in
set_option maxHeartbeats 4000000 in
theorem t_L_law_170 {C : Cxt} {G : Glb} (hC : CX C G RL cL_law 14 ret 14 616891 7250952 524) (hX : Lwa C G) (P76 : Nat → Nat → Prop) (hm76 : ∀ a b a2 b2 : Nat, a ≤ a2 → b ≤ b2 → P76 a2 b2 → P76 a b) (k76 : (Option Nat) → Int32 → Int32 → Int32 → Int32 → Mem → Option ((Int32) × Mem)) (hk76 : ∀ (x76_1 : (Option Nat)) (x76_2 : Int32) (x76_3 : Int32) (x76_4 : Int32) (x76_5 : Int32) (σ : Mem) (kc ks : Nat), P76 kc ks → Wo C G 14 (QL C (gB G)) (k76 x76_1 x76_2 x76_3 x76_4 x76_5 σ) σ kc ks 76 [(0, va_rf (some (gB G))), (1, va_rf x76_1), (2, .int x76_2), (3, .int x76_3), (4, .int x76_4), (5, .int x76_5)] []) (x170_1 : (Option Nat)) (x170_2 : Int32) (x170_3 : Int32) (x170_4 : Int32) (x170_5 : Int32) (x170_6 : Int32) (x170_7 : Int32) (x170_8 : Int32) (x170_9 : Int32) (y170_0 : Int32) (σ : Mem) (kc ks : Nat) (hN : kc + 2 ≤ 616891 ∧ ks + 10 ≤ 7250952) (hP76 : P76 (kc + 2) (ks + 10)) : Wo C G 14 (QL C (gB G)) (b_L_law_170 (gX G) (gL G) (gB G) k76 x170_1 x170_2 x170_3 x170_4 x170_5 x170_6 x170_7 x170_8 x170_9 y170_0 σ) σ kc ks 170 [(0, va_rf (some (gB G))), (1, va_rf x170_1), (2, .int x170_2), (3, .int x170_3), (4, .int x170_4), (5, .int x170_5), (6, .int x170_6), (7, .int x170_7), (8, .int x170_8), (9, .int x170_9)] [.int y170_0] := by
  unfold b_L_law_170
  refine r_istore hC [(10, .int y170_0), (0, va_rf (some (gB G))), (1, va_rf x170_1), (2, .int x170_2), (3, .int x170_3), (4, .int x170_4), (5, .int x170_5), (6, .int x170_6), (7, .int x170_7), (8, .int x170_8), (9, .int x170_9)] (i := 10) (by decide) rfl dL_law_170 ?_
  refine r_iload hC 7 rfl dL_law_172 ?_
  refine r_bipush hC (14) (by decide) dL_law_174 ?_
  refine call_S hC (av := [.int x170_6, .int 14]) (st := []) (ct_L_below hC.hl G x170_6 14 σ) q_549 q_550 q_12 q_551 yd_L_below rfl ⟨Nat.le_of_ble_eq_true rfl, Nat.le_of_ble_eq_true rfl⟩ ⟨by omega, by omega⟩ rfl (Nat.le_of_ble_eq_true rfl) dL_law_176 (fun v58 σ59 => ?_)
  show Wo _ _ _ _ _ _ _ _ _ _ [.int v58]
  refine Wo.ite (fun h179_0 => ?_) (fun h179_0 => ?_)
  · refine r_tab hC 228 dL_law_179 (by rw [h179_0]; decide) (by rw [h179_0]; decide) (by rw [h179_0]; rfl) (by decide) ?_
    refine Wo.sub [1, 2, 3, 4, 5, 6, 7, 9] rfl ?_
    exact t_L_law_228 hC hX P76 hm76 k76 hk76 x170_1 x170_2 x170_3 x170_4 x170_5 x170_6 x170_8 σ59 _ _ ⟨by omega, by omega⟩ (hm76 _ _ _ _ (by omega) (by omega) hP76)
  refine Wo.ite (fun h179_1 => ?_) (fun h179_1 => ?_)
  · refine r_tab hC 228 dL_law_179 (by rw [h179_1]; decide) (by rw [h179_1]; decide) (by rw [h179_1]; rfl) (by decide) ?_
    refine Wo.sub [1, 2, 3, 4, 5, 6, 7, 9] rfl ?_
    exact t_L_law_228 hC hX P76 hm76 k76 hk76 x170_1 x170_2 x170_3 x170_4 x170_5 x170_6 x170_8 σ59 _ _ ⟨by omega, by omega⟩ (hm76 _ _ _ _ (by omega) (by omega) hP76)
  refine Wo.ite (fun h179_2 => ?_) (fun h179_2 => ?_)
  · refine r_tab hC 258 dL_law_179 (by rw [h179_2]; decide) (by rw [h179_2]; decide) (by rw [h179_2]; rfl) (by decide) ?_
    refine Wo.sub [1, 2, 3, 4, 5, 6, 7, 9] rfl ?_
    exact t_L_law_258 hC hX P76 hm76 k76 hk76 x170_1 x170_2 x170_3 x170_4 x170_5 x170_6 x170_8 σ59 _ _ ⟨by omega, by omega⟩ (hm76 _ _ _ _ (by omega) (by omega) hP76)
  refine Wo.ite (fun h179_3 => ?_) (fun h179_3 => ?_)
  · refine r_tab hC 258 dL_law_179 (by rw [h179_3]; decide) (by rw [h179_3]; decide) (by rw [h179_3]; rfl) (by decide) ?_
    refine Wo.sub [1, 2, 3, 4, 5, 6, 7, 9] rfl ?_
    exact t_L_law_258 hC hX P76 hm76 k76 hk76 x170_1 x170_2 x170_3 x170_4 x170_5 x170_6 x170_8 σ59 _ _ ⟨by omega, by omega⟩ (hm76 _ _ _ _ (by omega) (by omega) hP76)
  refine Wo.ite (fun h179_4 => ?_) (fun h179_4 => ?_)
  · refine r_tab hC 258 dL_law_179 (by rw [h179_4]; decide) (by rw [h179_4]; decide) (by rw [h179_4]; rfl) (by decide) ?_
    refine Wo.sub [1, 2, 3, 4, 5, 6, 7, 9] rfl ?_
    exact t_L_law_258 hC hX P76 hm76 k76 hk76 x170_1 x170_2 x170_3 x170_4 x170_5 x170_6 x170_8 σ59 _ _ ⟨by omega, by omega⟩ (hm76 _ _ _ _ (by omega) (by omega) hP76)
  refine Wo.ite (fun h179_5 => ?_) (fun h179_5 => ?_)
  · refine r_tab hC 389 dL_law_179 (by rw [h179_5]; decide) (by rw [h179_5]; decide) (by rw [h179_5]; rfl) (by decide) ?_
    refine r_aloadn hC 2 (r := x170_1) rfl rfl dL_law_389 ?_
    refine r_iload hC 9 rfl dL_law_390 ?_
    refine call_V hC (av := [.int x170_8]) (st := []) (r := x170_1) (ci := 4) rfl rfl (fun h9 => ct_X4_spray hC.hl G h9 x170_8 σ59) q_312 q_313 q_314 q_13 q_315 yd_X4_spray rfl ⟨Nat.le_of_ble_eq_true rfl, Nat.le_of_ble_eq_true rfl⟩ ⟨by omega, by omega⟩ rfl (Nat.le_of_ble_eq_true rfl) dL_law_392 (fun v118 σ119 => ?_)
    show Wo _ _ _ _ _ _ _ _ _ _ [.int v118]
    refine r_if_lt hC 419 dL_law_395 (by decide) ?_ ?_
    · refine Wo.sub [] rfl ?_
      exact t_L_law_419 hC hX  σ119 _ _ ⟨by omega, by omega⟩
    · refine r_aloadn hC 2 (r := x170_1) rfl rfl dL_law_398 ?_
      refine r_iload hC 9 rfl dL_law_399 ?_
      refine r_iconst hC (4) rfl dL_law_401 ?_
      refine call_V hC (av := [.int x170_8, .int 4]) (st := []) (r := x170_1) (ci := 4) rfl rfl (fun h9 => ct_X4_ofSection hC.hl G h9 x170_8 4 σ119) q_381 q_382 q_383 q_13 q_384 yd_X4_ofSection rfl ⟨Nat.le_of_ble_eq_true rfl, Nat.le_of_ble_eq_true rfl⟩ ⟨by omega, by omega⟩ rfl (Nat.le_of_ble_eq_true rfl) dL_law_402 (fun v121 σ122 => ?_)
      show Wo _ _ _ _ _ _ _ _ _ _ [.int v121]
      refine r_if_ne hC 419 dL_law_405 (by decide) ?_ ?_
      · refine Wo.sub [] rfl ?_
        exact t_L_law_419 hC hX  σ122 _ _ ⟨by omega, by omega⟩
      · refine r_aloadn hC 2 (r := x170_1) rfl rfl dL_law_408 ?_
        refine r_iload hC 9 rfl dL_law_409 ?_
        refine r_iconst hC (5) rfl dL_law_411 ?_
        refine call_V hC (av := [.int x170_8, .int 5]) (st := []) (r := x170_1) (ci := 4) rfl rfl (fun h9 => ct_X4_ofSection hC.hl G h9 x170_8 5 σ122) q_381 q_382 q_383 q_13 q_384 yd_X4_ofSection rfl ⟨Nat.le_of_ble_eq_true rfl, Nat.le_of_ble_eq_true rfl⟩ ⟨by omega, by omega⟩ rfl (Nat.le_of_ble_eq_true rfl) dL_law_412 (fun v124 σ125 => ?_)
        show Wo _ _ _ _ _ _ _ _ _ _ [.int v124]
        refine r_iconst hC (3) rfl dL_law_415 ?_
        refine r_icmp_eq hC 658 dL_law_416 (by decide) ?_ ?_
        · refine Wo.sub [1, 2, 3, 4, 5, 6] rfl ?_
          exact t_L_law_658 hC hX P76 hm76 k76 hk76 x170_1 x170_2 x170_3 x170_4 x170_5 σ125 _ _ ⟨by omega, by omega⟩ (hm76 _ _ _ _ (by omega) (by omega) hP76)
        · refine Wo.sub [] rfl ?_
          exact t_L_law_419 hC hX  σ125 _ _ ⟨by omega, by omega⟩
  refine Wo.ite (fun h179_6 => ?_) (fun h179_6 => ?_)
  · refine r_tab hC 421 dL_law_179 (by rw [h179_6]; decide) (by rw [h179_6]; decide) (by rw [h179_6]; rfl) (by decide) ?_
    refine r_iload hC 7 rfl dL_law_421 ?_
    refine r_iconst hC (4) rfl dL_law_423 ?_
    refine r_ishr hC dL_law_424 (fun v127 => ?_)
    refine r_iconst hC (4) rfl dL_law_425 ?_
    refine call_S hC (av := [.int v127, .int 4]) (st := []) (ct_L_below hC.hl G v127 4 σ59) q_549 q_550 q_12 q_551 yd_L_below rfl ⟨Nat.le_of_ble_eq_true rfl, Nat.le_of_ble_eq_true rfl⟩ ⟨by omega, by omega⟩ rfl (Nat.le_of_ble_eq_true rfl) dL_law_426 (fun v128 σ129 => ?_)
    show Wo _ _ _ _ _ _ _ _ _ _ [.int v128]
    refine r_istore hC [(12, .int v128), (10, .int y170_0), (0, va_rf (some (gB G))), (1, va_rf x170_1), (2, .int x170_2), (3, .int x170_3), (4, .int x170_4), (5, .int x170_5), (6, .int x170_6), (7, .int x170_7), (8, .int x170_8), (9, .int x170_9)] (i := 12) (by decide) rfl dL_law_429 ?_
    refine r_iconst hC (1) rfl dL_law_431 ?_
    refine r_iload hC 8 rfl dL_law_432 ?_
    refine r_bipush hC (6) (by decide) dL_law_434 ?_
    refine r_ishr hC dL_law_436 (fun v130 => ?_)
    refine r_sipush hC (200) (by decide) dL_law_437 ?_
    refine call_S hC (av := [.int v130, .int 200]) (st := [.int 1]) (ct_L_below hC.hl G v130 200 σ129) q_549 q_550 q_12 q_551 yd_L_below rfl ⟨Nat.le_of_ble_eq_true rfl, Nat.le_of_ble_eq_true rfl⟩ ⟨by omega, by omega⟩ rfl (by simp [cat_rf, cat_i, cat_j, cat_d, cat_a]) dL_law_440 (fun v131 σ132 => ?_)
    show Wo _ _ _ _ _ _ _ _ _ _ [.int v131, .int 1]
    refine r_iadd hC dL_law_443 (fun v133 => ?_)
    refine r_istore hC [(13, .int v133), (12, .int v128), (10, .int y170_0), (0, va_rf (some (gB G))), (1, va_rf x170_1), (2, .int x170_2), (3, .int x170_3), (4, .int x170_4), (5, .int x170_5), (6, .int x170_6), (7, .int x170_7), (8, .int x170_8), (9, .int x170_9)] (i := 13) (by decide) rfl dL_law_444 ?_
    refine r_aloadn hC 4 (r := x170_1) rfl rfl dL_law_446 ?_
    refine r_iload hC 1 rfl dL_law_447 ?_
    refine r_iload hC 0 rfl dL_law_449 ?_
    refine call_V hC (av := [.int v128, .int v133]) (st := []) (r := x170_1) (ci := 4) rfl rfl (fun h9 => ct_X4_purse hC.hl G h9 v128 v133 σ132) q_349 q_350 q_351 q_13 q_352 yd_X4_purse rfl ⟨Nat.le_of_ble_eq_true rfl, Nat.le_of_ble_eq_true rfl⟩ ⟨by omega, by omega⟩ rfl (Nat.le_of_ble_eq_true rfl) dL_law_451 (fun v134 σ135 => ?_)
    show Wo _ _ _ _ _ _ _ _ _ _ [.int v134]
    refine r_aloadn hC 4 (r := x170_1) rfl rfl dL_law_454 ?_
    refine r_bipush hC (11) (by decide) dL_law_455 ?_
    refine r_iload hC 1 rfl dL_law_457 ?_
    refine r_iadd hC dL_law_459 (fun v137 => ?_)
    refine call_V hC (av := [.int v137]) (st := [.int v134]) (r := x170_1) (ci := 4) rfl rfl (fun h9 => ct_X4_many hC.hl G h9 v137 σ135) q_394 q_395 q_396 q_13 q_397 yd_X4_many rfl ⟨Nat.le_of_ble_eq_true rfl, Nat.le_of_ble_eq_true rfl⟩ ⟨by omega, by omega⟩ rfl (by simp [cat_rf, cat_i, cat_j, cat_d, cat_a]) dL_law_460 (fun v138 σ139 => ?_)
    show Wo _ _ _ _ _ _ _ _ _ _ [.int v138, .int v134]
    refine r_icmp_eq hC 468 dL_law_463 (by decide) ?_ ?_
    · refine r_iloadn hC 6 rfl rfl dL_law_468 ?_
      refine r_iload hC 0 rfl dL_law_469 ?_
      refine r_iadd hC dL_law_471 (fun v141 => ?_)
      refine r_istoren hC [(3, .int v141), (13, .int v133), (12, .int v128), (10, .int y170_0), (0, va_rf (some (gB G))), (1, va_rf x170_1), (2, .int x170_2), (4, .int x170_4), (5, .int x170_5), (6, .int x170_6), (7, .int x170_7), (8, .int x170_8), (9, .int x170_9)] (i := 3) rfl (by decide) rfl dL_law_472 ?_
      refine r_iload hC 3 rfl dL_law_473 ?_
      refine r_iconst hC (2) rfl dL_law_475 ?_
      refine r_icmp_eq hC 482 dL_law_476 (by decide) ?_ ?_
      · refine r_aloadn hC 5 (r := x170_1) rfl rfl dL_law_482 ?_
        refine r_iload hC 12 rfl dL_law_483 ?_
        refine r_bipush hC (13) (by decide) dL_law_485 ?_
        refine call_V hC (av := [.int x170_9, .int 13]) (st := []) (r := x170_1) (ci := 4) rfl rfl (fun h9 => ct_X4_ofLot hC.hl G h9 x170_9 13 σ139) q_385 q_386 q_387 q_13 q_388 yd_X4_ofLot rfl ⟨Nat.le_of_ble_eq_true rfl, Nat.le_of_ble_eq_true rfl⟩ ⟨by omega, by omega⟩ rfl (Nat.le_of_ble_eq_true rfl) dL_law_487 (fun v142 σ143 => ?_)
        show Wo _ _ _ _ _ _ _ _ _ _ [.int v142]
        refine r_if_ne hC 515 dL_law_490 (by decide) ?_ ?_
        · refine Wo.sub [4, 5, 6, 0, 7, 8, 10, 12, 2] rfl ?_
          exact t_L_law_515 hC hX P76 hm76 k76 hk76 x170_1 x170_2 v141 x170_4 x170_5 x170_7 x170_9 v128 σ143 _ _ ⟨by omega, by omega⟩ (hm76 _ _ _ _ (by omega) (by omega) hP76)
        · refine r_aloadn hC 5 (r := x170_1) rfl rfl dL_law_493 ?_
          refine r_iload hC 12 rfl dL_law_494 ?_
          refine r_iconst hC (1) rfl dL_law_496 ?_
          refine r_iload hC 10 rfl dL_law_497 ?_
          refine r_bipush hC (6) (by decide) dL_law_499 ?_
          refine r_ishr hC dL_law_501 (fun v159 => ?_)
          refine r_bipush hC (30) (by decide) dL_law_502 ?_
          refine call_S hC (av := [.int v159, .int 30]) (st := [.int 1, .int x170_9, va_rf x170_1]) (ct_L_below hC.hl G v159 30 σ143) q_549 q_550 q_12 q_551 yd_L_below rfl ⟨Nat.le_of_ble_eq_true rfl, Nat.le_of_ble_eq_true rfl⟩ ⟨by omega, by omega⟩ rfl (by simp [cat_rf, cat_i, cat_j, cat_d, cat_a]) dL_law_504 (fun v160 σ161 => ?_)
          show Wo _ _ _ _ _ _ _ _ _ _ [.int v160, .int 1, .int x170_9, va_rf x170_1]
          refine r_iadd hC dL_law_507 (fun v162 => ?_)
          refine call_V hC (av := [.int x170_9, .int v162]) (st := []) (r := x170_1) (ci := 4) rfl rfl (fun h9 => ct_X4_offer hC.hl G h9 x170_9 v162 σ161) q_353 q_354 q_355 q_13 q_356 yd_X4_offer rfl ⟨Nat.le_of_ble_eq_true rfl, Nat.le_of_ble_eq_true rfl⟩ ⟨by omega, by omega⟩ rfl (Nat.le_of_ble_eq_true rfl) dL_law_508 (fun v163 σ164 => ?_)
          show Wo _ _ _ _ _ _ _ _ _ _ [.int v163]
          refine r_iconst hC (1) rfl dL_law_511 ?_
          refine r_icmp_lt hC 560 dL_law_512 (by decide) ?_ ?_
          · refine Wo.sub [] rfl ?_
            exact t_L_law_560 hC hX  σ164 _ _ ⟨by omega, by omega⟩
          · refine Wo.sub [4, 5, 6, 0, 7, 8, 10, 12, 2] rfl ?_
            exact t_L_law_515 hC hX P76 hm76 k76 hk76 x170_1 x170_2 v141 x170_4 x170_5 x170_7 x170_9 v128 σ164 _ _ ⟨by omega, by omega⟩ (hm76 _ _ _ _ (by omega) (by omega) hP76)
      · refine r_goto hC 658 dL_law_479 (by decide) ?_
        refine Wo.sub [4, 5, 6, 0, 7, 8] rfl ?_
        exact t_L_law_658 hC hX P76 hm76 k76 hk76 x170_1 x170_2 v141 x170_4 x170_5 σ139 _ _ ⟨by omega, by omega⟩ (hm76 _ _ _ _ (by omega) (by omega) hP76)
    · refine r_iconst hC (0) rfl dL_law_466 ?_
      exact e_law hC hX ⟨by omega, by omega⟩ dL_law_467
  refine Wo.ite (fun h179_7 => ?_) (fun h179_7 => ?_)
  · refine r_tab hC 562 dL_law_179 (by rw [h179_7]; decide) (by rw [h179_7]; decide) (by rw [h179_7]; rfl) (by decide) ?_
    refine r_iload hC 0 rfl dL_law_562 ?_
    refine r_iconst hC (2) rfl dL_law_564 ?_
    refine r_icmp_ne hC 658 dL_law_565 (by decide) ?_ ?_
    · refine Wo.sub [1, 2, 3, 4, 5, 6] rfl ?_
      exact t_L_law_658 hC hX P76 hm76 k76 hk76 x170_1 x170_2 x170_3 x170_4 x170_5 σ59 _ _ ⟨by omega, by omega⟩ (hm76 _ _ _ _ (by omega) (by omega) hP76)
    · refine r_aloadn hC 2 (r := x170_1) rfl rfl dL_law_568 ?_
      refine r_iload hC 10 rfl dL_law_569 ?_
      refine r_bipush hC (13) (by decide) dL_law_571 ?_
      refine call_V hC (av := [.int x170_9, .int 13]) (st := []) (r := x170_1) (ci := 4) rfl rfl (fun h9 => ct_X4_ofLot hC.hl G h9 x170_9 13 σ59) q_385 q_386 q_387 q_13 q_388 yd_X4_ofLot rfl ⟨Nat.le_of_ble_eq_true rfl, Nat.le_of_ble_eq_true rfl⟩ ⟨by omega, by omega⟩ rfl (Nat.le_of_ble_eq_true rfl) dL_law_573 (fun v166 σ167 => ?_)
      show Wo _ _ _ _ _ _ _ _ _ _ [.int v166]
      refine r_if_le hC 658 dL_law_576 (by decide) ?_ ?_
      · refine Wo.sub [1, 2, 3, 4, 5, 6] rfl ?_
        exact t_L_law_658 hC hX P76 hm76 k76 hk76 x170_1 x170_2 x170_3 x170_4 x170_5 σ167 _ _ ⟨by omega, by omega⟩ (hm76 _ _ _ _ (by omega) (by omega) hP76)
      · refine r_iload hC 8 rfl dL_law_579 ?_
        refine r_iconst hC (2) rfl dL_law_581 ?_
        refine call_S hC (av := [.int x170_7, .int 2]) (st := []) (ct_L_below hC.hl G x170_7 2 σ167) q_549 q_550 q_12 q_551 yd_L_below rfl ⟨Nat.le_of_ble_eq_true rfl, Nat.le_of_ble_eq_true rfl⟩ ⟨by omega, by omega⟩ rfl (Nat.le_of_ble_eq_true rfl) dL_law_582 (fun v169 σ170 => ?_)
        show Wo _ _ _ _ _ _ _ _ _ _ [.int v169]
        refine r_if_ne hC 658 dL_law_585 (by decide) ?_ ?_
        · refine Wo.sub [1, 2, 3, 4, 5, 6] rfl ?_
          exact t_L_law_658 hC hX P76 hm76 k76 hk76 x170_1 x170_2 x170_3 x170_4 x170_5 σ170 _ _ ⟨by omega, by omega⟩ (hm76 _ _ _ _ (by omega) (by omega) hP76)
        · refine r_aloadn hC 2 (r := x170_1) rfl rfl dL_law_588 ?_
          refine r_iload hC 10 rfl dL_law_589 ?_
          refine call_S hC (av := [va_rf x170_1, .int x170_9]) (st := []) (ct_L_isSold hC.hl G x170_1 x170_9 σ170) q_573 q_574 q_12 q_575 yd_L_isSold rfl ⟨Nat.le_of_ble_eq_true rfl, Nat.le_of_ble_eq_true rfl⟩ ⟨by omega, by omega⟩ rfl (Nat.le_of_ble_eq_true rfl) dL_law_591 (fun v171 σ172 => ?_)
          show Wo _ _ _ _ _ _ _ _ _ _ [.int v171]
          refine r_if_ne hC 658 dL_law_594 (by decide) ?_ ?_
          · refine Wo.sub [1, 2, 3, 4, 5, 6] rfl ?_
            exact t_L_law_658 hC hX P76 hm76 k76 hk76 x170_1 x170_2 x170_3 x170_4 x170_5 σ172 _ _ ⟨by omega, by omega⟩ (hm76 _ _ _ _ (by omega) (by omega) hP76)
          · refine r_iconst hC (0) rfl dL_law_597 ?_
            exact e_law hC hX ⟨by omega, by omega⟩ dL_law_598
  refine Wo.ite (fun h179_8 => ?_) (fun h179_8 => ?_)
  · refine r_tab hC 599 dL_law_179 (by rw [h179_8]; decide) (by rw [h179_8]; decide) (by rw [h179_8]; rfl) (by decide) ?_
    refine r_iload hC 0 rfl dL_law_599 ?_
    refine r_iconst hC (2) rfl dL_law_601 ?_
    refine r_icmp_ne hC 658 dL_law_602 (by decide) ?_ ?_
    · refine Wo.sub [1, 2, 3, 4, 5, 6] rfl ?_
      exact t_L_law_658 hC hX P76 hm76 k76 hk76 x170_1 x170_2 x170_3 x170_4 x170_5 σ59 _ _ ⟨by omega, by omega⟩ (hm76 _ _ _ _ (by omega) (by omega) hP76)
    · refine r_aloadn hC 2 (r := x170_1) rfl rfl dL_law_605 ?_
      refine r_iload hC 7 rfl dL_law_606 ?_
      refine r_iconst hC (4) rfl dL_law_608 ?_
      refine r_ishr hC dL_law_609 (fun v173 => ?_)
      refine r_iconst hC (3) rfl dL_law_610 ?_
      refine call_S hC (av := [.int v173, .int 3]) (st := [va_rf x170_1]) (ct_L_below hC.hl G v173 3 σ59) q_549 q_550 q_12 q_551 yd_L_below rfl ⟨Nat.le_of_ble_eq_true rfl, Nat.le_of_ble_eq_true rfl⟩ ⟨by omega, by omega⟩ rfl (by simp [cat_rf, cat_i, cat_j, cat_d, cat_a]) dL_law_611 (fun v174 σ175 => ?_)
      show Wo _ _ _ _ _ _ _ _ _ _ [.int v174, va_rf x170_1]
      refine r_iload hC 10 rfl dL_law_614 ?_
      refine r_iload hC 8 rfl dL_law_616 ?_
      refine r_iconst hC (5) rfl dL_law_618 ?_
      refine call_S hC (av := [.int x170_7, .int 5]) (st := [.int x170_9, .int v174, va_rf x170_1]) (ct_L_below hC.hl G x170_7 5 σ175) q_549 q_550 q_12 q_551 yd_L_below rfl ⟨Nat.le_of_ble_eq_true rfl, Nat.le_of_ble_eq_true rfl⟩ ⟨by omega, by omega⟩ rfl (by simp [cat_rf, cat_i, cat_j, cat_d, cat_a]) dL_law_619 (fun v176 σ177 => ?_)
      show Wo _ _ _ _ _ _ _ _ _ _ [.int v176, .int x170_9, .int v174, va_rf x170_1]
      refine r_iconst hC (2) rfl dL_law_622 ?_
      refine r_isub hC dL_law_623 (fun v178 => ?_)
      refine call_S hC (av := [va_rf x170_1, .int v174, .int x170_9, .int v178]) (st := []) (ct_L_isTold hC.hl G x170_1 v174 x170_9 v178 σ177) q_589 q_590 q_12 q_591 yd_L_isTold rfl ⟨Nat.le_of_ble_eq_true rfl, Nat.le_of_ble_eq_true rfl⟩ ⟨by omega, by omega⟩ rfl (Nat.le_of_ble_eq_true rfl) dL_law_624 (fun v179 σ180 => ?_)
      show Wo _ _ _ _ _ _ _ _ _ _ [.int v179]
      refine r_if_ne hC 658 dL_law_627 (by decide) ?_ ?_
      · refine Wo.sub [1, 2, 3, 4, 5, 6] rfl ?_
        exact t_L_law_658 hC hX P76 hm76 k76 hk76 x170_1 x170_2 x170_3 x170_4 x170_5 σ180 _ _ ⟨by omega, by omega⟩ (hm76 _ _ _ _ (by omega) (by omega) hP76)
      · refine r_iconst hC (0) rfl dL_law_630 ?_
        exact e_law hC hX ⟨by omega, by omega⟩ dL_law_631
  refine r_tabD hC 632 (n := 9) dL_law_179 (Nat.le_of_ble_eq_true rfl) (fun i hi => match i, hi with
    | 0, _ => h179_0
    | 1, _ => h179_1
    | 2, _ => h179_2
    | 3, _ => h179_3
    | 4, _ => h179_4
    | 5, _ => h179_5
    | 6, _ => h179_6
    | 7, _ => h179_7
    | 8, _ => h179_8
    | i + 9, hi => absurd hi (by omega)) (by decide) ?_
  refine r_iload hC 10 rfl dL_law_632 ?_
  refine r_if_lt hC 658 dL_law_634 (by decide) ?_ ?_
  · refine Wo.sub [1, 2, 3, 4, 5, 6] rfl ?_
    exact t_L_law_658 hC hX P76 hm76 k76 hk76 x170_1 x170_2 x170_3 x170_4 x170_5 σ59 _ _ ⟨by omega, by omega⟩ (hm76 _ _ _ _ (by omega) (by omega) hP76)
  · refine r_aloadn hC 2 (r := x170_1) rfl rfl dL_law_637 ?_
    refine r_iload hC 10 rfl dL_law_638 ?_
    refine r_iload hC 0 rfl dL_law_640 ?_
    refine r_iload hC 7 rfl dL_law_642 ?_
    refine r_iconst hC (3) rfl dL_law_644 ?_
    refine r_ishr hC dL_law_645 (fun v181 => ?_)
    refine r_iload hC 8 rfl dL_law_646 ?_
    refine r_iconst hC (5) rfl dL_law_648 ?_
    refine r_ishr hC dL_law_649 (fun v182 => ?_)
    refine call_S hC (av := [va_rf x170_1, .int x170_9, .int y170_0, .int v181, .int v182]) (st := []) (ct_L_isWorked hC.hl G x170_1 x170_9 y170_0 v181 v182 σ59) q_608 q_609 q_12 q_610 yd_L_isWorked rfl ⟨Nat.le_of_ble_eq_true rfl, Nat.le_of_ble_eq_true rfl⟩ ⟨by omega, by omega⟩ rfl (Nat.le_of_ble_eq_true rfl) dL_law_650 (fun v183 σ184 => ?_)
    show Wo _ _ _ _ _ _ _ _ _ _ [.int v183]
    refine r_if_ne hC 658 dL_law_653 (by decide) ?_ ?_
    · refine Wo.sub [1, 2, 3, 4, 5, 6] rfl ?_
      exact t_L_law_658 hC hX P76 hm76 k76 hk76 x170_1 x170_2 x170_3 x170_4 x170_5 σ184 _ _ ⟨by omega, by omega⟩ (hm76 _ _ _ _ (by omega) (by omega) hP76)
    · refine r_iconst hC (0) rfl dL_law_656 ?_
      exact e_law hC hX ⟨by omega, by omega⟩ dL_law_657

set_option maxRecDepth 100000 in
set_option maxHeartbeats 4000000 in
theorem t_L_law_152 {C : Cxt} {G : Glb} (hC : CX C G RL cL_law 14 ret 14 616891 7250952 524) (hX : Lwa C G) (P76 : Nat → Nat → Prop) (hm76 : ∀ a b a2 b2 : Nat, a ≤ a2 → b ≤ b2 → P76 a2 b2 → P76 a b) (k76 : (Option Nat) → Int32 → Int32 → Int32 → Int32 → Mem → Option ((Int32) × Mem)) (hk76 : ∀ (x76_1 : (Option Nat)) (x76_2 : Int32) (x76_3 : Int32) (x76_4 : Int32) (x76_5 : Int32) (σ : Mem) (kc ks : Nat), P76 kc ks → Wo C G 14 (QL C (gB G)) (k76 x76_1 x76_2 x76_3 x76_4 x76_5 σ) σ kc ks 76 [(0, va_rf (some (gB G))), (1, va_rf x76_1), (2, .int x76_2), (3, .int x76_3), (4, .int x76_4), (5, .int x76_5)] []) (x152_1 : (Option Nat)) (x152_2 : Int32) (x152_3 : Int32) (x152_4 : Int32) (x152_5 : Int32) (x152_6 : Int32) (x152_7 : Int32) (x152_8 : Int32) (y152_0 : Int32) (σ : Mem) (kc ks : Nat) (hN : kc + 2 ≤ 616891 ∧ ks + 10 ≤ 7250952) (hP76 : P76 (kc + 2) (ks + 10)) : Wo C G 14 (QL C (gB G)) (b_L_law_152 (gX G) (gL G) (gB G) k76 x152_1 x152_2 x152_3 x152_4 x152_5 x152_6 x152_7 x152_8 y152_0 σ) σ kc ks 152 [(0, va_rf (some (gB G))), (1, va_rf x152_1), (2, .int x152_2), (3, .int x152_3), (4, .int x152_4), (5, .int x152_5), (6, .int x152_6), (7, .int x152_7), (8, .int x152_8)] [.int y152_0] := by
  unfold b_L_law_152
  refine r_istore hC [(9, .int y152_0), (0, va_rf (some (gB G))), (1, va_rf x152_1), (2, .int x152_2), (3, .int x152_3), (4, .int x152_4), (5, .int x152_5), (6, .int x152_6), (7, .int x152_7), (8, .int x152_8)] (i := 9) (by decide) rfl dL_law_152 ?_
  refine r_iload hC 0 rfl dL_law_154 ?_
  refine r_if_ge hC 163 dL_law_156 (by decide) ?_ ?_
  · refine r_aloadn hC 2 (r := x152_1) rfl rfl dL_law_163 ?_
    refine r_iload hC 0 rfl dL_law_164 ?_
    refine r_iconst hC (0) rfl dL_law_166 ?_
    refine call_V hC (av := [.int y152_0, .int 0]) (st := []) (r := x152_1) (ci := 4) rfl rfl (fun h9 => ct_X4_ofLot hC.hl G h9 y152_0 0 σ) q_385 q_386 q_387 q_13 q_388 yd_X4_ofLot rfl ⟨Nat.le_of_ble_eq_true rfl, Nat.le_of_ble_eq_true rfl⟩ ⟨by omega, by omega⟩ rfl (Nat.le_of_ble_eq_true rfl) dL_law_167 (fun v55 σ56 => ?_)
    show Wo _ _ _ _ _ _ _ _ _ _ [.int v55]
    refine Wo.sub [1, 2, 3, 4, 5, 6, 7, 8, 9, 0] rfl ?_
    exact t_L_law_170 hC hX P76 hm76 k76 hk76 x152_1 x152_2 x152_3 x152_4 x152_5 x152_6 x152_7 x152_8 y152_0 v55 σ56 _ _ ⟨by omega, by omega⟩ (hm76 _ _ _ _ (by omega) (by omega) hP76)
  · refine r_iconst hC (-1) rfl dL_law_159 ?_
    refine r_goto hC 170 dL_law_160 (by decide) ?_
    refine Wo.sub [1, 2, 3, 4, 5, 6, 7, 8, 9, 0] rfl ?_
    exact t_L_law_170 hC hX P76 hm76 k76 hk76 x152_1 x152_2 x152_3 x152_4 x152_5 x152_6 x152_7 x152_8 y152_0 (-1) σ _ _ ⟨by omega, by omega⟩ (hm76 _ _ _ _ (by omega) (by omega) hP76)

set_option maxRecDepth 100000 in
set_option maxHeartbeats 4000000 in
theorem t_L_law_76 {C : Cxt} {G : Glb} (hC : CX C G RL cL_law 14 ret 14 616891 7250952 524) (hX : Lwa C G) (P76 : Nat → Nat → Prop) (hm76 : ∀ a b a2 b2 : Nat, a ≤ a2 → b ≤ b2 → P76 a2 b2 → P76 a b) (k76 : (Option Nat) → Int32 → Int32 → Int32 → Int32 → Mem → Option ((Int32) × Mem)) (hk76 : ∀ (x76_1 : (Option Nat)) (x76_2 : Int32) (x76_3 : Int32) (x76_4 : Int32) (x76_5 : Int32) (σ : Mem) (kc ks : Nat), P76 kc ks → Wo C G 14 (QL C (gB G)) (k76 x76_1 x76_2 x76_3 x76_4 x76_5 σ) σ kc ks 76 [(0, va_rf (some (gB G))), (1, va_rf x76_1), (2, .int x76_2), (3, .int x76_3), (4, .int x76_4), (5, .int x76_5)] []) (x76_1 : (Option Nat)) (x76_2 : Int32) (x76_3 : Int32) (x76_4 : Int32) (x76_5 : Int32) (σ : Mem) (kc ks : Nat) (hN : kc + 2 ≤ 616891 ∧ ks + 10 ≤ 7250952) (hP76 : P76 (kc + 2) (ks + 10)) : Wo C G 14 (QL C (gB G)) (b_L_law_76 (gX G) (gL G) (gB G) k76 x76_1 x76_2 x76_3 x76_4 x76_5 σ) σ kc ks 76 [(0, va_rf (some (gB G))), (1, va_rf x76_1), (2, .int x76_2), (3, .int x76_3), (4, .int x76_4), (5, .int x76_5)] [] := by
  unfold b_L_law_76
  refine r_iload hC 5 rfl dL_law_76 ?_
  refine r_bipush hC (48) (by decide) dL_law_78 ?_
  refine r_icmp_ge hC 678 dL_law_80 (by decide) ?_ ?_
  · refine r_aloadn hC 1 (r := x76_1) rfl rfl dL_law_678 ?_
    refine call_V hC (av := []) (st := []) (r := x76_1) (ci := 4) rfl rfl (fun h9 => ct_X4_digest hC.hl G h9 σ) q_465 q_466 q_467 q_13 q_468 yd_X4_digest rfl ⟨Nat.le_of_ble_eq_true rfl, Nat.le_of_ble_eq_true rfl⟩ ⟨by omega, by omega⟩ rfl (Nat.le_of_ble_eq_true rfl) dL_law_679 (fun v11 σ12 => ?_)
    show Wo _ _ _ _ _ _ _ _ _ _ [.long v11]
    refine r_lstore hC [(5, .long v11), (0, va_rf (some (gB G))), (1, va_rf x76_1), (2, .int x76_2), (3, .int x76_3), (4, .int x76_4)] (i := 5) (by decide) rfl dL_law_682 ?_
    refine r_aloadn hC 2 (r := x76_1) rfl rfl dL_law_684 ?_
    refine r_iconst hC (0) rfl dL_law_685 ?_
    refine r_iconst hC (0) rfl dL_law_686 ?_
    refine r_iconst hC (0) rfl dL_law_687 ?_
    refine call_V hC (av := [.int 0, .int 0, .int 0]) (st := []) (r := x76_1) (ci := 4) rfl rfl (fun h9 => ct_X4_bestMix hC.hl G h9 0 0 0 σ12) q_450 q_451 q_452 q_13 q_453 yd_X4_bestMix rfl ⟨Nat.le_of_ble_eq_true rfl, Nat.le_of_ble_eq_true rfl⟩ ⟨by omega, by omega⟩ rfl (Nat.le_of_ble_eq_true rfl) dL_law_688 (fun v14 σ15 => ?_)
    show Wo _ _ _ _ _ _ _ _ _ _ [.int v14]
    refine r_iconst hC (-1) rfl dL_law_691 ?_
    refine r_icmp_lt hC 729 dL_law_692 (by decide) ?_ ?_
    · refine Wo.sub [] rfl ?_
      exact t_L_law_729 hC hX  σ15 _ _ ⟨by omega, by omega⟩
    · refine r_aloadn hC 2 (r := x76_1) rfl rfl dL_law_695 ?_
      refine r_iconst hC (0) rfl dL_law_696 ?_
      refine r_bipush hC (6) (by decide) dL_law_697 ?_
      refine r_bipush hC (6) (by decide) dL_law_699 ?_
      refine call_V hC (av := [.int 0, .int 6, .int 6]) (st := []) (r := x76_1) (ci := 4) rfl rfl (fun h9 => ct_X4_flushIn hC.hl G h9 0 6 6 σ15) q_440 q_441 q_442 q_13 q_443 yd_X4_flushIn rfl ⟨Nat.le_of_ble_eq_true rfl, Nat.le_of_ble_eq_true rfl⟩ ⟨by omega, by omega⟩ rfl (Nat.le_of_ble_eq_true rfl) dL_law_701 (fun v17 σ18 => ?_)
      show Wo _ _ _ _ _ _ _ _ _ _ [.int v17]
      refine r_bipush hC (30) (by decide) dL_law_704 ?_
      refine r_icmp_gt hC 729 dL_law_706 (by decide) ?_ ?_
      · refine Wo.sub [] rfl ?_
        exact t_L_law_729 hC hX  σ18 _ _ ⟨by omega, by omega⟩
      · refine r_aloadn hC 2 (r := x76_1) rfl rfl dL_law_709 ?_
        refine call_V hC (av := []) (st := []) (r := x76_1) (ci := 4) rfl rfl (fun h9 => ct_X4_meanNotes hC.hl G h9 σ18) q_406 q_407 q_408 q_13 q_409 yd_X4_meanNotes rfl ⟨Nat.le_of_ble_eq_true rfl, Nat.le_of_ble_eq_true rfl⟩ ⟨by omega, by omega⟩ rfl (Nat.le_of_ble_eq_true rfl) dL_law_710 (fun v20 σ21 => ?_)
        show Wo _ _ _ _ _ _ _ _ _ _ [.double v20]
        refine r_dconst0 hC dL_law_713 ?_
        refine r_dcmp hC dL_law_714 (fun v23 => ?_)
        refine r_if_lt hC 729 dL_law_715 (by decide) ?_ ?_
        · refine Wo.sub [] rfl ?_
          exact t_L_law_729 hC hX  σ21 _ _ ⟨by omega, by omega⟩
        · refine r_aloadn hC 2 (r := x76_1) rfl rfl dL_law_718 ?_
          refine call_V hC (av := []) (st := []) (r := x76_1) (ci := 4) rfl rfl (fun h9 => ct_X4_meanNotes hC.hl G h9 σ21) q_406 q_407 q_408 q_13 q_409 yd_X4_meanNotes rfl ⟨Nat.le_of_ble_eq_true rfl, Nat.le_of_ble_eq_true rfl⟩ ⟨by omega, by omega⟩ rfl (Nat.le_of_ble_eq_true rfl) dL_law_719 (fun v24 σ25 => ?_)
          show Wo _ _ _ _ _ _ _ _ _ _ [.double v24]
          refine r_ldc2d hC (v := 4628293042053316608) q_667 dL_law_722 ?_
          refine r_dcmp hC dL_law_725 (fun v27 => ?_)
          refine r_if_le hC 731 dL_law_726 (by decide) ?_ ?_
          · refine r_aloadn hC 2 (r := x76_1) rfl rfl dL_law_731 ?_
            refine call_V hC (av := []) (st := []) (r := x76_1) (ci := 4) rfl rfl (fun h9 => ct_X4_digest hC.hl G h9 σ25) q_465 q_466 q_467 q_13 q_468 yd_X4_digest rfl ⟨Nat.le_of_ble_eq_true rfl, Nat.le_of_ble_eq_true rfl⟩ ⟨by omega, by omega⟩ rfl (Nat.le_of_ble_eq_true rfl) dL_law_732 (fun v28 σ29 => ?_)
            show Wo _ _ _ _ _ _ _ _ _ _ [.long v28]
            refine r_lload hC 0 rfl dL_law_735 ?_
            refine r_lcmp hC dL_law_737 (fun v31 => ?_)
            refine r_if_ne hC 745 dL_law_738 (by decide) ?_ ?_
            · refine r_iconst hC (0) rfl dL_law_745 ?_
              refine Wo.sub [] rfl ?_
              exact t_L_law_746 hC hX 0 σ29 _ _ ⟨by omega, by omega⟩
            · refine r_iconst hC (1) rfl dL_law_741 ?_
              refine r_goto hC 746 dL_law_742 (by decide) ?_
              refine Wo.sub [] rfl ?_
              exact t_L_law_746 hC hX 1 σ29 _ _ ⟨by omega, by omega⟩
          · refine Wo.sub [] rfl ?_
            exact t_L_law_729 hC hX  σ25 _ _ ⟨by omega, by omega⟩
  · refine r_aloadn hC 0 (r := (some (gB G))) rfl rfl dL_law_83 ?_
    refine r_iload hC 5 rfl dL_law_84 ?_
    refine r_bipush hC (16) (by decide) dL_law_86 ?_
    refine r_irem hC dL_law_88 (fun v32 => ?_)
    refine call_S hC (av := [va_rf (some (gB G)), .int v32]) (st := []) (ct_L_cell hC.hl G (some (gB G)) v32 σ) q_553 q_554 q_12 q_555 yd_L_cell rfl ⟨Nat.le_of_ble_eq_true rfl, Nat.le_of_ble_eq_true rfl⟩ ⟨by omega, by omega⟩ rfl (Nat.le_of_ble_eq_true rfl) dL_law_89 (fun v33 σ34 => ?_)
    show Wo _ _ _ _ _ _ _ _ _ _ [.int v33]
    refine r_bipush hC (37) (by decide) dL_law_92 ?_
    refine r_iload hC 5 rfl dL_law_94 ?_
    refine r_imul hC dL_law_96 (fun v35 => ?_)
    refine r_iadd hC dL_law_97 (fun v36 => ?_)
    refine r_istore hC [(6, .int v36), (0, va_rf (some (gB G))), (1, va_rf x76_1), (2, .int x76_2), (3, .int x76_3), (4, .int x76_4), (5, .int x76_5)] (i := 6) (by decide) rfl dL_law_98 ?_
    refine r_aloadn hC 1 (r := (some (gB G))) rfl rfl dL_law_100 ?_
    refine r_iconst hC (3) rfl dL_law_101 ?_
    refine r_iload hC 6 rfl dL_law_102 ?_
    refine r_imul hC dL_law_104 (fun v37 => ?_)
    refine r_iconst hC (1) rfl dL_law_105 ?_
    refine r_iadd hC dL_law_106 (fun v38 => ?_)
    refine r_bipush hC (16) (by decide) dL_law_107 ?_
    refine r_irem hC dL_law_109 (fun v39 => ?_)
    refine call_S hC (av := [va_rf (some (gB G)), .int v39]) (st := []) (ct_L_cell hC.hl G (some (gB G)) v39 σ34) q_553 q_554 q_12 q_555 yd_L_cell rfl ⟨Nat.le_of_ble_eq_true rfl, Nat.le_of_ble_eq_true rfl⟩ ⟨by omega, by omega⟩ rfl (Nat.le_of_ble_eq_true rfl) dL_law_110 (fun v40 σ41 => ?_)
    show Wo _ _ _ _ _ _ _ _ _ _ [.int v40]
    refine r_iconst hC (5) rfl dL_law_113 ?_
    refine r_iload hC 6 rfl dL_law_114 ?_
    refine r_imul hC dL_law_116 (fun v42 => ?_)
    refine r_iadd hC dL_law_117 (fun v43 => ?_)
    refine r_istore hC [(7, .int v43), (6, .int v36), (0, va_rf (some (gB G))), (1, va_rf x76_1), (2, .int x76_2), (3, .int x76_3), (4, .int x76_4), (5, .int x76_5)] (i := 7) (by decide) rfl dL_law_118 ?_
    refine r_iload hC 0 rfl dL_law_120 ?_
    refine r_iloadn hC 4 rfl rfl dL_law_122 ?_
    refine call_S hC (av := [.int v43, .int x76_2]) (st := []) (ct_L_below hC.hl G v43 x76_2 σ41) q_549 q_550 q_12 q_551 yd_L_below rfl ⟨Nat.le_of_ble_eq_true rfl, Nat.le_of_ble_eq_true rfl⟩ ⟨by omega, by omega⟩ rfl (Nat.le_of_ble_eq_true rfl) dL_law_123 (fun v44 σ45 => ?_)
    show Wo _ _ _ _ _ _ _ _ _ _ [.int v44]
    refine r_istore hC [(8, .int v44), (7, .int v43), (6, .int v36), (0, va_rf (some (gB G))), (1, va_rf x76_1), (2, .int x76_2), (3, .int x76_3), (4, .int x76_4), (5, .int x76_5)] (i := 8) (by decide) rfl dL_law_126 ?_
    refine r_aloadn hC 4 (r := x76_1) rfl rfl dL_law_128 ?_
    refine r_iconst hC (2) rfl dL_law_129 ?_
    refine call_V hC (av := [.int 2]) (st := []) (r := x76_1) (ci := 4) rfl rfl (fun h9 => ct_X4_many hC.hl G h9 2 σ45) q_394 q_395 q_396 q_13 q_397 yd_X4_many rfl ⟨Nat.le_of_ble_eq_true rfl, Nat.le_of_ble_eq_true rfl⟩ ⟨by omega, by omega⟩ rfl (Nat.le_of_ble_eq_true rfl) dL_law_130 (fun v46 σ47 => ?_)
    show Wo _ _ _ _ _ _ _ _ _ _ [.int v46]
    refine r_if_ne hC 140 dL_law_133 (by decide) ?_ ?_
    · refine r_iload hC 1 rfl dL_law_140 ?_
      refine r_iconst hC (3) rfl dL_law_142 ?_
      refine r_ishr hC dL_law_143 (fun v49 => ?_)
      refine r_aloadn hC 4 (r := x76_1) rfl rfl dL_law_144 ?_
      refine r_iconst hC (2) rfl dL_law_145 ?_
      refine call_V hC (av := [.int 2]) (st := [.int v49]) (r := x76_1) (ci := 4) rfl rfl (fun h9 => ct_X4_many hC.hl G h9 2 σ47) q_394 q_395 q_396 q_13 q_397 yd_X4_many rfl ⟨Nat.le_of_ble_eq_true rfl, Nat.le_of_ble_eq_true rfl⟩ ⟨by omega, by omega⟩ rfl (by simp [cat_rf, cat_i, cat_j, cat_d, cat_a]) dL_law_146 (fun v50 σ51 => ?_)
      show Wo _ _ _ _ _ _ _ _ _ _ [.int v50, .int v49]
      refine call_S hC (av := [.int v49, .int v50]) (st := []) (ct_L_below hC.hl G v49 v50 σ51) q_549 q_550 q_12 q_551 yd_L_below rfl ⟨Nat.le_of_ble_eq_true rfl, Nat.le_of_ble_eq_true rfl⟩ ⟨by omega, by omega⟩ rfl (Nat.le_of_ble_eq_true rfl) dL_law_149 (fun v53 σ54 => ?_)
      show Wo _ _ _ _ _ _ _ _ _ _ [.int v53]
      refine Wo.sub [3, 4, 5, 6, 7, 8, 2, 1, 0] rfl ?_
      exact t_L_law_152 hC hX P76 hm76 k76 hk76 x76_1 x76_2 x76_3 x76_4 x76_5 v36 v43 v44 v53 σ54 _ _ ⟨by omega, by omega⟩ (hm76 _ _ _ _ (by omega) (by omega) hP76)
    · refine r_iconst hC (-1) rfl dL_law_136 ?_
      refine r_goto hC 152 dL_law_137 (by decide) ?_
      refine Wo.sub [3, 4, 5, 6, 7, 8, 2, 1, 0] rfl ?_
      exact t_L_law_152 hC hX P76 hm76 k76 hk76 x76_1 x76_2 x76_3 x76_4 x76_5 v36 v43 v44 (-1) σ47 _ _ ⟨by omega, by omega⟩ (hm76 _ _ _ _ (by omega) (by omega) hP76)

set_option maxRecDepth 100000 in
set_option maxHeartbeats 4000000 in
theorem u_L_law_76 {C : Cxt} {G : Glb} (hC : CX C G RL cL_law 14 ret 14 616891 7250952 524) (hX : Lwa C G) : ∀ (n : Nat) (x76_1 : (Option Nat)) (x76_2 : Int32) (x76_3 : Int32) (x76_4 : Int32) (x76_5 : Int32) (σ : Mem) (kc ks : Nat), (∀ m, n = m + 1 → (kc + m * 2 + 2 ≤ 616891 ∧ ks + m * 10 + 10 ≤ 7250952)) → Wo C G 14 (QL C (gB G)) (l_L_law_76 (gX G) (gL G) (gB G)  n x76_1 x76_2 x76_3 x76_4 x76_5 σ) σ kc ks 76 [(0, va_rf (some (gB G))), (1, va_rf x76_1), (2, .int x76_2), (3, .int x76_3), (4, .int x76_4), (5, .int x76_5)] [] := by
  intro n
  induction n with
  | zero => intro x76_1 x76_2 x76_3 x76_4 x76_5 σ kc ks h0; exact Wo.none
  | succ n ih =>
    intro x76_1 x76_2 x76_3 x76_4 x76_5 σ kc ks h0
    exact t_L_law_76 hC hX (fun kc ks => (∀ m, n = m + 1 → (kc + m * 2 + 2 ≤ 616891 ∧ ks + m * 10 + 10 ≤ 7250952))) (fun a b a2 b2 h1 h2 h m e => ⟨by have := (h m e).1; omega, by have := (h m e).2; omega⟩) (l_L_law_76 (gX G) (gL G) (gB G)  n) ih x76_1 x76_2 x76_3 x76_4 x76_5 σ kc ks ⟨by have := (h0 n rfl).1; omega, by have := (h0 n rfl).2; omega⟩ (fun m e => by
      subst e
      exact ⟨by have := (h0 _ rfl).1; omega, by have := (h0 _ rfl).2; omega⟩)

set_option maxRecDepth 100000 in
set_option maxHeartbeats 4000000 in
theorem t_L_law_22 {C : Cxt} {G : Glb} (hC : CX C G RL cL_law 14 ret 14 616891 7250952 524) (hX : Lwa C G) (P22 : Nat → Nat → Prop) (hm22 : ∀ a b a2 b2 : Nat, a ≤ a2 → b ≤ b2 → P22 a2 b2 → P22 a b) (k22 : (Option Nat) → Int32 → Int32 → Mem → Option ((Int32) × Mem)) (hk22 : ∀ (x22_1 : (Option Nat)) (x22_2 : Int32) (x22_3 : Int32) (σ : Mem) (kc ks : Nat), P22 kc ks → Wo C G 14 (QL C (gB G)) (k22 x22_1 x22_2 x22_3 σ) σ kc ks 22 [(0, va_rf (some (gB G))), (1, va_rf x22_1), (2, .int x22_2), (3, .int x22_3)] []) (x22_1 : (Option Nat)) (x22_2 : Int32) (x22_3 : Int32) (σ : Mem) (kc ks : Nat) (hN : kc + 100 ≤ 616891 ∧ ks + 500 ≤ 7250952) (hP22 : P22 (kc + 0) (ks + 0)) : Wo C G 14 (QL C (gB G)) (b_L_law_22 (gX G) (gL G) (gB G) k22 x22_1 x22_2 x22_3 σ) σ kc ks 22 [(0, va_rf (some (gB G))), (1, va_rf x22_1), (2, .int x22_2), (3, .int x22_3)] [] := by
  unfold b_L_law_22
  refine r_iloadn hC 3 rfl rfl dL_law_22 ?_
  refine r_iloadn hC 2 rfl rfl dL_law_23 ?_
  refine r_icmp_ge hC 68 dL_law_24 (by decide) ?_ ?_
  · refine r_iconst hC (0) rfl dL_law_68 ?_
    refine r_istoren hC [(3, .int 0), (0, va_rf (some (gB G))), (1, va_rf x22_1), (2, .int x22_2)] (i := 3) rfl (by decide) rfl dL_law_69 ?_
    refine r_iconst hC (0) rfl dL_law_70 ?_
    refine r_istore hC [(4, .int 0), (3, .int 0), (0, va_rf (some (gB G))), (1, va_rf x22_1), (2, .int x22_2)] (i := 4) (by decide) rfl dL_law_71 ?_
    refine r_iconst hC (0) rfl dL_law_73 ?_
    refine r_istore hC [(5, .int 0), (4, .int 0), (3, .int 0), (0, va_rf (some (gB G))), (1, va_rf x22_1), (2, .int x22_2)] (i := 5) (by decide) rfl dL_law_74 ?_
    refine Wo.sub [3, 4, 5, 2, 1, 0] rfl ?_
    exact u_L_law_76 hC hX 50 x22_1 x22_2 0 0 0 σ _ _ (fun m e => by cases e; exact ⟨by omega, by omega⟩)
  · refine r_aloadn hC 1 (r := x22_1) rfl rfl dL_law_27 ?_
    refine r_iconst hC (1) rfl dL_law_28 ?_
    refine r_aloadn hC 0 (r := (some (gB G))) rfl rfl dL_law_29 ?_
    refine r_iloadn hC 3 rfl rfl dL_law_30 ?_
    refine r_iconst hC (1) rfl dL_law_31 ?_
    refine r_iadd hC dL_law_32 (fun v185 => ?_)
    refine call_S hC (av := [va_rf (some (gB G)), .int v185]) (st := [.int 1, va_rf x22_1]) (ct_L_cell hC.hl G (some (gB G)) v185 σ) q_553 q_554 q_12 q_555 yd_L_cell rfl ⟨Nat.le_of_ble_eq_true rfl, Nat.le_of_ble_eq_true rfl⟩ ⟨by omega, by omega⟩ rfl (by simp [cat_rf, cat_i, cat_j, cat_d, cat_a]) dL_law_33 (fun v186 σ187 => ?_)
    show Wo _ _ _ _ _ _ _ _ _ _ [.int v186, .int 1, va_rf x22_1]
    refine r_bipush hC (9) (by decide) dL_law_36 ?_
    refine call_S hC (av := [.int v186, .int 9]) (st := [.int 1, va_rf x22_1]) (ct_L_below hC.hl G v186 9 σ187) q_549 q_550 q_12 q_551 yd_L_below rfl ⟨Nat.le_of_ble_eq_true rfl, Nat.le_of_ble_eq_true rfl⟩ ⟨by omega, by omega⟩ rfl (by simp [cat_rf, cat_i, cat_j, cat_d, cat_a]) dL_law_38 (fun v188 σ189 => ?_)
    show Wo _ _ _ _ _ _ _ _ _ _ [.int v188, .int 1, va_rf x22_1]
    refine r_iadd hC dL_law_41 (fun v190 => ?_)
    refine r_aloadn hC 0 (r := (some (gB G))) rfl rfl dL_law_42 ?_
    refine r_iloadn hC 3 rfl rfl dL_law_43 ?_
    refine r_iconst hC (2) rfl dL_law_44 ?_
    refine r_iadd hC dL_law_45 (fun v191 => ?_)
    refine call_S hC (av := [va_rf (some (gB G)), .int v191]) (st := [.int v190, va_rf x22_1]) (ct_L_cell hC.hl G (some (gB G)) v191 σ189) q_553 q_554 q_12 q_555 yd_L_cell rfl ⟨Nat.le_of_ble_eq_true rfl, Nat.le_of_ble_eq_true rfl⟩ ⟨by omega, by omega⟩ rfl (by simp [cat_rf, cat_i, cat_j, cat_d, cat_a]) dL_law_46 (fun v192 σ193 => ?_)
    show Wo _ _ _ _ _ _ _ _ _ _ [.int v192, .int v190, va_rf x22_1]
    refine r_iconst hC (3) rfl dL_law_49 ?_
    refine call_S hC (av := [.int v192, .int 3]) (st := [.int v190, va_rf x22_1]) (ct_L_below hC.hl G v192 3 σ193) q_549 q_550 q_12 q_551 yd_L_below rfl ⟨Nat.le_of_ble_eq_true rfl, Nat.le_of_ble_eq_true rfl⟩ ⟨by omega, by omega⟩ rfl (by simp [cat_rf, cat_i, cat_j, cat_d, cat_a]) dL_law_50 (fun v194 σ195 => ?_)
    show Wo _ _ _ _ _ _ _ _ _ _ [.int v194, .int v190, va_rf x22_1]
    refine call_V hC (av := [.int v190, .int v194]) (st := []) (r := x22_1) (ci := 4) rfl rfl (fun h9 => ct_X4_section hC.hl G h9 v190 v194 σ195) q_224 q_225 q_226 q_13 q_227 yd_X4_section rfl ⟨Nat.le_of_ble_eq_true rfl, Nat.le_of_ble_eq_true rfl⟩ ⟨by omega, by omega⟩ rfl (Nat.le_of_ble_eq_true rfl) dL_law_53 (fun v196 σ197 => ?_)
    show Wo _ _ _ _ _ _ _ _ _ _ [.int v196]
    refine r_iloadn hC 3 rfl rfl dL_law_56 ?_
    refine r_icmp_eq hC 62 dL_law_57 (by decide) ?_ ?_
    · refine r_iinc hC 3 (fun w => [(3, .int w), (0, va_rf (some (gB G))), (1, va_rf x22_1), (2, .int x22_2)]) 1 rfl (by decide) rfl (fun w => rfl) dL_law_62 (fun v199 => ?_)
      refine r_goto hC 22 dL_law_65 (by decide) ?_
      refine Wo.sub [1, 2, 3, 0] rfl ?_
      exact hk22 x22_1 x22_2 v199 σ197 _ _ (hm22 _ _ _ _ (by omega) (by omega) hP22)
    · refine r_iconst hC (0) rfl dL_law_60 ?_
      exact e_law hC hX ⟨by omega, by omega⟩ dL_law_61

set_option maxRecDepth 100000 in
set_option maxHeartbeats 4000000 in
theorem u_L_law_22 {C : Cxt} {G : Glb} (hC : CX C G RL cL_law 14 ret 14 616891 7250952 524) (hX : Lwa C G) : ∀ (n : Nat) (x22_1 : (Option Nat)) (x22_2 : Int32) (x22_3 : Int32) (σ : Mem) (kc ks : Nat), (∀ m, n = m + 1 → (kc + m * 0 + 100 ≤ 616891 ∧ ks + m * 0 + 500 ≤ 7250952)) → Wo C G 14 (QL C (gB G)) (l_L_law_22 (gX G) (gL G) (gB G)  n x22_1 x22_2 x22_3 σ) σ kc ks 22 [(0, va_rf (some (gB G))), (1, va_rf x22_1), (2, .int x22_2), (3, .int x22_3)] [] := by
  intro n
  induction n with
  | zero => intro x22_1 x22_2 x22_3 σ kc ks h0; exact Wo.none
  | succ n ih =>
    intro x22_1 x22_2 x22_3 σ kc ks h0
    exact t_L_law_22 hC hX (fun kc ks => (∀ m, n = m + 1 → (kc + m * 0 + 100 ≤ 616891 ∧ ks + m * 0 + 500 ≤ 7250952))) (fun a b a2 b2 h1 h2 h m e => ⟨by have := (h m e).1; omega, by have := (h m e).2; omega⟩) (l_L_law_22 (gX G) (gL G) (gB G)  n) ih x22_1 x22_2 x22_3 σ kc ks ⟨by have := (h0 n rfl).1; omega, by have := (h0 n rfl).2; omega⟩ (fun m e => by
      subst e
      exact ⟨by have := (h0 _ rfl).1; omega, by have := (h0 _ rfl).2; omega⟩)

set_option maxRecDepth 100000 in
set_option maxHeartbeats 4000000 in
theorem t_L_law_0 {C : Cxt} {G : Glb} (hC : CX C G RL cL_law 14 ret 14 616891 7250952 524) (hX : Lwa C G) (σ : Mem) (kc ks : Nat) (hN : kc + 221 ≤ 616891 ∧ ks + 1217 ≤ 7250952) : Wo C G 14 (QL C (gB G)) (b_L_law_0 (gX G) (gL G) (gB G)   σ) σ kc ks 0 [(0, va_rf (some (gB G)))] [] := by
  unfold b_L_law_0
  refine r_nO hC cls_4 q_25 q_26 q_13 ⟨by omega, by omega⟩ dL_law_0 (fun σ1 r2 => ?_)
  refine r_dup hC (cat_rf _) dL_law_3 ?_
  refine call_I hC (av := []) (st := [va_rf r2]) (r := r2) (ci := 4) (fun h9 => ct_X4_init hC.hl G h9 σ1) q_27 q_28 q_13 q_29 rfl yd_X4_init rfl ⟨Nat.le_of_ble_eq_true rfl, Nat.le_of_ble_eq_true rfl⟩ ⟨by omega, by omega⟩ rfl (by simp [cat_rf, cat_i, cat_j, cat_d, cat_a]) dL_law_4 (fun σ4 => ?_)
  refine r_astoren hC [(1, va_rf r2), (0, va_rf (some (gB G)))] (r := r2) (i := 1) rfl (by decide) rfl dL_law_7 ?_
  refine r_iconst hC (1) rfl dL_law_8 ?_
  refine r_aloadn hC 1 (r := (some (gB G))) rfl rfl dL_law_9 ?_
  refine r_iconst hC (0) rfl dL_law_10 ?_
  refine call_S hC (av := [va_rf (some (gB G)), .int 0]) (st := [.int 1]) (ct_L_cell hC.hl G (some (gB G)) 0 σ4) q_553 q_554 q_12 q_555 yd_L_cell rfl ⟨Nat.le_of_ble_eq_true rfl, Nat.le_of_ble_eq_true rfl⟩ ⟨by omega, by omega⟩ rfl (by simp [cat_rf, cat_i, cat_j, cat_d, cat_a]) dL_law_11 (fun v6 σ7 => ?_)
  show Wo _ _ _ _ _ _ _ _ _ _ [.int v6, .int 1]
  refine r_iconst hC (4) rfl dL_law_14 ?_
  refine call_S hC (av := [.int v6, .int 4]) (st := [.int 1]) (ct_L_below hC.hl G v6 4 σ7) q_549 q_550 q_12 q_551 yd_L_below rfl ⟨Nat.le_of_ble_eq_true rfl, Nat.le_of_ble_eq_true rfl⟩ ⟨by omega, by omega⟩ rfl (by simp [cat_rf, cat_i, cat_j, cat_d, cat_a]) dL_law_15 (fun v8 σ9 => ?_)
  show Wo _ _ _ _ _ _ _ _ _ _ [.int v8, .int 1]
  refine r_iadd hC dL_law_18 (fun v10 => ?_)
  refine r_istoren hC [(2, .int v10), (1, va_rf r2), (0, va_rf (some (gB G)))] (i := 2) rfl (by decide) (by simp [List.filter, cat_rf, cat_i, cat_j, cat_d, cat_a]) dL_law_19 ?_
  refine r_iconst hC (0) rfl dL_law_20 ?_
  refine r_istoren hC [(3, .int 0), (2, .int v10), (1, va_rf r2), (0, va_rf (some (gB G)))] (i := 3) rfl (by decide) rfl dL_law_21 ?_
  refine Wo.sub [3, 2, 1, 0] rfl ?_
  exact u_L_law_22 hC hX 6 r2 v10 0 σ9 _ _ (fun m e => by cases e; exact ⟨by omega, by omega⟩)
