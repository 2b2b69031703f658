/-! WHAT HOLDS AT THE LAW'S ENTRY, out of the tables' words and the start -/
theorem tb_in {w : Cond} (i : Nat) (h : tables_1[i]? = some w) : w ∈ lw_tbl := List.mem_append_right _ (List.mem_of_getElem? h)
theorem k0_arr {args : Array Value} {s : State} {ty : FieldType} (h : (Cond.arrayClass ty).before args s = true) (hr : ∀ cA : ClassId, s.vm.findClass ("[" ++ ty.toString) = some cA → va_RA s cA ty) : ∃ cA : ClassId, ArrOfT s cA ty ∧ va_RA s cA ty := by
  obtain ⟨cA, kA, comp, h1, h2, h3⟩ := Cond.arrayClass_spec h
  exact ⟨cA, fun n z => ⟨(fun k q => by cases q), kA, h2, comp, h3⟩, hr cA h1⟩
theorem k0_obj {args : Array Value} {s : State} {C : String} (h : (Cond.arrayOver (.object C)).before args s = true) : ∃ cA : ClassId, ArrOfT s cA (.object C) ∧ va_RA s cA (.object C) := by
  obtain ⟨comp, cA, kA, h1, h2, h3, h4, h5⟩ := Cond.arrayOver_spec h
  exact ⟨cA, fun n z => ⟨(fun k q => by cases q), kA, h3, comp, h4⟩, kA, comp, h3, h4, h1, h5⟩
theorem k0_K {args : Array Value} {s : State} (hts : ∀ w ∈ lw_tbl, w.before args s = true) : ∃ (D : va_G) (aC : Nat → ClassId), va_K D vwCl (tysG (D, aC, 0, 0, 0)) s := by
  have hu : ∀ w ∈ uW, w.before args s = true := fun w hw => hts w (List.mem_filter.mp hw).1
  obtain ⟨c0, i0, h0⟩ := u_known hu cls_0.2.1 (hts (.instantiable RJx35411 4) (tb_in 960 (by decide +kernel)))
  obtain ⟨c1, i1, h1⟩ := u_known hu cls_1.2.1 (hts (.instantiable RJx4a65c 3) (tb_in 754 (by decide +kernel)))
  obtain ⟨c2, i2, h2⟩ := u_known hu cls_2.2.1 (hts (.instantiable RX0 4) (tb_in 44 (by decide +kernel)))
  obtain ⟨c3, i3, h3⟩ := u_known hu cls_3.2.1 (hts (.instantiable RX1 16) (tb_in 38 (by decide +kernel)))
  obtain ⟨c4, i4, h4⟩ := u_known hu cls_4.2.1 (hts (.instantiable RX2 8) (tb_in 132 (by decide +kernel)))
  obtain ⟨c5, i5, h5⟩ := u_known hu cls_5.2.1 (hts (.instantiable RX3 3) (tb_in 170 (by decide +kernel)))
  obtain ⟨c6, i6, h6⟩ := u_known hu cls_6.2.1 (hts (.instantiable RX4 12) (tb_in 27 (by decide +kernel)))
  obtain ⟨c7, i7, h7⟩ := u_known hu cls_7.2.1 (hts (.instantiable RX5 15) (tb_in 1050 (by decide +kernel)))
  obtain ⟨c8, i8, h8⟩ := u_known hu cls_8.2.1 (hts (.instantiable RX6 7) (tb_in 857 (by decide +kernel)))
  obtain ⟨c9, i9, h9⟩ := u_known hu cls_9.2.1 (hts (.instantiable RX7 3) (tb_in 784 (by decide +kernel)))
  obtain ⟨c10, i10, h10⟩ := u_known hu cls_10.2.1 (hts (.instantiable RX8 10) (tb_in 748 (by decide +kernel)))
  obtain ⟨a0, g0⟩ := k0_arr (ty := .int) (hts _ (tb_in 64 (by decide +kernel))) (fun _ h => h)
  obtain ⟨a1, g1⟩ := k0_arr (ty := .long) (hts _ (tb_in 1427 (by decide +kernel))) (fun _ h => h)
  obtain ⟨a2, g2⟩ := k0_obj (C := RX1) (hts _ (tb_in 37 (by decide +kernel)))
  obtain ⟨a3, g3⟩ := k0_obj (C := RX2) (hts _ (tb_in 35 (by decide +kernel)))
  obtain ⟨a4, g4⟩ := k0_obj (C := RX3) (hts _ (tb_in 131 (by decide +kernel)))
  obtain ⟨a5, g5⟩ := k0_obj (C := RX7) (hts _ (tb_in 783 (by decide +kernel)))
  obtain ⟨a6, g6⟩ := k0_obj (C := "java/lang/Object") (hts _ (tb_in 940 (by decide +kernel)))
  refine ⟨(fun k => [c0, c1, c2, c3, c4, c5, c6, c7, c8, c9, c10].getD k c0, fun k => [i0, i1, i2, i3, i4, i5, i6, i7, i8, i9, i10].getD k i0), fun k => [a0, a1, a2, a3, a4, a5, a6].getD k a0, ?_, ?_⟩
  · intro k q hq
    rcases (show k = 0 ∨ k = 1 ∨ k = 2 ∨ k = 3 ∨ k = 4 ∨ k = 5 ∨ k = 6 ∨ k = 7 ∨ k = 8 ∨ k = 9 ∨ k = 10 by have := vwCl_len hq; omega) with rfl | rfl | rfl | rfl | rfl | rfl | rfl | rfl | rfl | rfl | rfl
    · cases hq; exact h0
    · cases hq; exact h1
    · cases hq; exact h2
    · cases hq; exact h3
    · cases hq; exact h4
    · cases hq; exact h5
    · cases hq; exact h6
    · cases hq; exact h7
    · cases hq; exact h8
    · cases hq; exact h9
    · cases hq; exact h10
  · intro k q hq
    have hk : k < 7 := (List.getElem?_eq_some_iff.mp hq).1
    rcases (show k = 0 ∨ k = 1 ∨ k = 2 ∨ k = 3 ∨ k = 4 ∨ k = 5 ∨ k = 6 by omega) with rfl | rfl | rfl | rfl | rfl | rfl | rfl
    · cases hq; exact g0
    · cases hq; exact g1
    · cases hq; exact g2
    · cases hq; exact g3
    · cases hq; exact g4
    · cases hq; exact g5
    · cases hq; exact g6
/-- all that a walk rests on; e0: the empty array -/
theorem k0_KB {args : Array Value} {s : State} (hts : ∀ w ∈ lw_tbl, w.before args s = true) (hgv : (Jvm.Cond.and given_1 narrow_1).before args s = true) : ∃ (D : va_G) (aC : Nat → ClassId) (e0 mi : Nat), KB (D, aC, s.heap.size, e0, mi) s ∧ e0 < s.heap.size := by
  obtain ⟨D, aC, hK⟩ := k0_K hts
  have hq := flat_of_before _ hgv
  obtain ⟨mi, hM⟩ := va_Mi.of (hq (.isRef (.mirror "[Ljava/lang/Object;")) (by decide +kernel))
  have hA : ∀ a : Nat, a < s.heap.size → ¬ s.heap.size ≤ a := fun a h => Nat.not_le.mpr h
  have iA := hts (.initialized "java/util/ArrayList") (tb_in 9 (by decide +kernel))
  have iT := hts (.initialized Bundle.tN) (tb_in 11 (by decide +kernel))
  obtain ⟨e0, he, hT⟩ := va_Tof (N := 0) (f := fun _ => .null) (ty := .object "java/lang/Object") (A := fun q : Nat => s.heap.size ≤ q) (by decide) (hq (.arrayOf (.static "java/util/ArrayList" "DEFAULTCAPACITY_EMPTY_ELEMENTDATA" "[Ljava/lang/Object;") (.object "java/lang/Object")) (by decide +kernel)) (va_eqt (hq (.eq (.length (.static "java/util/ArrayList" "DEFAULTCAPACITY_EMPTY_ELEMENTDATA" "[Ljava/lang/Object;")) (.int 0)) (by decide +kernel))) (fun j hj => absurd hj (Nat.not_lt_zero j)) hA
  have hsz : e0 < s.heap.size := by
    obtain ⟨cell, h1, -⟩ := hT
    exact (Array.getElem?_eq_some_iff.mp h1).1
  refine ⟨D, aC, e0, mi, ⟨⟨hK, fun w hw hg => va_Nw.of (ng_tab hg) (hts w hw), ⟨?_, ?_, ?_, ?_, ?_⟩, ⟨?_, ?_, ?_⟩, hM, va_Dc.of (hts _ (tb_in 1446 (by decide +kernel))), ?_, ?_, ?_⟩, ?_, ?_, ?_, hT⟩, hsz⟩
  · exact va_AO.of (hts _ (tb_in 37 (by decide +kernel)))
  · exact va_AO.of (hts _ (tb_in 35 (by decide +kernel)))
  · exact va_AO.of (hts _ (tb_in 131 (by decide +kernel)))
  · exact va_AO.of (hts _ (tb_in 783 (by decide +kernel)))
  · exact va_AO.of (hts _ (tb_in 940 (by decide +kernel)))
  · exact va_Fw.of (hts _ (tb_in 981 (by decide +kernel))) (hts _ (tb_in 980 (by decide +kernel))) (hts _ (tb_in 986 (by decide +kernel))) (hts _ (tb_in 984 (by decide +kernel))) (hts _ (tb_in 982 (by decide +kernel)))
  · exact va_Fw.of (hts _ (tb_in 991 (by decide +kernel))) (hts _ (tb_in 990 (by decide +kernel))) (hts _ (tb_in 995 (by decide +kernel))) (hts _ (tb_in 993 (by decide +kernel))) (hts _ (tb_in 982 (by decide +kernel)))
  · exact va_Fw.of (hts _ (tb_in 1208 (by decide +kernel))) (hts _ (tb_in 1207 (by decide +kernel))) (hts _ (tb_in 1213 (by decide +kernel))) (hts _ (tb_in 1211 (by decide +kernel))) (hts _ (tb_in 1209 (by decide +kernel)))
  · exact va_Nc.of (hq (.not (.castable "java/lang/IllegalStateException" "java/lang/IllegalArgumentException")) (by decide +kernel))
  · exact va_Nc.of (hq (.not (.castable "java/lang/IllegalArgumentException" "java/lang/IndexOutOfBoundsException")) (by decide +kernel))
  · exact va_Nc.of (hq (.not (.castable "java/lang/IllegalStateException" "java/lang/IndexOutOfBoundsException")) (by decide +kernel))
  · exact vx_Zqof (hts _ (tb_in 302 (by decide +kernel))) iT (hq (.isRef (.static Bundle.tN "UNASSIGNED_STACK" Bundle.steD)) (by decide +kernel)) hA
  · exact vx_Zqof (hts _ (tb_in 304 (by decide +kernel))) iT (hq (.isRef (.static Bundle.tN "SUPPRESSED_SENTINEL" Bundle.listD)) (by decide +kernel)) hA
  · exact va_Zref (hts _ (tb_in 766 (by decide +kernel))) iA he hA
/-- the memory at the start: of the cells that stand, only the empty array has a name -/
def mem0 (n e0 : Nat) : Mem := (fun _ _ => 0, fun _ _ => none, fun _ _ => 0, fun a => if a = e0 then (300, 0) else (0, 0), n)
theorem k0_mem {G : Glb} {H : Heap} {n e0 : Nat} (hn : H.size = n) (hG : G.2.2.1 ≤ n) (he : e0 < n) : memK G (mem0 n e0) H := by
  have t : ∀ a, (mT (mem0 n e0) a).1 = if a = e0 then 300 else 0 := by
    intro a
    show (if a = e0 then ((300, 0) : Nat × Nat) else (0, 0)).1 = _
    split <;> rfl
  refine ⟨hn, fun a => ⟨fun ci r h1 h2 => ?_, fun k h1 h2 => ?_⟩, fun a ha => ?_, fun a h1 h2 => ?_, hG⟩
  · rw [t a] at h1
    have := vwCl_len h2
    split at h1 <;> omega
  · rw [t a] at h1
    split at h1 <;> omega
  · rw [t a, if_neg]
    have : n ≤ a := ha
    omega
  · rw [t a] at h1 h2
    split at h1 <;> rename_i q
    · rw [if_pos q] at h2; omega
    · omega
set_option maxHeartbeats 4000000 in
/-- from the entry, for every script of at most 2560 ints, the law comes to its end with true -/
theorem whole_start {p : Program} {e : Env} {s : State} {m : MethodId} {below : List Frame} {meth : Method} {c : Code} (l : Launch) (hflags : l.flags = flags0) {b L : Nat} {xs : Nat → Int32} (hL : L ≤ 2560) (C0 : lw_At p s m meth c b L xs) : W p l e room_1 s m #[Value.ref b] below meth c s.heap [] 0 0 (lw_Z below #[Value.ref b] s) (entryFrame m ([Value.ref b] : List Value).toArray 9) := by
  obtain ⟨hx, hb, hr, hml, hown, hts, hX, hbl, hlocks, hgv⟩ := C0
  obtain ⟨D, aC, e0, mi, hKB, hsz⟩ := k0_KB hts hgv
  have hst : l.stackTraces = false := by
    unfold Launch.stackTraces
    rw [hflags]
    decide +kernel
  have hl := lv_entry ([.ref b]) (n := 9) (Nat.le_of_ble_eq_true rfl)
  rw [lg_entry_eq]
  generalize (lg_sl ([.ref b]) ++ List.replicate (9 - (lg_sl ([.ref b])).length) Slot.unset).toArray = ls at hl ⊢
  have hl : lv_has ls 9 [(0, .ref b)] := hl
  have hC : CX (p, l, e, room_1, s, m, #[.ref b], below, meth, c) (D, aC, s.heap.size, e0, mi) RL cL_law 9 ret 14 686331 7037111 554 := ⟨hx, hb, hml, hown, fun w hw => hts w (List.mem_filter.mp hw).1, hKB, hlocks, hr, rfl, hst, Nat.le_refl _⟩
  have hS : Scr (p, l, e, room_1, s, m, #[.ref b], below, meth, c) (D, aC, s.heap.size, e0, mi) b L xs := ⟨hX, hbl, Nat.not_le.mpr hbl, rfl, Nat.le_refl _⟩
  obtain ⟨σ2, F⟩ := law_yes (mi := mi) (xs := xs) (b9 := b) (σ := mem0 s.heap.size e0) hL (show (if e0 = e0 then ((300, 0) : Nat × Nat) else (0, 0)) = (300, 0) from if_pos rfl) hsz
  exact t_L_law_0 hC hS (mem0 s.heap.size e0) 0 0 ⟨by omega, by omega⟩ _ F rfl s.heap [] (k0_mem rfl (Nat.le_refl _) hsz) va_S.rf ls hl
set_option maxHeartbeats 4000000 in
theorem lw_walk (l : Launch) (hflags : l.flags = flags0) (b : Addr) (xs : List Int32) : MetFree l x (headSpec (Jvm.Cond.code x code maxLocals ret :: tables_1) room_1) (lw_P b xs) (fun _ _ _ _ _ => True) lw_Q := by
  refine MetFree.of_bodyS (code := code) (maxLocals := maxLocals) (ret := ret) (by decide) ?_ ?_
  · intro args s m h hn
    obtain ⟨meth, c, h1, h2, h3, h4, h5, h6, -, -⟩ := Cond.code_spec hn (atoms_spec (ws := Jvm.Cond.code x code maxLocals ret :: tables_1) h _ List.mem_cons_self)
    exact ⟨meth, c, h1, h2, h3, h4, h5, h6⟩
  · intro p e s m args below meth c s₁ B hml0 hP _
    obtain ⟨rfl, hx, hbd, hgv⟩ := hP
    obtain ⟨scr, harrAt, hlist, hof, hsmall⟩ := hx
    obtain ⟨hcb, hkn, -, -⟩ := State.arrayAt?_spec harrAt
    have hown : s.vm.findClass R_law = some m.cls := findClass_of_methodNamed B.named
    have hts0 : ∀ c ∈ (Jvm.Cond.code x code maxLocals ret :: tables_1), c.before #[Value.ref b] s = true := atoms_spec (ws := Jvm.Cond.code x code maxLocals ret :: tables_1) B.pre
    have hts : ∀ w ∈ lw_tbl, w.before #[Value.ref b] s = true := k2_hts_sels lw_privs (fun w hw => hts0 w (List.mem_cons_of_mem _ hw)) lw_privs_ok
    have hml : c.maxLocals = 9 := B.maxLocals_eq (hts0 _ List.mem_cons_self)
    have X₀ : Stand p l e room_1 s m #[Value.ref b] below meth c s₁ [] 0 0 := Stand.of_body B
    have hh0 : s₁.heap = s.heap := by rw [B.state]; rfl
    have hsz : scr.slots.size = xs.length := by rw [← Array.length_toList, hlist, List.length_map]
    have hval : ∀ j : Nat, j < xs.length → scr.slots[j]? = some (.int (xs.getD j 0)) := fun j hj => by
      rw [← Array.getElem?_toList, hlist]
      simp [hj]
    have hbl : b < s.heap.size := (Array.getElem?_eq_some_iff.mp hcb).1
    have hX : va_X b xs.length (fun j => xs.getD j 0) s s.heap := ⟨scr, hcb, hof, hkn, hsz, hval⟩
    have K : W p l e room_1 s m #[Value.ref b] below meth c s₁.heap [] 0 0 (lw_Z below #[Value.ref b] s) (entryFrame m ([Value.ref b] : List Value).toArray 9) := by
      rw [hh0]
      exact whole_start l hflags hbd ⟨B.exec, B.bytes, B.returns, hml, hown, hts, hX, hbl, B.notSynchronized, hgv⟩
    obtain ⟨t, a1, o, b1, b2, b3⟩ := K s₁ rfl X₀
    exact ⟨t, o, a1, b1, b2, b3⟩
theorem lw_pre_spec {args : Array Value} {s : State} (h : (Jvm.Cond.and given_1 narrow_1).before args s = true) (hr : rest_1_c.before args s = true) : ∃ (b : Addr) (xs : List Int32), lw_P b xs args s := by
  have hs := flat_of_before _ h
  have hq := flat_of_before _ hr
  have hc : (Cond.count 1).before args s = true := hs _ (by decide +kernel)
  have harr : (Cond.arrayOf (.arg 0) .int).before args s = true := hs _ (by decide +kernel)
  have hle : (Cond.le (.length (.arg 0)) (.int 2560)).before args s = true := hs _ (by decide +kernel)
  have hlen : (Cond.isInt (.length (.arg 0))).before args s = true := hq _ (by decide +kernel)
  have hall : (Cond.all (.arg 0) (.isInt (.elem (.arg 0) (.index 0)))).before args s = true := hq _ (by decide +kernel)
  obtain ⟨b, xs, hb, hx⟩ := State.ints_of_pre rfl harr hlen hall
  have hsm : xs.length < 2 ^ 31 := hx.choose_spec.2.2.2
  have hev : (Term.length (.arg 0)).eval args s none [] s = some (.int xs.length.toInt32) := hx.length_eval hb
  have hv := Cond.le_ints hev (show (Term.int 2560).eval args s none [] s = some (.int 2560) from rfl)
  have hd : xs.length.toInt32 ≤ 2560 := by
    simpa [Cond.before, Cond.holds, hv] using hle
  have hN : xs.length ≤ 2560 := (Int32.ofNat_le_ofNat hsm (by decide)).mp (show Int32.ofNat xs.length ≤ Int32.ofNat 2560 from hd)
  exact ⟨b, xs, Cond.one_arg hc (show args[0]? = some (.ref b) from hb), hx, hN, h⟩
theorem lw_comes (l : Launch) (hflags : l.flags = flags0) : Comes l x (Jvm.Cond.code x code maxLocals ret :: tables_1) room_1 (fun tb e args s => Calls_1 tb e args s ∧ rest_1 tb e args s ∧ Pre_1 tb e args s)
    (fun _ _ args s o t => lw_Q args s o t) := by
  intro p e ha hc hk s m args below hf hfit hheap happ hpre
  obtain ⟨b, xs, hP⟩ := lw_pre_spec hpre.2.2 hpre.2.1
  obtain ⟨k, o, h1, h2, h3, hQ⟩ := lw_walk l hflags b xs p e ha hc hk s m args below hf ((Spec.applies_iff_loose hf).mp happ).1 hP trivial
  exact ⟨k, o, h1, h2, h3, hQ⟩
theorem lw_frame {s t : State} {o : Outcome} {args : Array Value} (h : State.butDraws s t lw_cs (fun t1 => Framed s o t1 [] 686331 7037111)) :
    State.butDraws s t [Jvm.Choice.named "NaN.bits"] (fun t1 => Framed s o t1 (fieldLocs frame_1_writes args s ++ arrayLocs frame_1_arrays args s ++ staticLocs frame_1_statics s) 686331 7037111) := h
theorem lw_limb (L : Cond) (hL : ∀ (args : Array Value) (s t : State), L.after args s (.returned (some (.int 1))) t = true) :
    ArmFor flags0 classFile x code maxLocals ret World_1 tables_1 room_1 Calls_1 rest_1 Pre_1
      (fun tb e a s o t => postC L tb e a s o t ∧ State.butDraws s t [Jvm.Choice.named "NaN.bits"] (fun t1 => Framed s o t1 (fieldLocs frame_1_writes a s ++ arrayLocs frame_1_arrays a s ++ staticLocs frame_1_statics s) 686331 7037111)) := by
  intro l hflags _ _ p e ha hc hk s m args below hf hfit hheap happ hpre
  obtain ⟨k, o, h1, h2, h3, rfl, hF⟩ := lw_comes l hflags p e ha hc hk s m args below hf hfit hheap happ hpre
  exact ⟨k, _, h1, h2, h3, hL args s _, lw_frame hF⟩
theorem i_vc : Claimed_1_1 ∧ Claimed_1_2 := ⟨lw_limb limb_1_1 (fun args s t => by simp [limb_1_1, Cond.after, Cond.holds, Cond.value]), lw_limb limb_1_2 (fun args s t => Cond.after_iff.mpr (by
  first | (rw [show limb_1_2 = Cond.eq .result (.int 1) from rfl, Cond.eq_ints (x := 1) (y := 1) rfl rfl]; simp; done) | (simp [limb_1_2, Cond.value, Term.eval]; done)))⟩
