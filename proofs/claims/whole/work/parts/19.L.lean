noncomputable def b_L_section_0 (p0 : (Option Nat)) (p1 : Int32) (p2 : Int32) (p3 : (Option Nat)) (σ : Mem) : Option ((Int32) × Mem) :=
ob 6 σ p0 fun h3 => cx1 (f_X4_section h3 p1 p2 σ) (fun v1 σ2 =>
nm (v1.toInt64) fun v4 =>
wJ σ2 p3 0 v4 fun σ5 =>
some (0, σ5)) (fun k9 σ9 => if k9 = 1 then
some (1, σ9)
else if k9 = 2 then
some (2, σ9)
else none)

noncomputable def f_L_section (p0 : (Option Nat)) (p1 : Int32) (p2 : Int32) (p3 : (Option Nat)) (σ : Mem) : Option ((Int32) × Mem) := b_L_section_0 p0 p1 p2 p3 σ
set_option maxRecDepth 100000 in
set_option maxHeartbeats 4000000 in
theorem t_L_section_0 {C : Cxt} {G : Glb} (hC : CX C G RL cL_section 5 (some .int) 8 1 6 126) (hE : (cC C).exceptionTable.toList.map (fun h => (h.startPc, h.endPc, h.handlerPc, h.catchType)) = [(0, 10, 13, 13), (0, 10, 17, 15)]) (p0 : (Option Nat)) (p1 : Int32) (p2 : Int32) (p3 : (Option Nat)) (σ : Mem) (kc ks : Nat) (hN : kc + 1 ≤ 1 ∧ ks + 6 ≤ 6) : Wo C G 5 (QP C G rvI 1 6) (b_L_section_0  p0 p1 p2 p3 σ) σ kc ks 0 [(0, va_rf p0), (1, .int p1), (2, .int p2), (3, va_rf p3)] [] := by
  unfold b_L_section_0
  refine r_aloadn hC 3 (r := p3) rfl rfl dL_section_0 ?_
  refine r_iconst hC (0) rfl dL_section_1 ?_
  refine r_aloadn hC 0 (r := p0) rfl rfl dL_section_2 ?_
  refine r_iloadn hC 1 rfl rfl dL_section_3 ?_
  refine r_iloadn hC 2 rfl rfl dL_section_4 ?_
  refine callH_V hC hE (av := [.int p1, .int p2]) (st := [.int 0, va_rf p3]) (r := p0) (ci := 6) rfl rfl (fun h9 => ct_X4_section hC.hl G h9 p1 p2 σ) q_550 q_551 q_552 q_39 q_553 yd_X4_section rfl ⟨Nat.le_of_ble_eq_true rfl, Nat.le_of_ble_eq_true rfl⟩ ⟨by omega, by omega⟩ ⟨by omega, by omega⟩ rfl (by simp [cat_rf, cat_i, cat_j, cat_d, cat_a]) dL_section_5 (fun k9 σ9 => ?_) (fun v1 σ2 => ?_)
  · by_cases g1 : k9 = 1
    · subst g1
      refine Or.inr ⟨13, ⟨[], [(0, 10, 17, 15)], _, _, _, rfl, by decide, by decide, q_548, z_315, fun z hz => absurd hz List.not_mem_nil⟩, fun q9 => ?_⟩
      show Wo _ _ _ _ (if 1 = 1 then some (1, σ9) else if 1 = 2 then some (2, σ9) else none) _ _ _ _ _ _
      refine r_astore hC [(4, va_rf (some q9)), (0, va_rf p0), (1, .int p1), (2, .int p2), (3, va_rf p3)] (r := (some q9)) (i := 4) (by decide) (by simp [List.filter, cat_rf, cat_i, cat_j, cat_d, cat_a]) dL_section_13 ?_
      refine r_iconst hC (1) rfl dL_section_15 ?_
      exact e_I hC ⟨by omega, by omega⟩ dL_section_16
    by_cases g2 : k9 = 2
    · subst g2
      refine Or.inr ⟨17, ⟨[(0, 10, 13, 13)], [], _, _, _, rfl, by decide, by decide, q_549, z_441, fun z hz => by
          simp only [List.mem_cons, List.not_mem_nil, or_false] at hz
          rcases hz with rfl
          · exact ⟨by decide, 1, q_548, hC.hK.1.2.2.2.2.2.2.1⟩
    ⟩, fun q9 => ?_⟩
      show Wo _ _ _ _ (if 2 = 1 then some (1, σ9) else if 2 = 2 then some (2, σ9) else none) _ _ _ _ _ _
      refine r_astore hC [(4, va_rf (some q9)), (0, va_rf p0), (1, .int p1), (2, .int p2), (3, va_rf p3)] (r := (some q9)) (i := 4) (by decide) (by simp [List.filter, cat_rf, cat_i, cat_j, cat_d, cat_a]) dL_section_17 ?_
      refine r_iconst hC (2) rfl dL_section_19 ?_
      exact e_I hC ⟨by omega, by omega⟩ dL_section_20
    exact Or.inl (by simp only [if_neg g1, if_neg g2])
  · show Wo _ _ _ _ _ _ _ _ _ _ [.int v1, .int 0, va_rf p3]
    refine r_i2l hC dL_section_8 (fun v4 => ?_)
    refine r_wJ hC (r := p3) dL_section_9 (fun σ5 => ?_)
    refine r_goto hC 21 dL_section_10 (by decide) ?_
    refine r_iconst hC (0) rfl dL_section_21 ?_
    exact e_I hC ⟨by omega, by omega⟩ dL_section_22

set_option maxRecDepth 100000 in
set_option maxHeartbeats 4000000 in
theorem ct_L_section {l : Launch} (hl : l.stackTraces = false) (G : Glb) (p0 : (Option Nat)) (p1 : Int32) (p2 : Int32) (p3 : (Option Nat)) (σ : Mem) : Ct rvI l yL_section (Cond.codeWith yL_section cL_section 5 (some .int) [(0, 10, 13, 13), (0, 10, 17, 15)] :: uW) { frames := 8, cells := 1, slots := 6, locals := 126 } 1 6 G [va_rf p0, .int p1, .int p2, va_rf p3] σ (f_L_section p0 p1 p2 p3 σ) := by
  refine Ct.ofW hl (by decide +kernel) (by simp [lg_sl, cat_rf, cat_i, cat_j, cat_d, cat_a]) (fun C hC hE => ?_)
  have e : lv_args 0 [va_rf p0, .int p1, .int p2, va_rf p3] = [(0, va_rf p0), (1, .int p1), (2, .int p2), (3, va_rf p3)] := by simp [lv_args, cat_rf, cat_i, cat_j, cat_d, cat_a]
  rw [e]
  exact t_L_section_0 hC hE p0 p1 p2 p3 σ 0 0 ⟨Nat.le_of_ble_eq_true rfl, Nat.le_of_ble_eq_true rfl⟩

noncomputable def b_L_pass_0 (p0 : (Option Nat)) (p1 : Int32) (p2 : Int32) (p3 : Int32) (p4 : (Option Nat)) (σ : Mem) : Option ((Int32) × Mem) :=
ob 6 σ p0 fun h3 => cx1 (f_X4_pass h3 p1 p2 p3 σ) (fun v1 σ2 =>
nm (v1.toInt64) fun v4 =>
wJ σ2 p4 0 v4 fun σ5 =>
some (0, σ5)) (fun k9 σ9 => if k9 = 1 then
some (1, σ9)
else none)

noncomputable def f_L_pass (p0 : (Option Nat)) (p1 : Int32) (p2 : Int32) (p3 : Int32) (p4 : (Option Nat)) (σ : Mem) : Option ((Int32) × Mem) := b_L_pass_0 p0 p1 p2 p3 p4 σ
set_option maxRecDepth 100000 in
set_option maxHeartbeats 4000000 in
theorem t_L_pass_0 {C : Cxt} {G : Glb} (hC : CX C G RL cL_pass 6 (some .int) 8 1 6 129) (hE : (cC C).exceptionTable.toList.map (fun h => (h.startPc, h.endPc, h.handlerPc, h.catchType)) = [(0, 12, 15, 13)]) (p0 : (Option Nat)) (p1 : Int32) (p2 : Int32) (p3 : Int32) (p4 : (Option Nat)) (σ : Mem) (kc ks : Nat) (hN : kc + 1 ≤ 1 ∧ ks + 6 ≤ 6) : Wo C G 6 (QP C G rvI 1 6) (b_L_pass_0  p0 p1 p2 p3 p4 σ) σ kc ks 0 [(0, va_rf p0), (1, .int p1), (2, .int p2), (3, .int p3), (4, va_rf p4)] [] := by
  unfold b_L_pass_0
  refine r_aload hC 4 (r := p4) rfl dL_pass_0 ?_
  refine r_iconst hC (0) rfl dL_pass_2 ?_
  refine r_aloadn hC 0 (r := p0) rfl rfl dL_pass_3 ?_
  refine r_iloadn hC 1 rfl rfl dL_pass_4 ?_
  refine r_iloadn hC 2 rfl rfl dL_pass_5 ?_
  refine r_iloadn hC 3 rfl rfl dL_pass_6 ?_
  refine callH_V hC hE (av := [.int p1, .int p2, .int p3]) (st := [.int 0, va_rf p4]) (r := p0) (ci := 6) rfl rfl (fun h9 => ct_X4_pass hC.hl G h9 p1 p2 p3 σ) q_557 q_558 q_559 q_39 q_560 yd_X4_pass rfl ⟨Nat.le_of_ble_eq_true rfl, Nat.le_of_ble_eq_true rfl⟩ ⟨by omega, by omega⟩ ⟨by omega, by omega⟩ rfl (by simp [cat_rf, cat_i, cat_j, cat_d, cat_a]) dL_pass_7 (fun k9 σ9 => ?_) (fun v1 σ2 => ?_)
  · by_cases g1 : k9 = 1
    · subst g1
      refine Or.inr ⟨15, ⟨[], [], _, _, _, rfl, by decide, by decide, q_548, z_315, fun z hz => absurd hz List.not_mem_nil⟩, fun q9 => ?_⟩
      show Wo _ _ _ _ (if 1 = 1 then some (1, σ9) else none) _ _ _ _ _ _
      refine r_astore hC [(5, va_rf (some q9)), (0, va_rf p0), (1, .int p1), (2, .int p2), (3, .int p3), (4, va_rf p4)] (r := (some q9)) (i := 5) (by decide) (by simp [List.filter, cat_rf, cat_i, cat_j, cat_d, cat_a]) dL_pass_15 ?_
      refine r_iconst hC (1) rfl dL_pass_17 ?_
      exact e_I hC ⟨by omega, by omega⟩ dL_pass_18
    exact Or.inl (by simp only [if_neg g1])
  · show Wo _ _ _ _ _ _ _ _ _ _ [.int v1, .int 0, va_rf p4]
    refine r_i2l hC dL_pass_10 (fun v4 => ?_)
    refine r_wJ hC (r := p4) dL_pass_11 (fun σ5 => ?_)
    refine r_goto hC 19 dL_pass_12 (by decide) ?_
    refine r_iconst hC (0) rfl dL_pass_19 ?_
    exact e_I hC ⟨by omega, by omega⟩ dL_pass_20

set_option maxRecDepth 100000 in
set_option maxHeartbeats 4000000 in
theorem ct_L_pass {l : Launch} (hl : l.stackTraces = false) (G : Glb) (p0 : (Option Nat)) (p1 : Int32) (p2 : Int32) (p3 : Int32) (p4 : (Option Nat)) (σ : Mem) : Ct rvI l yL_pass (Cond.codeWith yL_pass cL_pass 6 (some .int) [(0, 12, 15, 13)] :: uW) { frames := 8, cells := 1, slots := 6, locals := 129 } 1 6 G [va_rf p0, .int p1, .int p2, .int p3, va_rf p4] σ (f_L_pass p0 p1 p2 p3 p4 σ) := by
  refine Ct.ofW hl (by decide +kernel) (by simp [lg_sl, cat_rf, cat_i, cat_j, cat_d, cat_a]) (fun C hC hE => ?_)
  have e : lv_args 0 [va_rf p0, .int p1, .int p2, .int p3, va_rf p4] = [(0, va_rf p0), (1, .int p1), (2, .int p2), (3, .int p3), (4, va_rf p4)] := by simp [lv_args, cat_rf, cat_i, cat_j, cat_d, cat_a]
  rw [e]
  exact t_L_pass_0 hC hE p0 p1 p2 p3 p4 σ 0 0 ⟨Nat.le_of_ble_eq_true rfl, Nat.le_of_ble_eq_true rfl⟩

noncomputable def b_L_prune_0 (p0 : (Option Nat)) (p1 : Int32) (p2 : (Option Nat)) (σ : Mem) : Option ((Int32) × Mem) :=
ob 6 σ p0 fun h3 => cx1 (f_X4_prune h3 p1 σ) (fun v1 σ2 =>
nm (v1.toInt64) fun v4 =>
wJ σ2 p2 0 v4 fun σ5 =>
some (0, σ5)) (fun k9 σ9 => if k9 = 3 then
some (1, σ9)
else none)

noncomputable def f_L_prune (p0 : (Option Nat)) (p1 : Int32) (p2 : (Option Nat)) (σ : Mem) : Option ((Int32) × Mem) := b_L_prune_0 p0 p1 p2 σ
set_option maxRecDepth 100000 in
set_option maxHeartbeats 4000000 in
theorem t_L_prune_0 {C : Cxt} {G : Glb} (hC : CX C G RL cL_prune 4 (some .int) 9 1 6 144) (hE : (cC C).exceptionTable.toList.map (fun h => (h.startPc, h.endPc, h.handlerPc, h.catchType)) = [(0, 9, 12, 25)]) (p0 : (Option Nat)) (p1 : Int32) (p2 : (Option Nat)) (σ : Mem) (kc ks : Nat) (hN : kc + 1 ≤ 1 ∧ ks + 6 ≤ 6) : Wo C G 4 (QP C G rvI 1 6) (b_L_prune_0  p0 p1 p2 σ) σ kc ks 0 [(0, va_rf p0), (1, .int p1), (2, va_rf p2)] [] := by
  unfold b_L_prune_0
  refine r_aloadn hC 2 (r := p2) rfl rfl dL_prune_0 ?_
  refine r_iconst hC (0) rfl dL_prune_1 ?_
  refine r_aloadn hC 0 (r := p0) rfl rfl dL_prune_2 ?_
  refine r_iloadn hC 1 rfl rfl dL_prune_3 ?_
  refine callH_V hC hE (av := [.int p1]) (st := [.int 0, va_rf p2]) (r := p0) (ci := 6) rfl rfl (fun h9 => ct_X4_prune hC.hl G h9 p1 σ) q_574 q_575 q_576 q_39 q_577 yd_X4_prune rfl ⟨Nat.le_of_ble_eq_true rfl, Nat.le_of_ble_eq_true rfl⟩ ⟨by omega, by omega⟩ ⟨by omega, by omega⟩ rfl (by simp [cat_rf, cat_i, cat_j, cat_d, cat_a]) dL_prune_4 (fun k9 σ9 => ?_) (fun v1 σ2 => ?_)
  · by_cases g3 : k9 = 3
    · subst g3
      refine Or.inr ⟨12, ⟨[], [], _, _, _, rfl, by decide, by decide, q_573, z_397, fun z hz => absurd hz List.not_mem_nil⟩, fun q9 => ?_⟩
      show Wo _ _ _ _ (if 3 = 3 then some (1, σ9) else none) _ _ _ _ _ _
      refine r_astoren hC [(3, va_rf (some q9)), (0, va_rf p0), (1, .int p1), (2, va_rf p2)] (r := (some q9)) (i := 3) rfl (by decide) (by simp [List.filter, cat_rf, cat_i, cat_j, cat_d, cat_a]) dL_prune_12 ?_
      refine r_iconst hC (1) rfl dL_prune_13 ?_
      exact e_I hC ⟨by omega, by omega⟩ dL_prune_14
    exact Or.inl (by simp only [if_neg g3])
  · show Wo _ _ _ _ _ _ _ _ _ _ [.int v1, .int 0, va_rf p2]
    refine r_i2l hC dL_prune_7 (fun v4 => ?_)
    refine r_wJ hC (r := p2) dL_prune_8 (fun σ5 => ?_)
    refine r_goto hC 15 dL_prune_9 (by decide) ?_
    refine r_iconst hC (0) rfl dL_prune_15 ?_
    exact e_I hC ⟨by omega, by omega⟩ dL_prune_16

set_option maxRecDepth 100000 in
set_option maxHeartbeats 4000000 in
theorem ct_L_prune {l : Launch} (hl : l.stackTraces = false) (G : Glb) (p0 : (Option Nat)) (p1 : Int32) (p2 : (Option Nat)) (σ : Mem) : Ct rvI l yL_prune (Cond.codeWith yL_prune cL_prune 4 (some .int) [(0, 9, 12, 25)] :: uW) { frames := 9, cells := 1, slots := 6, locals := 144 } 1 6 G [va_rf p0, .int p1, va_rf p2] σ (f_L_prune p0 p1 p2 σ) := by
  refine Ct.ofW hl (by decide +kernel) (by simp [lg_sl, cat_rf, cat_i, cat_j, cat_d, cat_a]) (fun C hC hE => ?_)
  have e : lv_args 0 [va_rf p0, .int p1, va_rf p2] = [(0, va_rf p0), (1, .int p1), (2, va_rf p2)] := by simp [lv_args, cat_rf, cat_i, cat_j, cat_d, cat_a]
  rw [e]
  exact t_L_prune_0 hC hE p0 p1 p2 σ 0 0 ⟨Nat.le_of_ble_eq_true rfl, Nat.le_of_ble_eq_true rfl⟩

noncomputable def b_L_spray_0 (p0 : (Option Nat)) (p1 : Int32) (p2 : (Option Nat)) (σ : Mem) : Option ((Int32) × Mem) :=
ob 6 σ p0 fun h3 => cx1 (f_X4_spray h3 p1 σ) (fun v1 σ2 =>
nm (v1.toInt64) fun v4 =>
wJ σ2 p2 0 v4 fun σ5 =>
some (0, σ5)) (fun k9 σ9 => if k9 = 3 then
some (1, σ9)
else none)

noncomputable def f_L_spray (p0 : (Option Nat)) (p1 : Int32) (p2 : (Option Nat)) (σ : Mem) : Option ((Int32) × Mem) := b_L_spray_0 p0 p1 p2 σ
set_option maxRecDepth 100000 in
set_option maxHeartbeats 4000000 in
theorem t_L_spray_0 {C : Cxt} {G : Glb} (hC : CX C G RL cL_spray 4 (some .int) 9 1 6 146) (hE : (cC C).exceptionTable.toList.map (fun h => (h.startPc, h.endPc, h.handlerPc, h.catchType)) = [(0, 9, 12, 25)]) (p0 : (Option Nat)) (p1 : Int32) (p2 : (Option Nat)) (σ : Mem) (kc ks : Nat) (hN : kc + 1 ≤ 1 ∧ ks + 6 ≤ 6) : Wo C G 4 (QP C G rvI 1 6) (b_L_spray_0  p0 p1 p2 σ) σ kc ks 0 [(0, va_rf p0), (1, .int p1), (2, va_rf p2)] [] := by
  unfold b_L_spray_0
  refine r_aloadn hC 2 (r := p2) rfl rfl dL_spray_0 ?_
  refine r_iconst hC (0) rfl dL_spray_1 ?_
  refine r_aloadn hC 0 (r := p0) rfl rfl dL_spray_2 ?_
  refine r_iloadn hC 1 rfl rfl dL_spray_3 ?_
  refine callH_V hC hE (av := [.int p1]) (st := [.int 0, va_rf p2]) (r := p0) (ci := 6) rfl rfl (fun h9 => ct_X4_spray hC.hl G h9 p1 σ) q_585 q_586 q_587 q_39 q_588 yd_X4_spray rfl ⟨Nat.le_of_ble_eq_true rfl, Nat.le_of_ble_eq_true rfl⟩ ⟨by omega, by omega⟩ ⟨by omega, by omega⟩ rfl (by simp [cat_rf, cat_i, cat_j, cat_d, cat_a]) dL_spray_4 (fun k9 σ9 => ?_) (fun v1 σ2 => ?_)
  · by_cases g3 : k9 = 3
    · subst g3
      refine Or.inr ⟨12, ⟨[], [], _, _, _, rfl, by decide, by decide, q_573, z_397, fun z hz => absurd hz List.not_mem_nil⟩, fun q9 => ?_⟩
      show Wo _ _ _ _ (if 3 = 3 then some (1, σ9) else none) _ _ _ _ _ _
      refine r_astoren hC [(3, va_rf (some q9)), (0, va_rf p0), (1, .int p1), (2, va_rf p2)] (r := (some q9)) (i := 3) rfl (by decide) (by simp [List.filter, cat_rf, cat_i, cat_j, cat_d, cat_a]) dL_spray_12 ?_
      refine r_iconst hC (1) rfl dL_spray_13 ?_
      exact e_I hC ⟨by omega, by omega⟩ dL_spray_14
    exact Or.inl (by simp only [if_neg g3])
  · show Wo _ _ _ _ _ _ _ _ _ _ [.int v1, .int 0, va_rf p2]
    refine r_i2l hC dL_spray_7 (fun v4 => ?_)
    refine r_wJ hC (r := p2) dL_spray_8 (fun σ5 => ?_)
    refine r_goto hC 15 dL_spray_9 (by decide) ?_
    refine r_iconst hC (0) rfl dL_spray_15 ?_
    exact e_I hC ⟨by omega, by omega⟩ dL_spray_16

set_option maxRecDepth 100000 in
set_option maxHeartbeats 4000000 in
theorem ct_L_spray {l : Launch} (hl : l.stackTraces = false) (G : Glb) (p0 : (Option Nat)) (p1 : Int32) (p2 : (Option Nat)) (σ : Mem) : Ct rvI l yL_spray (Cond.codeWith yL_spray cL_spray 4 (some .int) [(0, 9, 12, 25)] :: uW) { frames := 9, cells := 1, slots := 6, locals := 146 } 1 6 G [va_rf p0, .int p1, va_rf p2] σ (f_L_spray p0 p1 p2 σ) := by
  refine Ct.ofW hl (by decide +kernel) (by simp [lg_sl, cat_rf, cat_i, cat_j, cat_d, cat_a]) (fun C hC hE => ?_)
  have e : lv_args 0 [va_rf p0, .int p1, va_rf p2] = [(0, va_rf p0), (1, .int p1), (2, va_rf p2)] := by simp [lv_args, cat_rf, cat_i, cat_j, cat_d, cat_a]
  rw [e]
  exact t_L_spray_0 hC hE p0 p1 p2 σ 0 0 ⟨Nat.le_of_ble_eq_true rfl, Nat.le_of_ble_eq_true rfl⟩

noncomputable def b_L_pluck_0 (p0 : (Option Nat)) (p1 : Int32) (p2 : Int32) (p3 : Int32) (p4 : (Option Nat)) (σ : Mem) : Option ((Int32) × Mem) :=
ob 6 σ p0 fun h3 => cx1 (f_X4_pluck h3 p1 p2 p3 σ) (fun v1 σ2 =>
nm (v1.toInt64) fun v4 =>
wJ σ2 p4 0 v4 fun σ5 =>
some (0, σ5)) (fun k9 σ9 => if k9 = 3 then
some (1, σ9)
else if k9 = 1 then
some (2, σ9)
else if k9 = 2 then
some (3, σ9)
else none)

noncomputable def f_L_pluck (p0 : (Option Nat)) (p1 : Int32) (p2 : Int32) (p3 : Int32) (p4 : (Option Nat)) (σ : Mem) : Option ((Int32) × Mem) := b_L_pluck_0 p0 p1 p2 p3 p4 σ
set_option maxRecDepth 100000 in
set_option maxHeartbeats 4000000 in
theorem t_L_pluck_0 {C : Cxt} {G : Glb} (hC : CX C G RL cL_pluck 6 (some .int) 9 1 6 152) (hE : (cC C).exceptionTable.toList.map (fun h => (h.startPc, h.endPc, h.handlerPc, h.catchType)) = [(0, 12, 15, 25), (0, 12, 19, 13), (0, 12, 23, 15)]) (p0 : (Option Nat)) (p1 : Int32) (p2 : Int32) (p3 : Int32) (p4 : (Option Nat)) (σ : Mem) (kc ks : Nat) (hN : kc + 1 ≤ 1 ∧ ks + 6 ≤ 6) : Wo C G 6 (QP C G rvI 1 6) (b_L_pluck_0  p0 p1 p2 p3 p4 σ) σ kc ks 0 [(0, va_rf p0), (1, .int p1), (2, .int p2), (3, .int p3), (4, va_rf p4)] [] := by
  unfold b_L_pluck_0
  refine r_aload hC 4 (r := p4) rfl dL_pluck_0 ?_
  refine r_iconst hC (0) rfl dL_pluck_2 ?_
  refine r_aloadn hC 0 (r := p0) rfl rfl dL_pluck_3 ?_
  refine r_iloadn hC 1 rfl rfl dL_pluck_4 ?_
  refine r_iloadn hC 2 rfl rfl dL_pluck_5 ?_
  refine r_iloadn hC 3 rfl rfl dL_pluck_6 ?_
  refine callH_V hC hE (av := [.int p1, .int p2, .int p3]) (st := [.int 0, va_rf p4]) (r := p0) (ci := 6) rfl rfl (fun h9 => ct_X4_pluck hC.hl G h9 p1 p2 p3 σ) q_592 q_593 q_594 q_39 q_595 yd_X4_pluck rfl ⟨Nat.le_of_ble_eq_true rfl, Nat.le_of_ble_eq_true rfl⟩ ⟨by omega, by omega⟩ ⟨by omega, by omega⟩ rfl (by simp [cat_rf, cat_i, cat_j, cat_d, cat_a]) dL_pluck_7 (fun k9 σ9 => ?_) (fun v1 σ2 => ?_)
  · by_cases g3 : k9 = 3
    · subst g3
      refine Or.inr ⟨15, ⟨[], [(0, 12, 19, 13), (0, 12, 23, 15)], _, _, _, rfl, by decide, by decide, q_573, z_397, fun z hz => absurd hz List.not_mem_nil⟩, fun q9 => ?_⟩
      show Wo _ _ _ _ (if 3 = 3 then some (1, σ9) else if 3 = 1 then some (2, σ9) else if 3 = 2 then some (3, σ9) else none) _ _ _ _ _ _
      refine r_astore hC [(5, va_rf (some q9)), (0, va_rf p0), (1, .int p1), (2, .int p2), (3, .int p3), (4, va_rf p4)] (r := (some q9)) (i := 5) (by decide) (by simp [List.filter, cat_rf, cat_i, cat_j, cat_d, cat_a]) dL_pluck_15 ?_
      refine r_iconst hC (1) rfl dL_pluck_17 ?_
      exact e_I hC ⟨by omega, by omega⟩ dL_pluck_18
    by_cases g1 : k9 = 1
    · subst g1
      refine Or.inr ⟨19, ⟨[(0, 12, 15, 25)], [(0, 12, 23, 15)], _, _, _, rfl, by decide, by decide, q_548, z_315, fun z hz => by
          simp only [List.mem_cons, List.not_mem_nil, or_false] at hz
          rcases hz with rfl
          · exact ⟨by decide, 3, q_573, hC.hK.1.2.2.2.2.2.2.2.1⟩
    ⟩, fun q9 => ?_⟩
      show Wo _ _ _ _ (if 1 = 3 then some (1, σ9) else if 1 = 1 then some (2, σ9) else if 1 = 2 then some (3, σ9) else none) _ _ _ _ _ _
      refine r_astore hC [(5, va_rf (some q9)), (0, va_rf p0), (1, .int p1), (2, .int p2), (3, .int p3), (4, va_rf p4)] (r := (some q9)) (i := 5) (by decide) (by simp [List.filter, cat_rf, cat_i, cat_j, cat_d, cat_a]) dL_pluck_19 ?_
      refine r_iconst hC (2) rfl dL_pluck_21 ?_
      exact e_I hC ⟨by omega, by omega⟩ dL_pluck_22
    by_cases g2 : k9 = 2
    · subst g2
      refine Or.inr ⟨23, ⟨[(0, 12, 15, 25), (0, 12, 19, 13)], [], _, _, _, rfl, by decide, by decide, q_549, z_441, fun z hz => by
          simp only [List.mem_cons, List.not_mem_nil, or_false] at hz
          rcases hz with rfl | rfl
          · exact ⟨by decide, 3, q_573, hC.hK.1.2.2.2.2.2.2.2.2⟩
          · exact ⟨by decide, 1, q_548, hC.hK.1.2.2.2.2.2.2.1⟩
    ⟩, fun q9 => ?_⟩
      show Wo _ _ _ _ (if 2 = 3 then some (1, σ9) else if 2 = 1 then some (2, σ9) else if 2 = 2 then some (3, σ9) else none) _ _ _ _ _ _
      refine r_astore hC [(5, va_rf (some q9)), (0, va_rf p0), (1, .int p1), (2, .int p2), (3, .int p3), (4, va_rf p4)] (r := (some q9)) (i := 5) (by decide) (by simp [List.filter, cat_rf, cat_i, cat_j, cat_d, cat_a]) dL_pluck_23 ?_
      refine r_iconst hC (3) rfl dL_pluck_25 ?_
      exact e_I hC ⟨by omega, by omega⟩ dL_pluck_26
    exact Or.inl (by simp only [if_neg g3, if_neg g1, if_neg g2])
  · show Wo _ _ _ _ _ _ _ _ _ _ [.int v1, .int 0, va_rf p4]
    refine r_i2l hC dL_pluck_10 (fun v4 => ?_)
    refine r_wJ hC (r := p4) dL_pluck_11 (fun σ5 => ?_)
    refine r_goto hC 27 dL_pluck_12 (by decide) ?_
    refine r_iconst hC (0) rfl dL_pluck_27 ?_
    exact e_I hC ⟨by omega, by omega⟩ dL_pluck_28

set_option maxRecDepth 100000 in
set_option maxHeartbeats 4000000 in
theorem ct_L_pluck {l : Launch} (hl : l.stackTraces = false) (G : Glb) (p0 : (Option Nat)) (p1 : Int32) (p2 : Int32) (p3 : Int32) (p4 : (Option Nat)) (σ : Mem) : Ct rvI l yL_pluck (Cond.codeWith yL_pluck cL_pluck 6 (some .int) [(0, 12, 15, 25), (0, 12, 19, 13), (0, 12, 23, 15)] :: uW) { frames := 9, cells := 1, slots := 6, locals := 152 } 1 6 G [va_rf p0, .int p1, .int p2, .int p3, va_rf p4] σ (f_L_pluck p0 p1 p2 p3 p4 σ) := by
  refine Ct.ofW hl (by decide +kernel) (by simp [lg_sl, cat_rf, cat_i, cat_j, cat_d, cat_a]) (fun C hC hE => ?_)
  have e : lv_args 0 [va_rf p0, .int p1, .int p2, .int p3, va_rf p4] = [(0, va_rf p0), (1, .int p1), (2, .int p2), (3, .int p3), (4, va_rf p4)] := by simp [lv_args, cat_rf, cat_i, cat_j, cat_d, cat_a]
  rw [e]
  exact t_L_pluck_0 hC hE p0 p1 p2 p3 p4 σ 0 0 ⟨Nat.le_of_ble_eq_true rfl, Nat.le_of_ble_eq_true rfl⟩

noncomputable def b_L_join_0 (p0 : (Option Nat)) (p1 : Int32) (p2 : Int32) (p3 : (Option Nat)) (σ : Mem) : Option ((Int32) × Mem) :=
ob 6 σ p0 fun h3 => cx1 (f_X4_join h3 p1 p2 σ) (fun v1 σ2 =>
nm (v1.toInt64) fun v4 =>
wJ σ2 p3 0 v4 fun σ5 =>
some (0, σ5)) (fun k9 σ9 => if k9 = 3 then
some (1, σ9)
else if k9 = 1 then
some (2, σ9)
else if k9 = 2 then
some (3, σ9)
else none)

noncomputable def f_L_join (p0 : (Option Nat)) (p1 : Int32) (p2 : Int32) (p3 : (Option Nat)) (σ : Mem) : Option ((Int32) × Mem) := b_L_join_0 p0 p1 p2 p3 σ
set_option maxRecDepth 100000 in
set_option maxHeartbeats 4000000 in
theorem t_L_join_0 {C : Cxt} {G : Glb} (hC : CX C G RL cL_join 5 (some .int) 9 1 6 148) (hE : (cC C).exceptionTable.toList.map (fun h => (h.startPc, h.endPc, h.handlerPc, h.catchType)) = [(0, 10, 13, 25), (0, 10, 17, 13), (0, 10, 21, 15)]) (p0 : (Option Nat)) (p1 : Int32) (p2 : Int32) (p3 : (Option Nat)) (σ : Mem) (kc ks : Nat) (hN : kc + 1 ≤ 1 ∧ ks + 6 ≤ 6) : Wo C G 5 (QP C G rvI 1 6) (b_L_join_0  p0 p1 p2 p3 σ) σ kc ks 0 [(0, va_rf p0), (1, .int p1), (2, .int p2), (3, va_rf p3)] [] := by
  unfold b_L_join_0
  refine r_aloadn hC 3 (r := p3) rfl rfl dL_join_0 ?_
  refine r_iconst hC (0) rfl dL_join_1 ?_
  refine r_aloadn hC 0 (r := p0) rfl rfl dL_join_2 ?_
  refine r_iloadn hC 1 rfl rfl dL_join_3 ?_
  refine r_iloadn hC 2 rfl rfl dL_join_4 ?_
  refine callH_V hC hE (av := [.int p1, .int p2]) (st := [.int 0, va_rf p3]) (r := p0) (ci := 6) rfl rfl (fun h9 => ct_X4_join hC.hl G h9 p1 p2 σ) q_603 q_604 q_605 q_39 q_606 yd_X4_join rfl ⟨Nat.le_of_ble_eq_true rfl, Nat.le_of_ble_eq_true rfl⟩ ⟨by omega, by omega⟩ ⟨by omega, by omega⟩ rfl (by simp [cat_rf, cat_i, cat_j, cat_d, cat_a]) dL_join_5 (fun k9 σ9 => ?_) (fun v1 σ2 => ?_)
  · by_cases g3 : k9 = 3
    · subst g3
      refine Or.inr ⟨13, ⟨[], [(0, 10, 17, 13), (0, 10, 21, 15)], _, _, _, rfl, by decide, by decide, q_573, z_397, fun z hz => absurd hz List.not_mem_nil⟩, fun q9 => ?_⟩
      show Wo _ _ _ _ (if 3 = 3 then some (1, σ9) else if 3 = 1 then some (2, σ9) else if 3 = 2 then some (3, σ9) else none) _ _ _ _ _ _
      refine r_astore hC [(4, va_rf (some q9)), (0, va_rf p0), (1, .int p1), (2, .int p2), (3, va_rf p3)] (r := (some q9)) (i := 4) (by decide) (by simp [List.filter, cat_rf, cat_i, cat_j, cat_d, cat_a]) dL_join_13 ?_
      refine r_iconst hC (1) rfl dL_join_15 ?_
      exact e_I hC ⟨by omega, by omega⟩ dL_join_16
    by_cases g1 : k9 = 1
    · subst g1
      refine Or.inr ⟨17, ⟨[(0, 10, 13, 25)], [(0, 10, 21, 15)], _, _, _, rfl, by decide, by decide, q_548, z_315, fun z hz => by
          simp only [List.mem_cons, List.not_mem_nil, or_false] at hz
          rcases hz with rfl
          · exact ⟨by decide, 3, q_573, hC.hK.1.2.2.2.2.2.2.2.1⟩
    ⟩, fun q9 => ?_⟩
      show Wo _ _ _ _ (if 1 = 3 then some (1, σ9) else if 1 = 1 then some (2, σ9) else if 1 = 2 then some (3, σ9) else none) _ _ _ _ _ _
      refine r_astore hC [(4, va_rf (some q9)), (0, va_rf p0), (1, .int p1), (2, .int p2), (3, va_rf p3)] (r := (some q9)) (i := 4) (by decide) (by simp [List.filter, cat_rf, cat_i, cat_j, cat_d, cat_a]) dL_join_17 ?_
      refine r_iconst hC (2) rfl dL_join_19 ?_
      exact e_I hC ⟨by omega, by omega⟩ dL_join_20
    by_cases g2 : k9 = 2
    · subst g2
      refine Or.inr ⟨21, ⟨[(0, 10, 13, 25), (0, 10, 17, 13)], [], _, _, _, rfl, by decide, by decide, q_549, z_441, fun z hz => by
          simp only [List.mem_cons, List.not_mem_nil, or_false] at hz
          rcases hz with rfl | rfl
          · exact ⟨by decide, 3, q_573, hC.hK.1.2.2.2.2.2.2.2.2⟩
          · exact ⟨by decide, 1, q_548, hC.hK.1.2.2.2.2.2.2.1⟩
    ⟩, fun q9 => ?_⟩
      show Wo _ _ _ _ (if 2 = 3 then some (1, σ9) else if 2 = 1 then some (2, σ9) else if 2 = 2 then some (3, σ9) else none) _ _ _ _ _ _
      refine r_astore hC [(4, va_rf (some q9)), (0, va_rf p0), (1, .int p1), (2, .int p2), (3, va_rf p3)] (r := (some q9)) (i := 4) (by decide) (by simp [List.filter, cat_rf, cat_i, cat_j, cat_d, cat_a]) dL_join_21 ?_
      refine r_iconst hC (3) rfl dL_join_23 ?_
      exact e_I hC ⟨by omega, by omega⟩ dL_join_24
    exact Or.inl (by simp only [if_neg g3, if_neg g1, if_neg g2])
  · show Wo _ _ _ _ _ _ _ _ _ _ [.int v1, .int 0, va_rf p3]
    refine r_i2l hC dL_join_8 (fun v4 => ?_)
    refine r_wJ hC (r := p3) dL_join_9 (fun σ5 => ?_)
    refine r_goto hC 25 dL_join_10 (by decide) ?_
    refine r_iconst hC (0) rfl dL_join_25 ?_
    exact e_I hC ⟨by omega, by omega⟩ dL_join_26

set_option maxRecDepth 100000 in
set_option maxHeartbeats 4000000 in
theorem ct_L_join {l : Launch} (hl : l.stackTraces = false) (G : Glb) (p0 : (Option Nat)) (p1 : Int32) (p2 : Int32) (p3 : (Option Nat)) (σ : Mem) : Ct rvI l yL_join (Cond.codeWith yL_join cL_join 5 (some .int) [(0, 10, 13, 25), (0, 10, 17, 13), (0, 10, 21, 15)] :: uW) { frames := 9, cells := 1, slots := 6, locals := 148 } 1 6 G [va_rf p0, .int p1, .int p2, va_rf p3] σ (f_L_join p0 p1 p2 p3 σ) := by
  refine Ct.ofW hl (by decide +kernel) (by simp [lg_sl, cat_rf, cat_i, cat_j, cat_d, cat_a]) (fun C hC hE => ?_)
  have e : lv_args 0 [va_rf p0, .int p1, .int p2, va_rf p3] = [(0, va_rf p0), (1, .int p1), (2, .int p2), (3, va_rf p3)] := by simp [lv_args, cat_rf, cat_i, cat_j, cat_d, cat_a]
  rw [e]
  exact t_L_join_0 hC hE p0 p1 p2 p3 σ 0 0 ⟨Nat.le_of_ble_eq_true rfl, Nat.le_of_ble_eq_true rfl⟩

noncomputable def b_L_wither_0 (p0 : (Option Nat)) (p1 : Int32) (p2 : Int32) (p3 : Int32) (p4 : (Option Nat)) (σ : Mem) : Option ((Int32) × Mem) :=
ob 6 σ p0 fun h3 => cx1 (f_X4_wither h3 p1 p2 p3 σ) (fun v1 σ2 =>
nm (v1.toInt64) fun v4 =>
wJ σ2 p4 0 v4 fun σ5 =>
some (0, σ5)) (fun k9 σ9 => if k9 = 3 then
some (1, σ9)
else if k9 = 1 then
some (2, σ9)
else if k9 = 2 then
some (3, σ9)
else none)

noncomputable def f_L_wither (p0 : (Option Nat)) (p1 : Int32) (p2 : Int32) (p3 : Int32) (p4 : (Option Nat)) (σ : Mem) : Option ((Int32) × Mem) := b_L_wither_0 p0 p1 p2 p3 p4 σ
set_option maxRecDepth 100000 in
set_option maxHeartbeats 4000000 in
theorem t_L_wither_0 {C : Cxt} {G : Glb} (hC : CX C G RL cL_wither 6 (some .int) 9 1 6 148) (hE : (cC C).exceptionTable.toList.map (fun h => (h.startPc, h.endPc, h.handlerPc, h.catchType)) = [(0, 12, 15, 25), (0, 12, 19, 13), (0, 12, 23, 15)]) (p0 : (Option Nat)) (p1 : Int32) (p2 : Int32) (p3 : Int32) (p4 : (Option Nat)) (σ : Mem) (kc ks : Nat) (hN : kc + 1 ≤ 1 ∧ ks + 6 ≤ 6) : Wo C G 6 (QP C G rvI 1 6) (b_L_wither_0  p0 p1 p2 p3 p4 σ) σ kc ks 0 [(0, va_rf p0), (1, .int p1), (2, .int p2), (3, .int p3), (4, va_rf p4)] [] := by
  unfold b_L_wither_0
  refine r_aload hC 4 (r := p4) rfl dL_wither_0 ?_
  refine r_iconst hC (0) rfl dL_wither_2 ?_
  refine r_aloadn hC 0 (r := p0) rfl rfl dL_wither_3 ?_
  refine r_iloadn hC 1 rfl rfl dL_wither_4 ?_
  refine r_iloadn hC 2 rfl rfl dL_wither_5 ?_
  refine r_iloadn hC 3 rfl rfl dL_wither_6 ?_
  refine callH_V hC hE (av := [.int p1, .int p2, .int p3]) (st := [.int 0, va_rf p4]) (r := p0) (ci := 6) rfl rfl (fun h9 => ct_X4_wither hC.hl G h9 p1 p2 p3 σ) q_617 q_618 q_619 q_39 q_620 yd_X4_wither rfl ⟨Nat.le_of_ble_eq_true rfl, Nat.le_of_ble_eq_true rfl⟩ ⟨by omega, by omega⟩ ⟨by omega, by omega⟩ rfl (by simp [cat_rf, cat_i, cat_j, cat_d, cat_a]) dL_wither_7 (fun k9 σ9 => ?_) (fun v1 σ2 => ?_)
  · by_cases g3 : k9 = 3
    · subst g3
      refine Or.inr ⟨15, ⟨[], [(0, 12, 19, 13), (0, 12, 23, 15)], _, _, _, rfl, by decide, by decide, q_573, z_397, fun z hz => absurd hz List.not_mem_nil⟩, fun q9 => ?_⟩
      show Wo _ _ _ _ (if 3 = 3 then some (1, σ9) else if 3 = 1 then some (2, σ9) else if 3 = 2 then some (3, σ9) else none) _ _ _ _ _ _
      refine r_astore hC [(5, va_rf (some q9)), (0, va_rf p0), (1, .int p1), (2, .int p2), (3, .int p3), (4, va_rf p4)] (r := (some q9)) (i := 5) (by decide) (by simp [List.filter, cat_rf, cat_i, cat_j, cat_d, cat_a]) dL_wither_15 ?_
      refine r_iconst hC (1) rfl dL_wither_17 ?_
      exact e_I hC ⟨by omega, by omega⟩ dL_wither_18
    by_cases g1 : k9 = 1
    · subst g1
      refine Or.inr ⟨19, ⟨[(0, 12, 15, 25)], [(0, 12, 23, 15)], _, _, _, rfl, by decide, by decide, q_548, z_315, fun z hz => by
          simp only [List.mem_cons, List.not_mem_nil, or_false] at hz
          rcases hz with rfl
          · exact ⟨by decide, 3, q_573, hC.hK.1.2.2.2.2.2.2.2.1⟩
    ⟩, fun q9 => ?_⟩
      show Wo _ _ _ _ (if 1 = 3 then some (1, σ9) else if 1 = 1 then some (2, σ9) else if 1 = 2 then some (3, σ9) else none) _ _ _ _ _ _
      refine r_astore hC [(5, va_rf (some q9)), (0, va_rf p0), (1, .int p1), (2, .int p2), (3, .int p3), (4, va_rf p4)] (r := (some q9)) (i := 5) (by decide) (by simp [List.filter, cat_rf, cat_i, cat_j, cat_d, cat_a]) dL_wither_19 ?_
      refine r_iconst hC (2) rfl dL_wither_21 ?_
      exact e_I hC ⟨by omega, by omega⟩ dL_wither_22
    by_cases g2 : k9 = 2
    · subst g2
      refine Or.inr ⟨23, ⟨[(0, 12, 15, 25), (0, 12, 19, 13)], [], _, _, _, rfl, by decide, by decide, q_549, z_441, fun z hz => by
          simp only [List.mem_cons, List.not_mem_nil, or_false] at hz
          rcases hz with rfl | rfl
          · exact ⟨by decide, 3, q_573, hC.hK.1.2.2.2.2.2.2.2.2⟩
          · exact ⟨by decide, 1, q_548, hC.hK.1.2.2.2.2.2.2.1⟩
    ⟩, fun q9 => ?_⟩
      show Wo _ _ _ _ (if 2 = 3 then some (1, σ9) else if 2 = 1 then some (2, σ9) else if 2 = 2 then some (3, σ9) else none) _ _ _ _ _ _
      refine r_astore hC [(5, va_rf (some q9)), (0, va_rf p0), (1, .int p1), (2, .int p2), (3, .int p3), (4, va_rf p4)] (r := (some q9)) (i := 5) (by decide) (by simp [List.filter, cat_rf, cat_i, cat_j, cat_d, cat_a]) dL_wither_23 ?_
      refine r_iconst hC (3) rfl dL_wither_25 ?_
      exact e_I hC ⟨by omega, by omega⟩ dL_wither_26
    exact Or.inl (by simp only [if_neg g3, if_neg g1, if_neg g2])
  · show Wo _ _ _ _ _ _ _ _ _ _ [.int v1, .int 0, va_rf p4]
    refine r_i2l hC dL_wither_10 (fun v4 => ?_)
    refine r_wJ hC (r := p4) dL_wither_11 (fun σ5 => ?_)
    refine r_goto hC 27 dL_wither_12 (by decide) ?_
    refine r_iconst hC (0) rfl dL_wither_27 ?_
    exact e_I hC ⟨by omega, by omega⟩ dL_wither_28

set_option maxRecDepth 100000 in
set_option maxHeartbeats 4000000 in
theorem ct_L_wither {l : Launch} (hl : l.stackTraces = false) (G : Glb) (p0 : (Option Nat)) (p1 : Int32) (p2 : Int32) (p3 : Int32) (p4 : (Option Nat)) (σ : Mem) : Ct rvI l yL_wither (Cond.codeWith yL_wither cL_wither 6 (some .int) [(0, 12, 15, 25), (0, 12, 19, 13), (0, 12, 23, 15)] :: uW) { frames := 9, cells := 1, slots := 6, locals := 148 } 1 6 G [va_rf p0, .int p1, .int p2, .int p3, va_rf p4] σ (f_L_wither p0 p1 p2 p3 p4 σ) := by
  refine Ct.ofW hl (by decide +kernel) (by simp [lg_sl, cat_rf, cat_i, cat_j, cat_d, cat_a]) (fun C hC hE => ?_)
  have e : lv_args 0 [va_rf p0, .int p1, .int p2, .int p3, va_rf p4] = [(0, va_rf p0), (1, .int p1), (2, .int p2), (3, .int p3), (4, va_rf p4)] := by simp [lv_args, cat_rf, cat_i, cat_j, cat_d, cat_a]
  rw [e]
  exact t_L_wither_0 hC hE p0 p1 p2 p3 p4 σ 0 0 ⟨Nat.le_of_ble_eq_true rfl, Nat.le_of_ble_eq_true rfl⟩

noncomputable def b_L_kill_0 (p0 : (Option Nat)) (p1 : Int32) (p2 : (Option Nat)) (σ : Mem) : Option ((Int32) × Mem) :=
ob 6 σ p0 fun h3 => cx1 (f_X4_kill h3 p1 σ) (fun v1 σ2 =>
nm (v1.toInt64) fun v4 =>
wJ σ2 p2 0 v4 fun σ5 =>
some (0, σ5)) (fun k9 σ9 => if k9 = 3 then
some (1, σ9)
else if k9 = 2 then
some (2, σ9)
else none)

noncomputable def f_L_kill (p0 : (Option Nat)) (p1 : Int32) (p2 : (Option Nat)) (σ : Mem) : Option ((Int32) × Mem) := b_L_kill_0 p0 p1 p2 σ
set_option maxRecDepth 100000 in
set_option maxHeartbeats 4000000 in
theorem t_L_kill_0 {C : Cxt} {G : Glb} (hC : CX C G RL cL_kill 4 (some .int) 9 1 6 145) (hE : (cC C).exceptionTable.toList.map (fun h => (h.startPc, h.endPc, h.handlerPc, h.catchType)) = [(0, 9, 12, 25), (0, 9, 15, 15)]) (p0 : (Option Nat)) (p1 : Int32) (p2 : (Option Nat)) (σ : Mem) (kc ks : Nat) (hN : kc + 1 ≤ 1 ∧ ks + 6 ≤ 6) : Wo C G 4 (QP C G rvI 1 6) (b_L_kill_0  p0 p1 p2 σ) σ kc ks 0 [(0, va_rf p0), (1, .int p1), (2, va_rf p2)] [] := by
  unfold b_L_kill_0
  refine r_aloadn hC 2 (r := p2) rfl rfl dL_kill_0 ?_
  refine r_iconst hC (0) rfl dL_kill_1 ?_
  refine r_aloadn hC 0 (r := p0) rfl rfl dL_kill_2 ?_
  refine r_iloadn hC 1 rfl rfl dL_kill_3 ?_
  refine callH_V hC hE (av := [.int p1]) (st := [.int 0, va_rf p2]) (r := p0) (ci := 6) rfl rfl (fun h9 => ct_X4_kill hC.hl G h9 p1 σ) q_624 q_625 q_626 q_39 q_627 yd_X4_kill rfl ⟨Nat.le_of_ble_eq_true rfl, Nat.le_of_ble_eq_true rfl⟩ ⟨by omega, by omega⟩ ⟨by omega, by omega⟩ rfl (by simp [cat_rf, cat_i, cat_j, cat_d, cat_a]) dL_kill_4 (fun k9 σ9 => ?_) (fun v1 σ2 => ?_)
  · by_cases g3 : k9 = 3
    · subst g3
      refine Or.inr ⟨12, ⟨[], [(0, 9, 15, 15)], _, _, _, rfl, by decide, by decide, q_573, z_397, fun z hz => absurd hz List.not_mem_nil⟩, fun q9 => ?_⟩
      show Wo _ _ _ _ (if 3 = 3 then some (1, σ9) else if 3 = 2 then some (2, σ9) else none) _ _ _ _ _ _
      refine r_astoren hC [(3, va_rf (some q9)), (0, va_rf p0), (1, .int p1), (2, va_rf p2)] (r := (some q9)) (i := 3) rfl (by decide) (by simp [List.filter, cat_rf, cat_i, cat_j, cat_d, cat_a]) dL_kill_12 ?_
      refine r_iconst hC (1) rfl dL_kill_13 ?_
      exact e_I hC ⟨by omega, by omega⟩ dL_kill_14
    by_cases g2 : k9 = 2
    · subst g2
      refine Or.inr ⟨15, ⟨[(0, 9, 12, 25)], [], _, _, _, rfl, by decide, by decide, q_549, z_441, fun z hz => by
          simp only [List.mem_cons, List.not_mem_nil, or_false] at hz
          rcases hz with rfl
          · exact ⟨by decide, 3, q_573, hC.hK.1.2.2.2.2.2.2.2.2⟩
    ⟩, fun q9 => ?_⟩
      show Wo _ _ _ _ (if 2 = 3 then some (1, σ9) else if 2 = 2 then some (2, σ9) else none) _ _ _ _ _ _
      refine r_astoren hC [(3, va_rf (some q9)), (0, va_rf p0), (1, .int p1), (2, va_rf p2)] (r := (some q9)) (i := 3) rfl (by decide) (by simp [List.filter, cat_rf, cat_i, cat_j, cat_d, cat_a]) dL_kill_15 ?_
      refine r_iconst hC (2) rfl dL_kill_16 ?_
      exact e_I hC ⟨by omega, by omega⟩ dL_kill_17
    exact Or.inl (by simp only [if_neg g3, if_neg g2])
  · show Wo _ _ _ _ _ _ _ _ _ _ [.int v1, .int 0, va_rf p2]
    refine r_i2l hC dL_kill_7 (fun v4 => ?_)
    refine r_wJ hC (r := p2) dL_kill_8 (fun σ5 => ?_)
    refine r_goto hC 18 dL_kill_9 (by decide) ?_
    refine r_iconst hC (0) rfl dL_kill_18 ?_
    exact e_I hC ⟨by omega, by omega⟩ dL_kill_19

set_option maxRecDepth 100000 in
set_option maxHeartbeats 4000000 in
theorem ct_L_kill {l : Launch} (hl : l.stackTraces = false) (G : Glb) (p0 : (Option Nat)) (p1 : Int32) (p2 : (Option Nat)) (σ : Mem) : Ct rvI l yL_kill (Cond.codeWith yL_kill cL_kill 4 (some .int) [(0, 9, 12, 25), (0, 9, 15, 15)] :: uW) { frames := 9, cells := 1, slots := 6, locals := 145 } 1 6 G [va_rf p0, .int p1, va_rf p2] σ (f_L_kill p0 p1 p2 σ) := by
  refine Ct.ofW hl (by decide +kernel) (by simp [lg_sl, cat_rf, cat_i, cat_j, cat_d, cat_a]) (fun C hC hE => ?_)
  have e : lv_args 0 [va_rf p0, .int p1, va_rf p2] = [(0, va_rf p0), (1, .int p1), (2, va_rf p2)] := by simp [lv_args, cat_rf, cat_i, cat_j, cat_d, cat_a]
  rw [e]
  exact t_L_kill_0 hC hE p0 p1 p2 σ 0 0 ⟨Nat.le_of_ble_eq_true rfl, Nat.le_of_ble_eq_true rfl⟩

noncomputable def b_L_roll_0 (p0 : (Option Nat)) (p1 : Int32) (p2 : Int32) (p3 : (Option Nat)) (σ : Mem) : Option ((Int32) × Mem) :=
ob 6 σ p0 fun h3 => cx1 (f_X4_roll h3 p1 p2 σ) (fun v1 σ2 =>
nm (v1.toInt64) fun v4 =>
wJ σ2 p3 0 v4 fun σ5 =>
some (0, σ5)) (fun k9 σ9 => if k9 = 3 then
some (1, σ9)
else if k9 = 1 then
some (2, σ9)
else if k9 = 2 then
some (3, σ9)
else none)

noncomputable def f_L_roll (p0 : (Option Nat)) (p1 : Int32) (p2 : Int32) (p3 : (Option Nat)) (σ : Mem) : Option ((Int32) × Mem) := b_L_roll_0 p0 p1 p2 p3 σ
set_option maxRecDepth 100000 in
set_option maxHeartbeats 4000000 in
theorem t_L_roll_0 {C : Cxt} {G : Glb} (hC : CX C G RL cL_roll 5 (some .int) 9 1 6 146) (hE : (cC C).exceptionTable.toList.map (fun h => (h.startPc, h.endPc, h.handlerPc, h.catchType)) = [(0, 10, 13, 25), (0, 10, 17, 13), (0, 10, 21, 15)]) (p0 : (Option Nat)) (p1 : Int32) (p2 : Int32) (p3 : (Option Nat)) (σ : Mem) (kc ks : Nat) (hN : kc + 1 ≤ 1 ∧ ks + 6 ≤ 6) : Wo C G 5 (QP C G rvI 1 6) (b_L_roll_0  p0 p1 p2 p3 σ) σ kc ks 0 [(0, va_rf p0), (1, .int p1), (2, .int p2), (3, va_rf p3)] [] := by
  unfold b_L_roll_0
  refine r_aloadn hC 3 (r := p3) rfl rfl dL_roll_0 ?_
  refine r_iconst hC (0) rfl dL_roll_1 ?_
  refine r_aloadn hC 0 (r := p0) rfl rfl dL_roll_2 ?_
  refine r_iloadn hC 1 rfl rfl dL_roll_3 ?_
  refine r_iloadn hC 2 rfl rfl dL_roll_4 ?_
  refine callH_V hC hE (av := [.int p1, .int p2]) (st := [.int 0, va_rf p3]) (r := p0) (ci := 6) rfl rfl (fun h9 => ct_X4_roll hC.hl G h9 p1 p2 σ) q_631 q_632 q_633 q_39 q_634 yd_X4_roll rfl ⟨Nat.le_of_ble_eq_true rfl, Nat.le_of_ble_eq_true rfl⟩ ⟨by omega, by omega⟩ ⟨by omega, by omega⟩ rfl (by simp [cat_rf, cat_i, cat_j, cat_d, cat_a]) dL_roll_5 (fun k9 σ9 => ?_) (fun v1 σ2 => ?_)
  · by_cases g3 : k9 = 3
    · subst g3
      refine Or.inr ⟨13, ⟨[], [(0, 10, 17, 13), (0, 10, 21, 15)], _, _, _, rfl, by decide, by decide, q_573, z_397, fun z hz => absurd hz List.not_mem_nil⟩, fun q9 => ?_⟩
      show Wo _ _ _ _ (if 3 = 3 then some (1, σ9) else if 3 = 1 then some (2, σ9) else if 3 = 2 then some (3, σ9) else none) _ _ _ _ _ _
      refine r_astore hC [(4, va_rf (some q9)), (0, va_rf p0), (1, .int p1), (2, .int p2), (3, va_rf p3)] (r := (some q9)) (i := 4) (by decide) (by simp [List.filter, cat_rf, cat_i, cat_j, cat_d, cat_a]) dL_roll_13 ?_
      refine r_iconst hC (1) rfl dL_roll_15 ?_
      exact e_I hC ⟨by omega, by omega⟩ dL_roll_16
    by_cases g1 : k9 = 1
    · subst g1
      refine Or.inr ⟨17, ⟨[(0, 10, 13, 25)], [(0, 10, 21, 15)], _, _, _, rfl, by decide, by decide, q_548, z_315, fun z hz => by
          simp only [List.mem_cons, List.not_mem_nil, or_false] at hz
          rcases hz with rfl
          · exact ⟨by decide, 3, q_573, hC.hK.1.2.2.2.2.2.2.2.1⟩
    ⟩, fun q9 => ?_⟩
      show Wo _ _ _ _ (if 1 = 3 then some (1, σ9) else if 1 = 1 then some (2, σ9) else if 1 = 2 then some (3, σ9) else none) _ _ _ _ _ _
      refine r_astore hC [(4, va_rf (some q9)), (0, va_rf p0), (1, .int p1), (2, .int p2), (3, va_rf p3)] (r := (some q9)) (i := 4) (by decide) (by simp [List.filter, cat_rf, cat_i, cat_j, cat_d, cat_a]) dL_roll_17 ?_
      refine r_iconst hC (2) rfl dL_roll_19 ?_
      exact e_I hC ⟨by omega, by omega⟩ dL_roll_20
    by_cases g2 : k9 = 2
    · subst g2
      refine Or.inr ⟨21, ⟨[(0, 10, 13, 25), (0, 10, 17, 13)], [], _, _, _, rfl, by decide, by decide, q_549, z_441, fun z hz => by
          simp only [List.mem_cons, List.not_mem_nil, or_false] at hz
          rcases hz with rfl | rfl
          · exact ⟨by decide, 3, q_573, hC.hK.1.2.2.2.2.2.2.2.2⟩
          · exact ⟨by decide, 1, q_548, hC.hK.1.2.2.2.2.2.2.1⟩
    ⟩, fun q9 => ?_⟩
      show Wo _ _ _ _ (if 2 = 3 then some (1, σ9) else if 2 = 1 then some (2, σ9) else if 2 = 2 then some (3, σ9) else none) _ _ _ _ _ _
      refine r_astore hC [(4, va_rf (some q9)), (0, va_rf p0), (1, .int p1), (2, .int p2), (3, va_rf p3)] (r := (some q9)) (i := 4) (by decide) (by simp [List.filter, cat_rf, cat_i, cat_j, cat_d, cat_a]) dL_roll_21 ?_
      refine r_iconst hC (3) rfl dL_roll_23 ?_
      exact e_I hC ⟨by omega, by omega⟩ dL_roll_24
    exact Or.inl (by simp only [if_neg g3, if_neg g1, if_neg g2])
  · show Wo _ _ _ _ _ _ _ _ _ _ [.int v1, .int 0, va_rf p3]
    refine r_i2l hC dL_roll_8 (fun v4 => ?_)
    refine r_wJ hC (r := p3) dL_roll_9 (fun σ5 => ?_)
    refine r_goto hC 25 dL_roll_10 (by decide) ?_
    refine r_iconst hC (0) rfl dL_roll_25 ?_
    exact e_I hC ⟨by omega, by omega⟩ dL_roll_26

set_option maxRecDepth 100000 in
set_option maxHeartbeats 4000000 in
theorem ct_L_roll {l : Launch} (hl : l.stackTraces = false) (G : Glb) (p0 : (Option Nat)) (p1 : Int32) (p2 : Int32) (p3 : (Option Nat)) (σ : Mem) : Ct rvI l yL_roll (Cond.codeWith yL_roll cL_roll 5 (some .int) [(0, 10, 13, 25), (0, 10, 17, 13), (0, 10, 21, 15)] :: uW) { frames := 9, cells := 1, slots := 6, locals := 146 } 1 6 G [va_rf p0, .int p1, .int p2, va_rf p3] σ (f_L_roll p0 p1 p2 p3 σ) := by
  refine Ct.ofW hl (by decide +kernel) (by simp [lg_sl, cat_rf, cat_i, cat_j, cat_d, cat_a]) (fun C hC hE => ?_)
  have e : lv_args 0 [va_rf p0, .int p1, .int p2, va_rf p3] = [(0, va_rf p0), (1, .int p1), (2, .int p2), (3, va_rf p3)] := by simp [lv_args, cat_rf, cat_i, cat_j, cat_d, cat_a]
  rw [e]
  exact t_L_roll_0 hC hE p0 p1 p2 p3 σ 0 0 ⟨Nat.le_of_ble_eq_true rfl, Nat.le_of_ble_eq_true rfl⟩

noncomputable def b_L_rest_0 (p0 : (Option Nat)) (p1 : Int32) (p2 : Int32) (p3 : Int32) (p4 : (Option Nat)) (σ : Mem) : Option ((Int32) × Mem) :=
ob 6 σ p0 fun h3 => cx1 (f_X4_rest h3 p1 p2 p3 σ) (fun v1 σ2 =>
nm (v1.toInt64) fun v4 =>
wJ σ2 p4 0 v4 fun σ5 =>
some (0, σ5)) (fun k9 σ9 => if k9 = 3 then
some (1, σ9)
else if k9 = 1 then
some (2, σ9)
else if k9 = 2 then
some (3, σ9)
else none)

noncomputable def f_L_rest (p0 : (Option Nat)) (p1 : Int32) (p2 : Int32) (p3 : Int32) (p4 : (Option Nat)) (σ : Mem) : Option ((Int32) × Mem) := b_L_rest_0 p0 p1 p2 p3 p4 σ
set_option maxRecDepth 100000 in
set_option maxHeartbeats 4000000 in
theorem t_L_rest_0 {C : Cxt} {G : Glb} (hC : CX C G RL cL_rest 6 (some .int) 9 1 6 147) (hE : (cC C).exceptionTable.toList.map (fun h => (h.startPc, h.endPc, h.handlerPc, h.catchType)) = [(0, 12, 15, 25), (0, 12, 19, 13), (0, 12, 23, 15)]) (p0 : (Option Nat)) (p1 : Int32) (p2 : Int32) (p3 : Int32) (p4 : (Option Nat)) (σ : Mem) (kc ks : Nat) (hN : kc + 1 ≤ 1 ∧ ks + 6 ≤ 6) : Wo C G 6 (QP C G rvI 1 6) (b_L_rest_0  p0 p1 p2 p3 p4 σ) σ kc ks 0 [(0, va_rf p0), (1, .int p1), (2, .int p2), (3, .int p3), (4, va_rf p4)] [] := by
  unfold b_L_rest_0
  refine r_aload hC 4 (r := p4) rfl dL_rest_0 ?_
  refine r_iconst hC (0) rfl dL_rest_2 ?_
  refine r_aloadn hC 0 (r := p0) rfl rfl dL_rest_3 ?_
  refine r_iloadn hC 1 rfl rfl dL_rest_4 ?_
  refine r_iloadn hC 2 rfl rfl dL_rest_5 ?_
  refine r_iloadn hC 3 rfl rfl dL_rest_6 ?_
  refine callH_V hC hE (av := [.int p1, .int p2, .int p3]) (st := [.int 0, va_rf p4]) (r := p0) (ci := 6) rfl rfl (fun h9 => ct_X4_rest hC.hl G h9 p1 p2 p3 σ) q_638 q_639 q_640 q_39 q_641 yd_X4_rest rfl ⟨Nat.le_of_ble_eq_true rfl, Nat.le_of_ble_eq_true rfl⟩ ⟨by omega, by omega⟩ ⟨by omega, by omega⟩ rfl (by simp [cat_rf, cat_i, cat_j, cat_d, cat_a]) dL_rest_7 (fun k9 σ9 => ?_) (fun v1 σ2 => ?_)
  · by_cases g3 : k9 = 3
    · subst g3
      refine Or.inr ⟨15, ⟨[], [(0, 12, 19, 13), (0, 12, 23, 15)], _, _, _, rfl, by decide, by decide, q_573, z_397, fun z hz => absurd hz List.not_mem_nil⟩, fun q9 => ?_⟩
      show Wo _ _ _ _ (if 3 = 3 then some (1, σ9) else if 3 = 1 then some (2, σ9) else if 3 = 2 then some (3, σ9) else none) _ _ _ _ _ _
      refine r_astore hC [(5, va_rf (some q9)), (0, va_rf p0), (1, .int p1), (2, .int p2), (3, .int p3), (4, va_rf p4)] (r := (some q9)) (i := 5) (by decide) (by simp [List.filter, cat_rf, cat_i, cat_j, cat_d, cat_a]) dL_rest_15 ?_
      refine r_iconst hC (1) rfl dL_rest_17 ?_
      exact e_I hC ⟨by omega, by omega⟩ dL_rest_18
    by_cases g1 : k9 = 1
    · subst g1
      refine Or.inr ⟨19, ⟨[(0, 12, 15, 25)], [(0, 12, 23, 15)], _, _, _, rfl, by decide, by decide, q_548, z_315, fun z hz => by
          simp only [List.mem_cons, List.not_mem_nil, or_false] at hz
          rcases hz with rfl
          · exact ⟨by decide, 3, q_573, hC.hK.1.2.2.2.2.2.2.2.1⟩
    ⟩, fun q9 => ?_⟩
      show Wo _ _ _ _ (if 1 = 3 then some (1, σ9) else if 1 = 1 then some (2, σ9) else if 1 = 2 then some (3, σ9) else none) _ _ _ _ _ _
      refine r_astore hC [(5, va_rf (some q9)), (0, va_rf p0), (1, .int p1), (2, .int p2), (3, .int p3), (4, va_rf p4)] (r := (some q9)) (i := 5) (by decide) (by simp [List.filter, cat_rf, cat_i, cat_j, cat_d, cat_a]) dL_rest_19 ?_
      refine r_iconst hC (2) rfl dL_rest_21 ?_
      exact e_I hC ⟨by omega, by omega⟩ dL_rest_22
    by_cases g2 : k9 = 2
    · subst g2
      refine Or.inr ⟨23, ⟨[(0, 12, 15, 25), (0, 12, 19, 13)], [], _, _, _, rfl, by decide, by decide, q_549, z_441, fun z hz => by
          simp only [List.mem_cons, List.not_mem_nil, or_false] at hz
          rcases hz with rfl | rfl
          · exact ⟨by decide, 3, q_573, hC.hK.1.2.2.2.2.2.2.2.2⟩
          · exact ⟨by decide, 1, q_548, hC.hK.1.2.2.2.2.2.2.1⟩
    ⟩, fun q9 => ?_⟩
      show Wo _ _ _ _ (if 2 = 3 then some (1, σ9) else if 2 = 1 then some (2, σ9) else if 2 = 2 then some (3, σ9) else none) _ _ _ _ _ _
      refine r_astore hC [(5, va_rf (some q9)), (0, va_rf p0), (1, .int p1), (2, .int p2), (3, .int p3), (4, va_rf p4)] (r := (some q9)) (i := 5) (by decide) (by simp [List.filter, cat_rf, cat_i, cat_j, cat_d, cat_a]) dL_rest_23 ?_
      refine r_iconst hC (3) rfl dL_rest_25 ?_
      exact e_I hC ⟨by omega, by omega⟩ dL_rest_26
    exact Or.inl (by simp only [if_neg g3, if_neg g1, if_neg g2])
  · show Wo _ _ _ _ _ _ _ _ _ _ [.int v1, .int 0, va_rf p4]
    refine r_i2l hC dL_rest_10 (fun v4 => ?_)
    refine r_wJ hC (r := p4) dL_rest_11 (fun σ5 => ?_)
    refine r_goto hC 27 dL_rest_12 (by decide) ?_
    refine r_iconst hC (0) rfl dL_rest_27 ?_
    exact e_I hC ⟨by omega, by omega⟩ dL_rest_28

set_option maxRecDepth 100000 in
set_option maxHeartbeats 4000000 in
theorem ct_L_rest {l : Launch} (hl : l.stackTraces = false) (G : Glb) (p0 : (Option Nat)) (p1 : Int32) (p2 : Int32) (p3 : Int32) (p4 : (Option Nat)) (σ : Mem) : Ct rvI l yL_rest (Cond.codeWith yL_rest cL_rest 6 (some .int) [(0, 12, 15, 25), (0, 12, 19, 13), (0, 12, 23, 15)] :: uW) { frames := 9, cells := 1, slots := 6, locals := 147 } 1 6 G [va_rf p0, .int p1, .int p2, .int p3, va_rf p4] σ (f_L_rest p0 p1 p2 p3 p4 σ) := by
  refine Ct.ofW hl (by decide +kernel) (by simp [lg_sl, cat_rf, cat_i, cat_j, cat_d, cat_a]) (fun C hC hE => ?_)
  have e : lv_args 0 [va_rf p0, .int p1, .int p2, .int p3, va_rf p4] = [(0, va_rf p0), (1, .int p1), (2, .int p2), (3, .int p3), (4, va_rf p4)] := by simp [lv_args, cat_rf, cat_i, cat_j, cat_d, cat_a]
  rw [e]
  exact t_L_rest_0 hC hE p0 p1 p2 p3 p4 σ 0 0 ⟨Nat.le_of_ble_eq_true rfl, Nat.le_of_ble_eq_true rfl⟩

noncomputable def b_L_fire_0 (p0 : (Option Nat)) (p1 : Int32) (p2 : Int32) (p3 : Int32) (p4 : (Option Nat)) (σ : Mem) : Option ((Int32) × Mem) :=
ob 6 σ p0 fun h3 => cx1 (f_X4_fire h3 p1 p2 p3 σ) (fun v1 σ2 =>
nm (v1.toInt64) fun v4 =>
wJ σ2 p4 0 v4 fun σ5 =>
some (0, σ5)) (fun k9 σ9 => if k9 = 3 then
some (1, σ9)
else if k9 = 1 then
some (2, σ9)
else if k9 = 2 then
some (3, σ9)
else none)

noncomputable def f_L_fire (p0 : (Option Nat)) (p1 : Int32) (p2 : Int32) (p3 : Int32) (p4 : (Option Nat)) (σ : Mem) : Option ((Int32) × Mem) := b_L_fire_0 p0 p1 p2 p3 p4 σ
set_option maxRecDepth 100000 in
set_option maxHeartbeats 4000000 in
theorem t_L_fire_0 {C : Cxt} {G : Glb} (hC : CX C G RL cL_fire 6 (some .int) 9 1 6 148) (hE : (cC C).exceptionTable.toList.map (fun h => (h.startPc, h.endPc, h.handlerPc, h.catchType)) = [(0, 12, 15, 25), (0, 12, 19, 13), (0, 12, 23, 15)]) (p0 : (Option Nat)) (p1 : Int32) (p2 : Int32) (p3 : Int32) (p4 : (Option Nat)) (σ : Mem) (kc ks : Nat) (hN : kc + 1 ≤ 1 ∧ ks + 6 ≤ 6) : Wo C G 6 (QP C G rvI 1 6) (b_L_fire_0  p0 p1 p2 p3 p4 σ) σ kc ks 0 [(0, va_rf p0), (1, .int p1), (2, .int p2), (3, .int p3), (4, va_rf p4)] [] := by
  unfold b_L_fire_0
  refine r_aload hC 4 (r := p4) rfl dL_fire_0 ?_
  refine r_iconst hC (0) rfl dL_fire_2 ?_
  refine r_aloadn hC 0 (r := p0) rfl rfl dL_fire_3 ?_
  refine r_iloadn hC 1 rfl rfl dL_fire_4 ?_
  refine r_iloadn hC 2 rfl rfl dL_fire_5 ?_
  refine r_iloadn hC 3 rfl rfl dL_fire_6 ?_
  refine callH_V hC hE (av := [.int p1, .int p2, .int p3]) (st := [.int 0, va_rf p4]) (r := p0) (ci := 6) rfl rfl (fun h9 => ct_X4_fire hC.hl G h9 p1 p2 p3 σ) q_645 q_646 q_647 q_39 q_648 yd_X4_fire rfl ⟨Nat.le_of_ble_eq_true rfl, Nat.le_of_ble_eq_true rfl⟩ ⟨by omega, by omega⟩ ⟨by omega, by omega⟩ rfl (by simp [cat_rf, cat_i, cat_j, cat_d, cat_a]) dL_fire_7 (fun k9 σ9 => ?_) (fun v1 σ2 => ?_)
  · by_cases g3 : k9 = 3
    · subst g3
      refine Or.inr ⟨15, ⟨[], [(0, 12, 19, 13), (0, 12, 23, 15)], _, _, _, rfl, by decide, by decide, q_573, z_397, fun z hz => absurd hz List.not_mem_nil⟩, fun q9 => ?_⟩
      show Wo _ _ _ _ (if 3 = 3 then some (1, σ9) else if 3 = 1 then some (2, σ9) else if 3 = 2 then some (3, σ9) else none) _ _ _ _ _ _
      refine r_astore hC [(5, va_rf (some q9)), (0, va_rf p0), (1, .int p1), (2, .int p2), (3, .int p3), (4, va_rf p4)] (r := (some q9)) (i := 5) (by decide) (by simp [List.filter, cat_rf, cat_i, cat_j, cat_d, cat_a]) dL_fire_15 ?_
      refine r_iconst hC (1) rfl dL_fire_17 ?_
      exact e_I hC ⟨by omega, by omega⟩ dL_fire_18
    by_cases g1 : k9 = 1
    · subst g1
      refine Or.inr ⟨19, ⟨[(0, 12, 15, 25)], [(0, 12, 23, 15)], _, _, _, rfl, by decide, by decide, q_548, z_315, fun z hz => by
          simp only [List.mem_cons, List.not_mem_nil, or_false] at hz
          rcases hz with rfl
          · exact ⟨by decide, 3, q_573, hC.hK.1.2.2.2.2.2.2.2.1⟩
    ⟩, fun q9 => ?_⟩
      show Wo _ _ _ _ (if 1 = 3 then some (1, σ9) else if 1 = 1 then some (2, σ9) else if 1 = 2 then some (3, σ9) else none) _ _ _ _ _ _
      refine r_astore hC [(5, va_rf (some q9)), (0, va_rf p0), (1, .int p1), (2, .int p2), (3, .int p3), (4, va_rf p4)] (r := (some q9)) (i := 5) (by decide) (by simp [List.filter, cat_rf, cat_i, cat_j, cat_d, cat_a]) dL_fire_19 ?_
      refine r_iconst hC (2) rfl dL_fire_21 ?_
      exact e_I hC ⟨by omega, by omega⟩ dL_fire_22
    by_cases g2 : k9 = 2
    · subst g2
      refine Or.inr ⟨23, ⟨[(0, 12, 15, 25), (0, 12, 19, 13)], [], _, _, _, rfl, by decide, by decide, q_549, z_441, fun z hz => by
          simp only [List.mem_cons, List.not_mem_nil, or_false] at hz
          rcases hz with rfl | rfl
          · exact ⟨by decide, 3, q_573, hC.hK.1.2.2.2.2.2.2.2.2⟩
          · exact ⟨by decide, 1, q_548, hC.hK.1.2.2.2.2.2.2.1⟩
    ⟩, fun q9 => ?_⟩
      show Wo _ _ _ _ (if 2 = 3 then some (1, σ9) else if 2 = 1 then some (2, σ9) else if 2 = 2 then some (3, σ9) else none) _ _ _ _ _ _
      refine r_astore hC [(5, va_rf (some q9)), (0, va_rf p0), (1, .int p1), (2, .int p2), (3, .int p3), (4, va_rf p4)] (r := (some q9)) (i := 5) (by decide) (by simp [List.filter, cat_rf, cat_i, cat_j, cat_d, cat_a]) dL_fire_23 ?_
      refine r_iconst hC (3) rfl dL_fire_25 ?_
      exact e_I hC ⟨by omega, by omega⟩ dL_fire_26
    exact Or.inl (by simp only [if_neg g3, if_neg g1, if_neg g2])
  · show Wo _ _ _ _ _ _ _ _ _ _ [.int v1, .int 0, va_rf p4]
    refine r_i2l hC dL_fire_10 (fun v4 => ?_)
    refine r_wJ hC (r := p4) dL_fire_11 (fun σ5 => ?_)
    refine r_goto hC 27 dL_fire_12 (by decide) ?_
    refine r_iconst hC (0) rfl dL_fire_27 ?_
    exact e_I hC ⟨by omega, by omega⟩ dL_fire_28

set_option maxRecDepth 100000 in
set_option maxHeartbeats 4000000 in
theorem ct_L_fire {l : Launch} (hl : l.stackTraces = false) (G : Glb) (p0 : (Option Nat)) (p1 : Int32) (p2 : Int32) (p3 : Int32) (p4 : (Option Nat)) (σ : Mem) : Ct rvI l yL_fire (Cond.codeWith yL_fire cL_fire 6 (some .int) [(0, 12, 15, 25), (0, 12, 19, 13), (0, 12, 23, 15)] :: uW) { frames := 9, cells := 1, slots := 6, locals := 148 } 1 6 G [va_rf p0, .int p1, .int p2, .int p3, va_rf p4] σ (f_L_fire p0 p1 p2 p3 p4 σ) := by
  refine Ct.ofW hl (by decide +kernel) (by simp [lg_sl, cat_rf, cat_i, cat_j, cat_d, cat_a]) (fun C hC hE => ?_)
  have e : lv_args 0 [va_rf p0, .int p1, .int p2, .int p3, va_rf p4] = [(0, va_rf p0), (1, .int p1), (2, .int p2), (3, .int p3), (4, va_rf p4)] := by simp [lv_args, cat_rf, cat_i, cat_j, cat_d, cat_a]
  rw [e]
  exact t_L_fire_0 hC hE p0 p1 p2 p3 p4 σ 0 0 ⟨Nat.le_of_ble_eq_true rfl, Nat.le_of_ble_eq_true rfl⟩

noncomputable def b_L_sort_0 (p0 : (Option Nat)) (p1 : Int32) (p2 : (Option Nat)) (σ : Mem) : Option ((Int32) × Mem) :=
ob 6 σ p0 fun h3 => cx1 (f_X4_sort h3 p1 σ) (fun v1 σ2 =>
nm (v1.toInt64) fun v4 =>
wJ σ2 p2 0 v4 fun σ5 =>
some (0, σ5)) (fun k9 σ9 => if k9 = 3 then
some (1, σ9)
else if k9 = 2 then
some (2, σ9)
else none)

noncomputable def f_L_sort (p0 : (Option Nat)) (p1 : Int32) (p2 : (Option Nat)) (σ : Mem) : Option ((Int32) × Mem) := b_L_sort_0 p0 p1 p2 σ
set_option maxRecDepth 100000 in
set_option maxHeartbeats 4000000 in
theorem t_L_sort_0 {C : Cxt} {G : Glb} (hC : CX C G RL cL_sort 4 (some .int) 9 1 6 147) (hE : (cC C).exceptionTable.toList.map (fun h => (h.startPc, h.endPc, h.handlerPc, h.catchType)) = [(0, 9, 12, 25), (0, 9, 15, 15)]) (p0 : (Option Nat)) (p1 : Int32) (p2 : (Option Nat)) (σ : Mem) (kc ks : Nat) (hN : kc + 1 ≤ 1 ∧ ks + 6 ≤ 6) : Wo C G 4 (QP C G rvI 1 6) (b_L_sort_0  p0 p1 p2 σ) σ kc ks 0 [(0, va_rf p0), (1, .int p1), (2, va_rf p2)] [] := by
  unfold b_L_sort_0
  refine r_aloadn hC 2 (r := p2) rfl rfl dL_sort_0 ?_
  refine r_iconst hC (0) rfl dL_sort_1 ?_
  refine r_aloadn hC 0 (r := p0) rfl rfl dL_sort_2 ?_
  refine r_iloadn hC 1 rfl rfl dL_sort_3 ?_
  refine callH_V hC hE (av := [.int p1]) (st := [.int 0, va_rf p2]) (r := p0) (ci := 6) rfl rfl (fun h9 => ct_X4_sort hC.hl G h9 p1 σ) q_652 q_653 q_654 q_39 q_655 yd_X4_sort rfl ⟨Nat.le_of_ble_eq_true rfl, Nat.le_of_ble_eq_true rfl⟩ ⟨by omega, by omega⟩ ⟨by omega, by omega⟩ rfl (by simp [cat_rf, cat_i, cat_j, cat_d, cat_a]) dL_sort_4 (fun k9 σ9 => ?_) (fun v1 σ2 => ?_)
  · by_cases g3 : k9 = 3
    · subst g3
      refine Or.inr ⟨12, ⟨[], [(0, 9, 15, 15)], _, _, _, rfl, by decide, by decide, q_573, z_397, fun z hz => absurd hz List.not_mem_nil⟩, fun q9 => ?_⟩
      show Wo _ _ _ _ (if 3 = 3 then some (1, σ9) else if 3 = 2 then some (2, σ9) else none) _ _ _ _ _ _
      refine r_astoren hC [(3, va_rf (some q9)), (0, va_rf p0), (1, .int p1), (2, va_rf p2)] (r := (some q9)) (i := 3) rfl (by decide) (by simp [List.filter, cat_rf, cat_i, cat_j, cat_d, cat_a]) dL_sort_12 ?_
      refine r_iconst hC (1) rfl dL_sort_13 ?_
      exact e_I hC ⟨by omega, by omega⟩ dL_sort_14
    by_cases g2 : k9 = 2
    · subst g2
      refine Or.inr ⟨15, ⟨[(0, 9, 12, 25)], [], _, _, _, rfl, by decide, by decide, q_549, z_441, fun z hz => by
          simp only [List.mem_cons, List.not_mem_nil, or_false] at hz
          rcases hz with rfl
          · exact ⟨by decide, 3, q_573, hC.hK.1.2.2.2.2.2.2.2.2⟩
    ⟩, fun q9 => ?_⟩
      show Wo _ _ _ _ (if 2 = 3 then some (1, σ9) else if 2 = 2 then some (2, σ9) else none) _ _ _ _ _ _
      refine r_astoren hC [(3, va_rf (some q9)), (0, va_rf p0), (1, .int p1), (2, va_rf p2)] (r := (some q9)) (i := 3) rfl (by decide) (by simp [List.filter, cat_rf, cat_i, cat_j, cat_d, cat_a]) dL_sort_15 ?_
      refine r_iconst hC (2) rfl dL_sort_16 ?_
      exact e_I hC ⟨by omega, by omega⟩ dL_sort_17
    exact Or.inl (by simp only [if_neg g3, if_neg g2])
  · show Wo _ _ _ _ _ _ _ _ _ _ [.int v1, .int 0, va_rf p2]
    refine r_i2l hC dL_sort_7 (fun v4 => ?_)
    refine r_wJ hC (r := p2) dL_sort_8 (fun σ5 => ?_)
    refine r_goto hC 18 dL_sort_9 (by decide) ?_
    refine r_iconst hC (0) rfl dL_sort_18 ?_
    exact e_I hC ⟨by omega, by omega⟩ dL_sort_19

set_option maxRecDepth 100000 in
set_option maxHeartbeats 4000000 in
theorem ct_L_sort {l : Launch} (hl : l.stackTraces = false) (G : Glb) (p0 : (Option Nat)) (p1 : Int32) (p2 : (Option Nat)) (σ : Mem) : Ct rvI l yL_sort (Cond.codeWith yL_sort cL_sort 4 (some .int) [(0, 9, 12, 25), (0, 9, 15, 15)] :: uW) { frames := 9, cells := 1, slots := 6, locals := 147 } 1 6 G [va_rf p0, .int p1, va_rf p2] σ (f_L_sort p0 p1 p2 σ) := by
  refine Ct.ofW hl (by decide +kernel) (by simp [lg_sl, cat_rf, cat_i, cat_j, cat_d, cat_a]) (fun C hC hE => ?_)
  have e : lv_args 0 [va_rf p0, .int p1, va_rf p2] = [(0, va_rf p0), (1, .int p1), (2, va_rf p2)] := by simp [lv_args, cat_rf, cat_i, cat_j, cat_d, cat_a]
  rw [e]
  exact t_L_sort_0 hC hE p0 p1 p2 σ 0 0 ⟨Nat.le_of_ble_eq_true rfl, Nat.le_of_ble_eq_true rfl⟩

noncomputable def b_L_mix_0 (p0 : (Option Nat)) (p1 : Int32) (p2 : Int32) (p3 : Int32) (p4 : Int32) (p5 : (Option Nat)) (σ : Mem) : Option ((Int32) × Mem) :=
ob 6 σ p0 fun h3 => cx1 (f_X4_mix h3 p1 p2 p3 p4 σ) (fun v1 σ2 =>
nm (v1.toInt64) fun v4 =>
wJ σ2 p5 0 v4 fun σ5 =>
some (0, σ5)) (fun k9 σ9 => if k9 = 3 then
some (1, σ9)
else if k9 = 1 then
some (2, σ9)
else if k9 = 2 then
some (3, σ9)
else none)

noncomputable def f_L_mix (p0 : (Option Nat)) (p1 : Int32) (p2 : Int32) (p3 : Int32) (p4 : Int32) (p5 : (Option Nat)) (σ : Mem) : Option ((Int32) × Mem) := b_L_mix_0 p0 p1 p2 p3 p4 p5 σ
set_option maxRecDepth 100000 in
set_option maxHeartbeats 4000000 in
theorem t_L_mix_0 {C : Cxt} {G : Glb} (hC : CX C G RL cL_mix 7 (some .int) 9 1 6 152) (hE : (cC C).exceptionTable.toList.map (fun h => (h.startPc, h.endPc, h.handlerPc, h.catchType)) = [(0, 14, 17, 25), (0, 14, 21, 13), (0, 14, 25, 15)]) (p0 : (Option Nat)) (p1 : Int32) (p2 : Int32) (p3 : Int32) (p4 : Int32) (p5 : (Option Nat)) (σ : Mem) (kc ks : Nat) (hN : kc + 1 ≤ 1 ∧ ks + 6 ≤ 6) : Wo C G 7 (QP C G rvI 1 6) (b_L_mix_0  p0 p1 p2 p3 p4 p5 σ) σ kc ks 0 [(0, va_rf p0), (1, .int p1), (2, .int p2), (3, .int p3), (4, .int p4), (5, va_rf p5)] [] := by
  unfold b_L_mix_0
  refine r_aload hC 5 (r := p5) rfl dL_mix_0 ?_
  refine r_iconst hC (0) rfl dL_mix_2 ?_
  refine r_aloadn hC 0 (r := p0) rfl rfl dL_mix_3 ?_
  refine r_iloadn hC 1 rfl rfl dL_mix_4 ?_
  refine r_iloadn hC 2 rfl rfl dL_mix_5 ?_
  refine r_iloadn hC 3 rfl rfl dL_mix_6 ?_
  refine r_iload hC 4 rfl dL_mix_7 ?_
  refine callH_V hC hE (av := [.int p1, .int p2, .int p3, .int p4]) (st := [.int 0, va_rf p5]) (r := p0) (ci := 6) rfl rfl (fun h9 => ct_X4_mix hC.hl G h9 p1 p2 p3 p4 σ) q_673 q_674 q_675 q_39 q_676 yd_X4_mix rfl ⟨Nat.le_of_ble_eq_true rfl, Nat.le_of_ble_eq_true rfl⟩ ⟨by omega, by omega⟩ ⟨by omega, by omega⟩ rfl (by simp [cat_rf, cat_i, cat_j, cat_d, cat_a]) dL_mix_9 (fun k9 σ9 => ?_) (fun v1 σ2 => ?_)
  · by_cases g3 : k9 = 3
    · subst g3
      refine Or.inr ⟨17, ⟨[], [(0, 14, 21, 13), (0, 14, 25, 15)], _, _, _, rfl, by decide, by decide, q_573, z_397, fun z hz => absurd hz List.not_mem_nil⟩, fun q9 => ?_⟩
      show Wo _ _ _ _ (if 3 = 3 then some (1, σ9) else if 3 = 1 then some (2, σ9) else if 3 = 2 then some (3, σ9) else none) _ _ _ _ _ _
      refine r_astore hC [(6, va_rf (some q9)), (0, va_rf p0), (1, .int p1), (2, .int p2), (3, .int p3), (4, .int p4), (5, va_rf p5)] (r := (some q9)) (i := 6) (by decide) (by simp [List.filter, cat_rf, cat_i, cat_j, cat_d, cat_a]) dL_mix_17 ?_
      refine r_iconst hC (1) rfl dL_mix_19 ?_
      exact e_I hC ⟨by omega, by omega⟩ dL_mix_20
    by_cases g1 : k9 = 1
    · subst g1
      refine Or.inr ⟨21, ⟨[(0, 14, 17, 25)], [(0, 14, 25, 15)], _, _, _, rfl, by decide, by decide, q_548, z_315, fun z hz => by
          simp only [List.mem_cons, List.not_mem_nil, or_false] at hz
          rcases hz with rfl
          · exact ⟨by decide, 3, q_573, hC.hK.1.2.2.2.2.2.2.2.1⟩
    ⟩, fun q9 => ?_⟩
      show Wo _ _ _ _ (if 1 = 3 then some (1, σ9) else if 1 = 1 then some (2, σ9) else if 1 = 2 then some (3, σ9) else none) _ _ _ _ _ _
      refine r_astore hC [(6, va_rf (some q9)), (0, va_rf p0), (1, .int p1), (2, .int p2), (3, .int p3), (4, .int p4), (5, va_rf p5)] (r := (some q9)) (i := 6) (by decide) (by simp [List.filter, cat_rf, cat_i, cat_j, cat_d, cat_a]) dL_mix_21 ?_
      refine r_iconst hC (2) rfl dL_mix_23 ?_
      exact e_I hC ⟨by omega, by omega⟩ dL_mix_24
    by_cases g2 : k9 = 2
    · subst g2
      refine Or.inr ⟨25, ⟨[(0, 14, 17, 25), (0, 14, 21, 13)], [], _, _, _, rfl, by decide, by decide, q_549, z_441, fun z hz => by
          simp only [List.mem_cons, List.not_mem_nil, or_false] at hz
          rcases hz with rfl | rfl
          · exact ⟨by decide, 3, q_573, hC.hK.1.2.2.2.2.2.2.2.2⟩
          · exact ⟨by decide, 1, q_548, hC.hK.1.2.2.2.2.2.2.1⟩
    ⟩, fun q9 => ?_⟩
      show Wo _ _ _ _ (if 2 = 3 then some (1, σ9) else if 2 = 1 then some (2, σ9) else if 2 = 2 then some (3, σ9) else none) _ _ _ _ _ _
      refine r_astore hC [(6, va_rf (some q9)), (0, va_rf p0), (1, .int p1), (2, .int p2), (3, .int p3), (4, .int p4), (5, va_rf p5)] (r := (some q9)) (i := 6) (by decide) (by simp [List.filter, cat_rf, cat_i, cat_j, cat_d, cat_a]) dL_mix_25 ?_
      refine r_iconst hC (3) rfl dL_mix_27 ?_
      exact e_I hC ⟨by omega, by omega⟩ dL_mix_28
    exact Or.inl (by simp only [if_neg g3, if_neg g1, if_neg g2])
  · show Wo _ _ _ _ _ _ _ _ _ _ [.int v1, .int 0, va_rf p5]
    refine r_i2l hC dL_mix_12 (fun v4 => ?_)
    refine r_wJ hC (r := p5) dL_mix_13 (fun σ5 => ?_)
    refine r_goto hC 29 dL_mix_14 (by decide) ?_
    refine r_iconst hC (0) rfl dL_mix_29 ?_
    exact e_I hC ⟨by omega, by omega⟩ dL_mix_30

set_option maxRecDepth 100000 in
set_option maxHeartbeats 4000000 in
theorem ct_L_mix {l : Launch} (hl : l.stackTraces = false) (G : Glb) (p0 : (Option Nat)) (p1 : Int32) (p2 : Int32) (p3 : Int32) (p4 : Int32) (p5 : (Option Nat)) (σ : Mem) : Ct rvI l yL_mix (Cond.codeWith yL_mix cL_mix 7 (some .int) [(0, 14, 17, 25), (0, 14, 21, 13), (0, 14, 25, 15)] :: uW) { frames := 9, cells := 1, slots := 6, locals := 152 } 1 6 G [va_rf p0, .int p1, .int p2, .int p3, .int p4, va_rf p5] σ (f_L_mix p0 p1 p2 p3 p4 p5 σ) := by
  refine Ct.ofW hl (by decide +kernel) (by simp [lg_sl, cat_rf, cat_i, cat_j, cat_d, cat_a]) (fun C hC hE => ?_)
  have e : lv_args 0 [va_rf p0, .int p1, .int p2, .int p3, .int p4, va_rf p5] = [(0, va_rf p0), (1, .int p1), (2, .int p2), (3, .int p3), (4, .int p4), (5, va_rf p5)] := by simp [lv_args, cat_rf, cat_i, cat_j, cat_d, cat_a]
  rw [e]
  exact t_L_mix_0 hC hE p0 p1 p2 p3 p4 p5 σ 0 0 ⟨Nat.le_of_ble_eq_true rfl, Nat.le_of_ble_eq_true rfl⟩

noncomputable def b_L_lean_0 (p0 : (Option Nat)) (p1 : Int32) (p2 : Int32) (p3 : (Option Nat)) (σ : Mem) : Option ((Int32) × Mem) :=
ob 6 σ p0 fun h3 => cx1 (f_X4_lean h3 p1 p2 σ) (fun v1 σ2 =>
nm (v1.toInt64) fun v4 =>
wJ σ2 p3 0 v4 fun σ5 =>
some (0, σ5)) (fun k9 σ9 => if k9 = 3 then
some (1, σ9)
else if k9 = 1 then
some (2, σ9)
else none)

noncomputable def f_L_lean (p0 : (Option Nat)) (p1 : Int32) (p2 : Int32) (p3 : (Option Nat)) (σ : Mem) : Option ((Int32) × Mem) := b_L_lean_0 p0 p1 p2 p3 σ
set_option maxRecDepth 100000 in
set_option maxHeartbeats 4000000 in
theorem t_L_lean_0 {C : Cxt} {G : Glb} (hC : CX C G RL cL_lean 5 (some .int) 9 1 6 147) (hE : (cC C).exceptionTable.toList.map (fun h => (h.startPc, h.endPc, h.handlerPc, h.catchType)) = [(0, 10, 13, 25), (0, 10, 17, 13)]) (p0 : (Option Nat)) (p1 : Int32) (p2 : Int32) (p3 : (Option Nat)) (σ : Mem) (kc ks : Nat) (hN : kc + 1 ≤ 1 ∧ ks + 6 ≤ 6) : Wo C G 5 (QP C G rvI 1 6) (b_L_lean_0  p0 p1 p2 p3 σ) σ kc ks 0 [(0, va_rf p0), (1, .int p1), (2, .int p2), (3, va_rf p3)] [] := by
  unfold b_L_lean_0
  refine r_aloadn hC 3 (r := p3) rfl rfl dL_lean_0 ?_
  refine r_iconst hC (0) rfl dL_lean_1 ?_
  refine r_aloadn hC 0 (r := p0) rfl rfl dL_lean_2 ?_
  refine r_iloadn hC 1 rfl rfl dL_lean_3 ?_
  refine r_iloadn hC 2 rfl rfl dL_lean_4 ?_
  refine callH_V hC hE (av := [.int p1, .int p2]) (st := [.int 0, va_rf p3]) (r := p0) (ci := 6) rfl rfl (fun h9 => ct_X4_lean hC.hl G h9 p1 p2 σ) q_685 q_686 q_687 q_39 q_688 yd_X4_lean rfl ⟨Nat.le_of_ble_eq_true rfl, Nat.le_of_ble_eq_true rfl⟩ ⟨by omega, by omega⟩ ⟨by omega, by omega⟩ rfl (by simp [cat_rf, cat_i, cat_j, cat_d, cat_a]) dL_lean_5 (fun k9 σ9 => ?_) (fun v1 σ2 => ?_)
  · by_cases g3 : k9 = 3
    · subst g3
      refine Or.inr ⟨13, ⟨[], [(0, 10, 17, 13)], _, _, _, rfl, by decide, by decide, q_573, z_397, fun z hz => absurd hz List.not_mem_nil⟩, fun q9 => ?_⟩
      show Wo _ _ _ _ (if 3 = 3 then some (1, σ9) else if 3 = 1 then some (2, σ9) else none) _ _ _ _ _ _
      refine r_astore hC [(4, va_rf (some q9)), (0, va_rf p0), (1, .int p1), (2, .int p2), (3, va_rf p3)] (r := (some q9)) (i := 4) (by decide) (by simp [List.filter, cat_rf, cat_i, cat_j, cat_d, cat_a]) dL_lean_13 ?_
      refine r_iconst hC (1) rfl dL_lean_15 ?_
      exact e_I hC ⟨by omega, by omega⟩ dL_lean_16
    by_cases g1 : k9 = 1
    · subst g1
      refine Or.inr ⟨17, ⟨[(0, 10, 13, 25)], [], _, _, _, rfl, by decide, by decide, q_548, z_315, fun z hz => by
          simp only [List.mem_cons, List.not_mem_nil, or_false] at hz
          rcases hz with rfl
          · exact ⟨by decide, 3, q_573, hC.hK.1.2.2.2.2.2.2.2.1⟩
    ⟩, fun q9 => ?_⟩
      show Wo _ _ _ _ (if 1 = 3 then some (1, σ9) else if 1 = 1 then some (2, σ9) else none) _ _ _ _ _ _
      refine r_astore hC [(4, va_rf (some q9)), (0, va_rf p0), (1, .int p1), (2, .int p2), (3, va_rf p3)] (r := (some q9)) (i := 4) (by decide) (by simp [List.filter, cat_rf, cat_i, cat_j, cat_d, cat_a]) dL_lean_17 ?_
      refine r_iconst hC (2) rfl dL_lean_19 ?_
      exact e_I hC ⟨by omega, by omega⟩ dL_lean_20
    exact Or.inl (by simp only [if_neg g3, if_neg g1])
  · show Wo _ _ _ _ _ _ _ _ _ _ [.int v1, .int 0, va_rf p3]
    refine r_i2l hC dL_lean_8 (fun v4 => ?_)
    refine r_wJ hC (r := p3) dL_lean_9 (fun σ5 => ?_)
    refine r_goto hC 21 dL_lean_10 (by decide) ?_
    refine r_iconst hC (0) rfl dL_lean_21 ?_
    exact e_I hC ⟨by omega, by omega⟩ dL_lean_22

set_option maxRecDepth 100000 in
set_option maxHeartbeats 4000000 in
theorem ct_L_lean {l : Launch} (hl : l.stackTraces = false) (G : Glb) (p0 : (Option Nat)) (p1 : Int32) (p2 : Int32) (p3 : (Option Nat)) (σ : Mem) : Ct rvI l yL_lean (Cond.codeWith yL_lean cL_lean 5 (some .int) [(0, 10, 13, 25), (0, 10, 17, 13)] :: uW) { frames := 9, cells := 1, slots := 6, locals := 147 } 1 6 G [va_rf p0, .int p1, .int p2, va_rf p3] σ (f_L_lean p0 p1 p2 p3 σ) := by
  refine Ct.ofW hl (by decide +kernel) (by simp [lg_sl, cat_rf, cat_i, cat_j, cat_d, cat_a]) (fun C hC hE => ?_)
  have e : lv_args 0 [va_rf p0, .int p1, .int p2, va_rf p3] = [(0, va_rf p0), (1, .int p1), (2, .int p2), (3, va_rf p3)] := by simp [lv_args, cat_rf, cat_i, cat_j, cat_d, cat_a]
  rw [e]
  exact t_L_lean_0 hC hE p0 p1 p2 p3 σ 0 0 ⟨Nat.le_of_ble_eq_true rfl, Nat.le_of_ble_eq_true rfl⟩

noncomputable def b_L_repeat_0 (p0 : (Option Nat)) (p1 : Int32) (p2 : Int32) (p3 : (Option Nat)) (σ : Mem) : Option ((Int32) × Mem) :=
ob 6 σ p0 fun h3 => cx1 (f_X4_repeat h3 p1 p2 σ) (fun v1 σ2 =>
nm (v1.toInt64) fun v4 =>
wJ σ2 p3 0 v4 fun σ5 =>
some (0, σ5)) (fun k9 σ9 => if k9 = 3 then
some (1, σ9)
else if k9 = 2 then
some (2, σ9)
else none)

noncomputable def f_L_repeat (p0 : (Option Nat)) (p1 : Int32) (p2 : Int32) (p3 : (Option Nat)) (σ : Mem) : Option ((Int32) × Mem) := b_L_repeat_0 p0 p1 p2 p3 σ
set_option maxRecDepth 100000 in
set_option maxHeartbeats 4000000 in
theorem t_L_repeat_0 {C : Cxt} {G : Glb} (hC : CX C G RL cL_repeat 5 (some .int) 10 1 6 171) (hE : (cC C).exceptionTable.toList.map (fun h => (h.startPc, h.endPc, h.handlerPc, h.catchType)) = [(0, 10, 13, 25), (0, 10, 17, 15)]) (p0 : (Option Nat)) (p1 : Int32) (p2 : Int32) (p3 : (Option Nat)) (σ : Mem) (kc ks : Nat) (hN : kc + 1 ≤ 1 ∧ ks + 6 ≤ 6) : Wo C G 5 (QP C G rvI 1 6) (b_L_repeat_0  p0 p1 p2 p3 σ) σ kc ks 0 [(0, va_rf p0), (1, .int p1), (2, .int p2), (3, va_rf p3)] [] := by
  unfold b_L_repeat_0
  refine r_aloadn hC 3 (r := p3) rfl rfl dL_repeat_0 ?_
  refine r_iconst hC (0) rfl dL_repeat_1 ?_
  refine r_aloadn hC 0 (r := p0) rfl rfl dL_repeat_2 ?_
  refine r_iloadn hC 1 rfl rfl dL_repeat_3 ?_
  refine r_iloadn hC 2 rfl rfl dL_repeat_4 ?_
  refine callH_V hC hE (av := [.int p1, .int p2]) (st := [.int 0, va_rf p3]) (r := p0) (ci := 6) rfl rfl (fun h9 => ct_X4_repeat hC.hl G h9 p1 p2 σ) q_692 q_693 q_694 q_39 q_695 yd_X4_repeat rfl ⟨Nat.le_of_ble_eq_true rfl, Nat.le_of_ble_eq_true rfl⟩ ⟨by omega, by omega⟩ ⟨by omega, by omega⟩ rfl (by simp [cat_rf, cat_i, cat_j, cat_d, cat_a]) dL_repeat_5 (fun k9 σ9 => ?_) (fun v1 σ2 => ?_)
  · by_cases g3 : k9 = 3
    · subst g3
      refine Or.inr ⟨13, ⟨[], [(0, 10, 17, 15)], _, _, _, rfl, by decide, by decide, q_573, z_397, fun z hz => absurd hz List.not_mem_nil⟩, fun q9 => ?_⟩
      show Wo _ _ _ _ (if 3 = 3 then some (1, σ9) else if 3 = 2 then some (2, σ9) else none) _ _ _ _ _ _
      refine r_astore hC [(4, va_rf (some q9)), (0, va_rf p0), (1, .int p1), (2, .int p2), (3, va_rf p3)] (r := (some q9)) (i := 4) (by decide) (by simp [List.filter, cat_rf, cat_i, cat_j, cat_d, cat_a]) dL_repeat_13 ?_
      refine r_iconst hC (1) rfl dL_repeat_15 ?_
      exact e_I hC ⟨by omega, by omega⟩ dL_repeat_16
    by_cases g2 : k9 = 2
    · subst g2
      refine Or.inr ⟨17, ⟨[(0, 10, 13, 25)], [], _, _, _, rfl, by decide, by decide, q_549, z_441, fun z hz => by
          simp only [List.mem_cons, List.not_mem_nil, or_false] at hz
          rcases hz with rfl
          · exact ⟨by decide, 3, q_573, hC.hK.1.2.2.2.2.2.2.2.2⟩
    ⟩, fun q9 => ?_⟩
      show Wo _ _ _ _ (if 2 = 3 then some (1, σ9) else if 2 = 2 then some (2, σ9) else none) _ _ _ _ _ _
      refine r_astore hC [(4, va_rf (some q9)), (0, va_rf p0), (1, .int p1), (2, .int p2), (3, va_rf p3)] (r := (some q9)) (i := 4) (by decide) (by simp [List.filter, cat_rf, cat_i, cat_j, cat_d, cat_a]) dL_repeat_17 ?_
      refine r_iconst hC (2) rfl dL_repeat_19 ?_
      exact e_I hC ⟨by omega, by omega⟩ dL_repeat_20
    exact Or.inl (by simp only [if_neg g3, if_neg g2])
  · show Wo _ _ _ _ _ _ _ _ _ _ [.int v1, .int 0, va_rf p3]
    refine r_i2l hC dL_repeat_8 (fun v4 => ?_)
    refine r_wJ hC (r := p3) dL_repeat_9 (fun σ5 => ?_)
    refine r_goto hC 21 dL_repeat_10 (by decide) ?_
    refine r_iconst hC (0) rfl dL_repeat_21 ?_
    exact e_I hC ⟨by omega, by omega⟩ dL_repeat_22

set_option maxRecDepth 100000 in
set_option maxHeartbeats 4000000 in
theorem ct_L_repeat {l : Launch} (hl : l.stackTraces = false) (G : Glb) (p0 : (Option Nat)) (p1 : Int32) (p2 : Int32) (p3 : (Option Nat)) (σ : Mem) : Ct rvI l yL_repeat (Cond.codeWith yL_repeat cL_repeat 5 (some .int) [(0, 10, 13, 25), (0, 10, 17, 15)] :: uW) { frames := 10, cells := 1, slots := 6, locals := 171 } 1 6 G [va_rf p0, .int p1, .int p2, va_rf p3] σ (f_L_repeat p0 p1 p2 p3 σ) := by
  refine Ct.ofW hl (by decide +kernel) (by simp [lg_sl, cat_rf, cat_i, cat_j, cat_d, cat_a]) (fun C hC hE => ?_)
  have e : lv_args 0 [va_rf p0, .int p1, .int p2, va_rf p3] = [(0, va_rf p0), (1, .int p1), (2, .int p2), (3, va_rf p3)] := by simp [lv_args, cat_rf, cat_i, cat_j, cat_d, cat_a]
  rw [e]
  exact t_L_repeat_0 hC hE p0 p1 p2 p3 σ 0 0 ⟨Nat.le_of_ble_eq_true rfl, Nat.le_of_ble_eq_true rfl⟩

noncomputable def b_L_purse_0 (p0 : (Option Nat)) (p1 : Int32) (p2 : Int32) (p3 : (Option Nat)) (σ : Mem) : Option ((Int32) × Mem) :=
ob 6 σ p0 fun h3 => cx1 (f_X4_purse h3 p1 p2 σ) (fun v1 σ2 =>
nm (v1.toInt64) fun v4 =>
wJ σ2 p3 0 v4 fun σ5 =>
some (0, σ5)) (fun k9 σ9 => if k9 = 3 then
some (1, σ9)
else if k9 = 1 then
some (2, σ9)
else none)

noncomputable def f_L_purse (p0 : (Option Nat)) (p1 : Int32) (p2 : Int32) (p3 : (Option Nat)) (σ : Mem) : Option ((Int32) × Mem) := b_L_purse_0 p0 p1 p2 p3 σ
set_option maxRecDepth 100000 in
set_option maxHeartbeats 4000000 in
theorem t_L_purse_0 {C : Cxt} {G : Glb} (hC : CX C G RL cL_purse 5 (some .int) 8 1 6 125) (hE : (cC C).exceptionTable.toList.map (fun h => (h.startPc, h.endPc, h.handlerPc, h.catchType)) = [(0, 10, 13, 25), (0, 10, 17, 13)]) (p0 : (Option Nat)) (p1 : Int32) (p2 : Int32) (p3 : (Option Nat)) (σ : Mem) (kc ks : Nat) (hN : kc + 1 ≤ 1 ∧ ks + 6 ≤ 6) : Wo C G 5 (QP C G rvI 1 6) (b_L_purse_0  p0 p1 p2 p3 σ) σ kc ks 0 [(0, va_rf p0), (1, .int p1), (2, .int p2), (3, va_rf p3)] [] := by
  unfold b_L_purse_0
  refine r_aloadn hC 3 (r := p3) rfl rfl dL_purse_0 ?_
  refine r_iconst hC (0) rfl dL_purse_1 ?_
  refine r_aloadn hC 0 (r := p0) rfl rfl dL_purse_2 ?_
  refine r_iloadn hC 1 rfl rfl dL_purse_3 ?_
  refine r_iloadn hC 2 rfl rfl dL_purse_4 ?_
  refine callH_V hC hE (av := [.int p1, .int p2]) (st := [.int 0, va_rf p3]) (r := p0) (ci := 6) rfl rfl (fun h9 => ct_X4_purse hC.hl G h9 p1 p2 σ) q_703 q_704 q_705 q_39 q_706 yd_X4_purse rfl ⟨Nat.le_of_ble_eq_true rfl, Nat.le_of_ble_eq_true rfl⟩ ⟨by omega, by omega⟩ ⟨by omega, by omega⟩ rfl (by simp [cat_rf, cat_i, cat_j, cat_d, cat_a]) dL_purse_5 (fun k9 σ9 => ?_) (fun v1 σ2 => ?_)
  · by_cases g3 : k9 = 3
    · subst g3
      refine Or.inr ⟨13, ⟨[], [(0, 10, 17, 13)], _, _, _, rfl, by decide, by decide, q_573, z_397, fun z hz => absurd hz List.not_mem_nil⟩, fun q9 => ?_⟩
      show Wo _ _ _ _ (if 3 = 3 then some (1, σ9) else if 3 = 1 then some (2, σ9) else none) _ _ _ _ _ _
      refine r_astore hC [(4, va_rf (some q9)), (0, va_rf p0), (1, .int p1), (2, .int p2), (3, va_rf p3)] (r := (some q9)) (i := 4) (by decide) (by simp [List.filter, cat_rf, cat_i, cat_j, cat_d, cat_a]) dL_purse_13 ?_
      refine r_iconst hC (1) rfl dL_purse_15 ?_
      exact e_I hC ⟨by omega, by omega⟩ dL_purse_16
    by_cases g1 : k9 = 1
    · subst g1
      refine Or.inr ⟨17, ⟨[(0, 10, 13, 25)], [], _, _, _, rfl, by decide, by decide, q_548, z_315, fun z hz => by
          simp only [List.mem_cons, List.not_mem_nil, or_false] at hz
          rcases hz with rfl
          · exact ⟨by decide, 3, q_573, hC.hK.1.2.2.2.2.2.2.2.1⟩
    ⟩, fun q9 => ?_⟩
      show Wo _ _ _ _ (if 1 = 3 then some (1, σ9) else if 1 = 1 then some (2, σ9) else none) _ _ _ _ _ _
      refine r_astore hC [(4, va_rf (some q9)), (0, va_rf p0), (1, .int p1), (2, .int p2), (3, va_rf p3)] (r := (some q9)) (i := 4) (by decide) (by simp [List.filter, cat_rf, cat_i, cat_j, cat_d, cat_a]) dL_purse_17 ?_
      refine r_iconst hC (2) rfl dL_purse_19 ?_
      exact e_I hC ⟨by omega, by omega⟩ dL_purse_20
    exact Or.inl (by simp only [if_neg g3, if_neg g1])
  · show Wo _ _ _ _ _ _ _ _ _ _ [.int v1, .int 0, va_rf p3]
    refine r_i2l hC dL_purse_8 (fun v4 => ?_)
    refine r_wJ hC (r := p3) dL_purse_9 (fun σ5 => ?_)
    refine r_goto hC 21 dL_purse_10 (by decide) ?_
    refine r_iconst hC (0) rfl dL_purse_21 ?_
    exact e_I hC ⟨by omega, by omega⟩ dL_purse_22

set_option maxRecDepth 100000 in
set_option maxHeartbeats 4000000 in
theorem ct_L_purse {l : Launch} (hl : l.stackTraces = false) (G : Glb) (p0 : (Option Nat)) (p1 : Int32) (p2 : Int32) (p3 : (Option Nat)) (σ : Mem) : Ct rvI l yL_purse (Cond.codeWith yL_purse cL_purse 5 (some .int) [(0, 10, 13, 25), (0, 10, 17, 13)] :: uW) { frames := 8, cells := 1, slots := 6, locals := 125 } 1 6 G [va_rf p0, .int p1, .int p2, va_rf p3] σ (f_L_purse p0 p1 p2 p3 σ) := by
  refine Ct.ofW hl (by decide +kernel) (by simp [lg_sl, cat_rf, cat_i, cat_j, cat_d, cat_a]) (fun C hC hE => ?_)
  have e : lv_args 0 [va_rf p0, .int p1, .int p2, va_rf p3] = [(0, va_rf p0), (1, .int p1), (2, .int p2), (3, va_rf p3)] := by simp [lv_args, cat_rf, cat_i, cat_j, cat_d, cat_a]
  rw [e]
  exact t_L_purse_0 hC hE p0 p1 p2 p3 σ 0 0 ⟨Nat.le_of_ble_eq_true rfl, Nat.le_of_ble_eq_true rfl⟩

noncomputable def b_L_offer_0 (p0 : (Option Nat)) (p1 : Int32) (p2 : Int32) (p3 : (Option Nat)) (σ : Mem) : Option ((Int32) × Mem) :=
ob 6 σ p0 fun h3 => cx1 (f_X4_offer h3 p1 p2 σ) (fun v1 σ2 =>
nm (v1.toInt64) fun v4 =>
wJ σ2 p3 0 v4 fun σ5 =>
some (0, σ5)) (fun k9 σ9 => if k9 = 3 then
some (1, σ9)
else if k9 = 1 then
some (2, σ9)
else if k9 = 2 then
some (3, σ9)
else none)

noncomputable def f_L_offer (p0 : (Option Nat)) (p1 : Int32) (p2 : Int32) (p3 : (Option Nat)) (σ : Mem) : Option ((Int32) × Mem) := b_L_offer_0 p0 p1 p2 p3 σ
set_option maxRecDepth 100000 in
set_option maxHeartbeats 4000000 in
theorem t_L_offer_0 {C : Cxt} {G : Glb} (hC : CX C G RL cL_offer 5 (some .int) 9 1 6 148) (hE : (cC C).exceptionTable.toList.map (fun h => (h.startPc, h.endPc, h.handlerPc, h.catchType)) = [(0, 10, 13, 25), (0, 10, 17, 13), (0, 10, 21, 15)]) (p0 : (Option Nat)) (p1 : Int32) (p2 : Int32) (p3 : (Option Nat)) (σ : Mem) (kc ks : Nat) (hN : kc + 1 ≤ 1 ∧ ks + 6 ≤ 6) : Wo C G 5 (QP C G rvI 1 6) (b_L_offer_0  p0 p1 p2 p3 σ) σ kc ks 0 [(0, va_rf p0), (1, .int p1), (2, .int p2), (3, va_rf p3)] [] := by
  unfold b_L_offer_0
  refine r_aloadn hC 3 (r := p3) rfl rfl dL_offer_0 ?_
  refine r_iconst hC (0) rfl dL_offer_1 ?_
  refine r_aloadn hC 0 (r := p0) rfl rfl dL_offer_2 ?_
  refine r_iloadn hC 1 rfl rfl dL_offer_3 ?_
  refine r_iloadn hC 2 rfl rfl dL_offer_4 ?_
  refine callH_V hC hE (av := [.int p1, .int p2]) (st := [.int 0, va_rf p3]) (r := p0) (ci := 6) rfl rfl (fun h9 => ct_X4_offer hC.hl G h9 p1 p2 σ) q_710 q_711 q_712 q_39 q_713 yd_X4_offer rfl ⟨Nat.le_of_ble_eq_true rfl, Nat.le_of_ble_eq_true rfl⟩ ⟨by omega, by omega⟩ ⟨by omega, by omega⟩ rfl (by simp [cat_rf, cat_i, cat_j, cat_d, cat_a]) dL_offer_5 (fun k9 σ9 => ?_) (fun v1 σ2 => ?_)
  · by_cases g3 : k9 = 3
    · subst g3
      refine Or.inr ⟨13, ⟨[], [(0, 10, 17, 13), (0, 10, 21, 15)], _, _, _, rfl, by decide, by decide, q_573, z_397, fun z hz => absurd hz List.not_mem_nil⟩, fun q9 => ?_⟩
      show Wo _ _ _ _ (if 3 = 3 then some (1, σ9) else if 3 = 1 then some (2, σ9) else if 3 = 2 then some (3, σ9) else none) _ _ _ _ _ _
      refine r_astore hC [(4, va_rf (some q9)), (0, va_rf p0), (1, .int p1), (2, .int p2), (3, va_rf p3)] (r := (some q9)) (i := 4) (by decide) (by simp [List.filter, cat_rf, cat_i, cat_j, cat_d, cat_a]) dL_offer_13 ?_
      refine r_iconst hC (1) rfl dL_offer_15 ?_
      exact e_I hC ⟨by omega, by omega⟩ dL_offer_16
    by_cases g1 : k9 = 1
    · subst g1
      refine Or.inr ⟨17, ⟨[(0, 10, 13, 25)], [(0, 10, 21, 15)], _, _, _, rfl, by decide, by decide, q_548, z_315, fun z hz => by
          simp only [List.mem_cons, List.not_mem_nil, or_false] at hz
          rcases hz with rfl
          · exact ⟨by decide, 3, q_573, hC.hK.1.2.2.2.2.2.2.2.1⟩
    ⟩, fun q9 => ?_⟩
      show Wo _ _ _ _ (if 1 = 3 then some (1, σ9) else if 1 = 1 then some (2, σ9) else if 1 = 2 then some (3, σ9) else none) _ _ _ _ _ _
      refine r_astore hC [(4, va_rf (some q9)), (0, va_rf p0), (1, .int p1), (2, .int p2), (3, va_rf p3)] (r := (some q9)) (i := 4) (by decide) (by simp [List.filter, cat_rf, cat_i, cat_j, cat_d, cat_a]) dL_offer_17 ?_
      refine r_iconst hC (2) rfl dL_offer_19 ?_
      exact e_I hC ⟨by omega, by omega⟩ dL_offer_20
    by_cases g2 : k9 = 2
    · subst g2
      refine Or.inr ⟨21, ⟨[(0, 10, 13, 25), (0, 10, 17, 13)], [], _, _, _, rfl, by decide, by decide, q_549, z_441, fun z hz => by
          simp only [List.mem_cons, List.not_mem_nil, or_false] at hz
          rcases hz with rfl | rfl
          · exact ⟨by decide, 3, q_573, hC.hK.1.2.2.2.2.2.2.2.2⟩
          · exact ⟨by decide, 1, q_548, hC.hK.1.2.2.2.2.2.2.1⟩
    ⟩, fun q9 => ?_⟩
      show Wo _ _ _ _ (if 2 = 3 then some (1, σ9) else if 2 = 1 then some (2, σ9) else if 2 = 2 then some (3, σ9) else none) _ _ _ _ _ _
      refine r_astore hC [(4, va_rf (some q9)), (0, va_rf p0), (1, .int p1), (2, .int p2), (3, va_rf p3)] (r := (some q9)) (i := 4) (by decide) (by simp [List.filter, cat_rf, cat_i, cat_j, cat_d, cat_a]) dL_offer_21 ?_
      refine r_iconst hC (3) rfl dL_offer_23 ?_
      exact e_I hC ⟨by omega, by omega⟩ dL_offer_24
    exact Or.inl (by simp only [if_neg g3, if_neg g1, if_neg g2])
  · show Wo _ _ _ _ _ _ _ _ _ _ [.int v1, .int 0, va_rf p3]
    refine r_i2l hC dL_offer_8 (fun v4 => ?_)
    refine r_wJ hC (r := p3) dL_offer_9 (fun σ5 => ?_)
    refine r_goto hC 25 dL_offer_10 (by decide) ?_
    refine r_iconst hC (0) rfl dL_offer_25 ?_
    exact e_I hC ⟨by omega, by omega⟩ dL_offer_26

set_option maxRecDepth 100000 in
set_option maxHeartbeats 4000000 in
theorem ct_L_offer {l : Launch} (hl : l.stackTraces = false) (G : Glb) (p0 : (Option Nat)) (p1 : Int32) (p2 : Int32) (p3 : (Option Nat)) (σ : Mem) : Ct rvI l yL_offer (Cond.codeWith yL_offer cL_offer 5 (some .int) [(0, 10, 13, 25), (0, 10, 17, 13), (0, 10, 21, 15)] :: uW) { frames := 9, cells := 1, slots := 6, locals := 148 } 1 6 G [va_rf p0, .int p1, .int p2, va_rf p3] σ (f_L_offer p0 p1 p2 p3 σ) := by
  refine Ct.ofW hl (by decide +kernel) (by simp [lg_sl, cat_rf, cat_i, cat_j, cat_d, cat_a]) (fun C hC hE => ?_)
  have e : lv_args 0 [va_rf p0, .int p1, .int p2, va_rf p3] = [(0, va_rf p0), (1, .int p1), (2, .int p2), (3, va_rf p3)] := by simp [lv_args, cat_rf, cat_i, cat_j, cat_d, cat_a]
  rw [e]
  exact t_L_offer_0 hC hE p0 p1 p2 p3 σ 0 0 ⟨Nat.le_of_ble_eq_true rfl, Nat.le_of_ble_eq_true rfl⟩

noncomputable def b_L_bid_0 (p0 : (Option Nat)) (p1 : Int32) (p2 : Int32) (p3 : Int32) (p4 : (Option Nat)) (σ : Mem) : Option ((Int32) × Mem) :=
ob 6 σ p0 fun h3 => cx1 (f_X4_bid h3 p1 p2 p3 σ) (fun v1 σ2 =>
nm (v1.toInt64) fun v4 =>
wJ σ2 p4 0 v4 fun σ5 =>
some (0, σ5)) (fun k9 σ9 => if k9 = 3 then
some (1, σ9)
else if k9 = 1 then
some (2, σ9)
else if k9 = 2 then
some (3, σ9)
else none)

noncomputable def f_L_bid (p0 : (Option Nat)) (p1 : Int32) (p2 : Int32) (p3 : Int32) (p4 : (Option Nat)) (σ : Mem) : Option ((Int32) × Mem) := b_L_bid_0 p0 p1 p2 p3 p4 σ
set_option maxRecDepth 100000 in
set_option maxHeartbeats 4000000 in
theorem t_L_bid_0 {C : Cxt} {G : Glb} (hC : CX C G RL cL_bid 6 (some .int) 9 1 6 147) (hE : (cC C).exceptionTable.toList.map (fun h => (h.startPc, h.endPc, h.handlerPc, h.catchType)) = [(0, 12, 15, 25), (0, 12, 19, 13), (0, 12, 23, 15)]) (p0 : (Option Nat)) (p1 : Int32) (p2 : Int32) (p3 : Int32) (p4 : (Option Nat)) (σ : Mem) (kc ks : Nat) (hN : kc + 1 ≤ 1 ∧ ks + 6 ≤ 6) : Wo C G 6 (QP C G rvI 1 6) (b_L_bid_0  p0 p1 p2 p3 p4 σ) σ kc ks 0 [(0, va_rf p0), (1, .int p1), (2, .int p2), (3, .int p3), (4, va_rf p4)] [] := by
  unfold b_L_bid_0
  refine r_aload hC 4 (r := p4) rfl dL_bid_0 ?_
  refine r_iconst hC (0) rfl dL_bid_2 ?_
  refine r_aloadn hC 0 (r := p0) rfl rfl dL_bid_3 ?_
  refine r_iloadn hC 1 rfl rfl dL_bid_4 ?_
  refine r_iloadn hC 2 rfl rfl dL_bid_5 ?_
  refine r_iloadn hC 3 rfl rfl dL_bid_6 ?_
  refine callH_V hC hE (av := [.int p1, .int p2, .int p3]) (st := [.int 0, va_rf p4]) (r := p0) (ci := 6) rfl rfl (fun h9 => ct_X4_bid hC.hl G h9 p1 p2 p3 σ) q_717 q_718 q_719 q_39 q_720 yd_X4_bid rfl ⟨Nat.le_of_ble_eq_true rfl, Nat.le_of_ble_eq_true rfl⟩ ⟨by omega, by omega⟩ ⟨by omega, by omega⟩ rfl (by simp [cat_rf, cat_i, cat_j, cat_d, cat_a]) dL_bid_7 (fun k9 σ9 => ?_) (fun v1 σ2 => ?_)
  · by_cases g3 : k9 = 3
    · subst g3
      refine Or.inr ⟨15, ⟨[], [(0, 12, 19, 13), (0, 12, 23, 15)], _, _, _, rfl, by decide, by decide, q_573, z_397, fun z hz => absurd hz List.not_mem_nil⟩, fun q9 => ?_⟩
      show Wo _ _ _ _ (if 3 = 3 then some (1, σ9) else if 3 = 1 then some (2, σ9) else if 3 = 2 then some (3, σ9) else none) _ _ _ _ _ _
      refine r_astore hC [(5, va_rf (some q9)), (0, va_rf p0), (1, .int p1), (2, .int p2), (3, .int p3), (4, va_rf p4)] (r := (some q9)) (i := 5) (by decide) (by simp [List.filter, cat_rf, cat_i, cat_j, cat_d, cat_a]) dL_bid_15 ?_
      refine r_iconst hC (1) rfl dL_bid_17 ?_
      exact e_I hC ⟨by omega, by omega⟩ dL_bid_18
    by_cases g1 : k9 = 1
    · subst g1
      refine Or.inr ⟨19, ⟨[(0, 12, 15, 25)], [(0, 12, 23, 15)], _, _, _, rfl, by decide, by decide, q_548, z_315, fun z hz => by
          simp only [List.mem_cons, List.not_mem_nil, or_false] at hz
          rcases hz with rfl
          · exact ⟨by decide, 3, q_573, hC.hK.1.2.2.2.2.2.2.2.1⟩
    ⟩, fun q9 => ?_⟩
      show Wo _ _ _ _ (if 1 = 3 then some (1, σ9) else if 1 = 1 then some (2, σ9) else if 1 = 2 then some (3, σ9) else none) _ _ _ _ _ _
      refine r_astore hC [(5, va_rf (some q9)), (0, va_rf p0), (1, .int p1), (2, .int p2), (3, .int p3), (4, va_rf p4)] (r := (some q9)) (i := 5) (by decide) (by simp [List.filter, cat_rf, cat_i, cat_j, cat_d, cat_a]) dL_bid_19 ?_
      refine r_iconst hC (2) rfl dL_bid_21 ?_
      exact e_I hC ⟨by omega, by omega⟩ dL_bid_22
    by_cases g2 : k9 = 2
    · subst g2
      refine Or.inr ⟨23, ⟨[(0, 12, 15, 25), (0, 12, 19, 13)], [], _, _, _, rfl, by decide, by decide, q_549, z_441, fun z hz => by
          simp only [List.mem_cons, List.not_mem_nil, or_false] at hz
          rcases hz with rfl | rfl
          · exact ⟨by decide, 3, q_573, hC.hK.1.2.2.2.2.2.2.2.2⟩
          · exact ⟨by decide, 1, q_548, hC.hK.1.2.2.2.2.2.2.1⟩
    ⟩, fun q9 => ?_⟩
      show Wo _ _ _ _ (if 2 = 3 then some (1, σ9) else if 2 = 1 then some (2, σ9) else if 2 = 2 then some (3, σ9) else none) _ _ _ _ _ _
      refine r_astore hC [(5, va_rf (some q9)), (0, va_rf p0), (1, .int p1), (2, .int p2), (3, .int p3), (4, va_rf p4)] (r := (some q9)) (i := 5) (by decide) (by simp [List.filter, cat_rf, cat_i, cat_j, cat_d, cat_a]) dL_bid_23 ?_
      refine r_iconst hC (3) rfl dL_bid_25 ?_
      exact e_I hC ⟨by omega, by omega⟩ dL_bid_26
    exact Or.inl (by simp only [if_neg g3, if_neg g1, if_neg g2])
  · show Wo _ _ _ _ _ _ _ _ _ _ [.int v1, .int 0, va_rf p4]
    refine r_i2l hC dL_bid_10 (fun v4 => ?_)
    refine r_wJ hC (r := p4) dL_bid_11 (fun σ5 => ?_)
    refine r_goto hC 27 dL_bid_12 (by decide) ?_
    refine r_iconst hC (0) rfl dL_bid_27 ?_
    exact e_I hC ⟨by omega, by omega⟩ dL_bid_28

set_option maxRecDepth 100000 in
set_option maxHeartbeats 4000000 in
theorem ct_L_bid {l : Launch} (hl : l.stackTraces = false) (G : Glb) (p0 : (Option Nat)) (p1 : Int32) (p2 : Int32) (p3 : Int32) (p4 : (Option Nat)) (σ : Mem) : Ct rvI l yL_bid (Cond.codeWith yL_bid cL_bid 6 (some .int) [(0, 12, 15, 25), (0, 12, 19, 13), (0, 12, 23, 15)] :: uW) { frames := 9, cells := 1, slots := 6, locals := 147 } 1 6 G [va_rf p0, .int p1, .int p2, .int p3, va_rf p4] σ (f_L_bid p0 p1 p2 p3 p4 σ) := by
  refine Ct.ofW hl (by decide +kernel) (by simp [lg_sl, cat_rf, cat_i, cat_j, cat_d, cat_a]) (fun C hC hE => ?_)
  have e : lv_args 0 [va_rf p0, .int p1, .int p2, .int p3, va_rf p4] = [(0, va_rf p0), (1, .int p1), (2, .int p2), (3, .int p3), (4, va_rf p4)] := by simp [lv_args, cat_rf, cat_i, cat_j, cat_d, cat_a]
  rw [e]
  exact t_L_bid_0 hC hE p0 p1 p2 p3 p4 σ 0 0 ⟨Nat.le_of_ble_eq_true rfl, Nat.le_of_ble_eq_true rfl⟩

noncomputable def b_L_knock_0 (p0 : (Option Nat)) (p1 : Int32) (p2 : (Option Nat)) (σ : Mem) : Option ((Int32) × Mem) :=
ob 6 σ p0 fun h3 => cx1 (f_X4_knock h3 p1 σ) (fun v1 σ2 =>
nm (v1.toInt64) fun v4 =>
wJ σ2 p2 0 v4 fun σ5 =>
some (0, σ5)) (fun k9 σ9 => if k9 = 3 then
some (1, σ9)
else if k9 = 2 then
some (2, σ9)
else none)

noncomputable def f_L_knock (p0 : (Option Nat)) (p1 : Int32) (p2 : (Option Nat)) (σ : Mem) : Option ((Int32) × Mem) := b_L_knock_0 p0 p1 p2 σ
set_option maxRecDepth 100000 in
set_option maxHeartbeats 4000000 in
theorem t_L_knock_0 {C : Cxt} {G : Glb} (hC : CX C G RL cL_knock 4 (some .int) 9 1 6 147) (hE : (cC C).exceptionTable.toList.map (fun h => (h.startPc, h.endPc, h.handlerPc, h.catchType)) = [(0, 9, 12, 25), (0, 9, 15, 15)]) (p0 : (Option Nat)) (p1 : Int32) (p2 : (Option Nat)) (σ : Mem) (kc ks : Nat) (hN : kc + 1 ≤ 1 ∧ ks + 6 ≤ 6) : Wo C G 4 (QP C G rvI 1 6) (b_L_knock_0  p0 p1 p2 σ) σ kc ks 0 [(0, va_rf p0), (1, .int p1), (2, va_rf p2)] [] := by
  unfold b_L_knock_0
  refine r_aloadn hC 2 (r := p2) rfl rfl dL_knock_0 ?_
  refine r_iconst hC (0) rfl dL_knock_1 ?_
  refine r_aloadn hC 0 (r := p0) rfl rfl dL_knock_2 ?_
  refine r_iloadn hC 1 rfl rfl dL_knock_3 ?_
  refine callH_V hC hE (av := [.int p1]) (st := [.int 0, va_rf p2]) (r := p0) (ci := 6) rfl rfl (fun h9 => ct_X4_knock hC.hl G h9 p1 σ) q_733 q_734 q_735 q_39 q_736 yd_X4_knock rfl ⟨Nat.le_of_ble_eq_true rfl, Nat.le_of_ble_eq_true rfl⟩ ⟨by omega, by omega⟩ ⟨by omega, by omega⟩ rfl (by simp [cat_rf, cat_i, cat_j, cat_d, cat_a]) dL_knock_4 (fun k9 σ9 => ?_) (fun v1 σ2 => ?_)
  · by_cases g3 : k9 = 3
    · subst g3
      refine Or.inr ⟨12, ⟨[], [(0, 9, 15, 15)], _, _, _, rfl, by decide, by decide, q_573, z_397, fun z hz => absurd hz List.not_mem_nil⟩, fun q9 => ?_⟩
      show Wo _ _ _ _ (if 3 = 3 then some (1, σ9) else if 3 = 2 then some (2, σ9) else none) _ _ _ _ _ _
      refine r_astoren hC [(3, va_rf (some q9)), (0, va_rf p0), (1, .int p1), (2, va_rf p2)] (r := (some q9)) (i := 3) rfl (by decide) (by simp [List.filter, cat_rf, cat_i, cat_j, cat_d, cat_a]) dL_knock_12 ?_
      refine r_iconst hC (1) rfl dL_knock_13 ?_
      exact e_I hC ⟨by omega, by omega⟩ dL_knock_14
    by_cases g2 : k9 = 2
    · subst g2
      refine Or.inr ⟨15, ⟨[(0, 9, 12, 25)], [], _, _, _, rfl, by decide, by decide, q_549, z_441, fun z hz => by
          simp only [List.mem_cons, List.not_mem_nil, or_false] at hz
          rcases hz with rfl
          · exact ⟨by decide, 3, q_573, hC.hK.1.2.2.2.2.2.2.2.2⟩
    ⟩, fun q9 => ?_⟩
      show Wo _ _ _ _ (if 2 = 3 then some (1, σ9) else if 2 = 2 then some (2, σ9) else none) _ _ _ _ _ _
      refine r_astoren hC [(3, va_rf (some q9)), (0, va_rf p0), (1, .int p1), (2, va_rf p2)] (r := (some q9)) (i := 3) rfl (by decide) (by simp [List.filter, cat_rf, cat_i, cat_j, cat_d, cat_a]) dL_knock_15 ?_
      refine r_iconst hC (2) rfl dL_knock_16 ?_
      exact e_I hC ⟨by omega, by omega⟩ dL_knock_17
    exact Or.inl (by simp only [if_neg g3, if_neg g2])
  · show Wo _ _ _ _ _ _ _ _ _ _ [.int v1, .int 0, va_rf p2]
    refine r_i2l hC dL_knock_7 (fun v4 => ?_)
    refine r_wJ hC (r := p2) dL_knock_8 (fun σ5 => ?_)
    refine r_goto hC 18 dL_knock_9 (by decide) ?_
    refine r_iconst hC (0) rfl dL_knock_18 ?_
    exact e_I hC ⟨by omega, by omega⟩ dL_knock_19

set_option maxRecDepth 100000 in
set_option maxHeartbeats 4000000 in
theorem ct_L_knock {l : Launch} (hl : l.stackTraces = false) (G : Glb) (p0 : (Option Nat)) (p1 : Int32) (p2 : (Option Nat)) (σ : Mem) : Ct rvI l yL_knock (Cond.codeWith yL_knock cL_knock 4 (some .int) [(0, 9, 12, 25), (0, 9, 15, 15)] :: uW) { frames := 9, cells := 1, slots := 6, locals := 147 } 1 6 G [va_rf p0, .int p1, va_rf p2] σ (f_L_knock p0 p1 p2 σ) := by
  refine Ct.ofW hl (by decide +kernel) (by simp [lg_sl, cat_rf, cat_i, cat_j, cat_d, cat_a]) (fun C hC hE => ?_)
  have e : lv_args 0 [va_rf p0, .int p1, va_rf p2] = [(0, va_rf p0), (1, .int p1), (2, va_rf p2)] := by simp [lv_args, cat_rf, cat_i, cat_j, cat_d, cat_a]
  rw [e]
  exact t_L_knock_0 hC hE p0 p1 p2 σ 0 0 ⟨Nat.le_of_ble_eq_true rfl, Nat.le_of_ble_eq_true rfl⟩

noncomputable def b_L_ofSection_0 (p0 : (Option Nat)) (p1 : Int32) (p2 : Int32) (p3 : (Option Nat)) (σ : Mem) : Option ((Int32) × Mem) :=
ob 6 σ p0 fun h3 => cx1 (f_X4_ofSection h3 p1 p2 σ) (fun v1 σ2 =>
nm (v1.toInt64) fun v4 =>
wJ σ2 p3 0 v4 fun σ5 =>
some (0, σ5)) (fun k9 σ9 => if k9 = 3 then
some (1, σ9)
else if k9 = 1 then
some (2, σ9)
else none)

noncomputable def f_L_ofSection (p0 : (Option Nat)) (p1 : Int32) (p2 : Int32) (p3 : (Option Nat)) (σ : Mem) : Option ((Int32) × Mem) := b_L_ofSection_0 p0 p1 p2 p3 σ
set_option maxRecDepth 100000 in
set_option maxHeartbeats 4000000 in
theorem t_L_ofSection_0 {C : Cxt} {G : Glb} (hC : CX C G RL cL_ofSection 5 (some .int) 9 1 6 146) (hE : (cC C).exceptionTable.toList.map (fun h => (h.startPc, h.endPc, h.handlerPc, h.catchType)) = [(0, 10, 13, 25), (0, 10, 17, 13)]) (p0 : (Option Nat)) (p1 : Int32) (p2 : Int32) (p3 : (Option Nat)) (σ : Mem) (kc ks : Nat) (hN : kc + 1 ≤ 1 ∧ ks + 6 ≤ 6) : Wo C G 5 (QP C G rvI 1 6) (b_L_ofSection_0  p0 p1 p2 p3 σ) σ kc ks 0 [(0, va_rf p0), (1, .int p1), (2, .int p2), (3, va_rf p3)] [] := by
  unfold b_L_ofSection_0
  refine r_aloadn hC 3 (r := p3) rfl rfl dL_ofSection_0 ?_
  refine r_iconst hC (0) rfl dL_ofSection_1 ?_
  refine r_aloadn hC 0 (r := p0) rfl rfl dL_ofSection_2 ?_
  refine r_iloadn hC 1 rfl rfl dL_ofSection_3 ?_
  refine r_iloadn hC 2 rfl rfl dL_ofSection_4 ?_
  refine callH_V hC hE (av := [.int p1, .int p2]) (st := [.int 0, va_rf p3]) (r := p0) (ci := 6) rfl rfl (fun h9 => ct_X4_ofSection hC.hl G h9 p1 p2 σ) q_744 q_385 q_386 q_39 q_387 yd_X4_ofSection rfl ⟨Nat.le_of_ble_eq_true rfl, Nat.le_of_ble_eq_true rfl⟩ ⟨by omega, by omega⟩ ⟨by omega, by omega⟩ rfl (by simp [cat_rf, cat_i, cat_j, cat_d, cat_a]) dL_ofSection_5 (fun k9 σ9 => ?_) (fun v1 σ2 => ?_)
  · by_cases g3 : k9 = 3
    · subst g3
      refine Or.inr ⟨13, ⟨[], [(0, 10, 17, 13)], _, _, _, rfl, by decide, by decide, q_573, z_397, fun z hz => absurd hz List.not_mem_nil⟩, fun q9 => ?_⟩
      show Wo _ _ _ _ (if 3 = 3 then some (1, σ9) else if 3 = 1 then some (2, σ9) else none) _ _ _ _ _ _
      refine r_astore hC [(4, va_rf (some q9)), (0, va_rf p0), (1, .int p1), (2, .int p2), (3, va_rf p3)] (r := (some q9)) (i := 4) (by decide) (by simp [List.filter, cat_rf, cat_i, cat_j, cat_d, cat_a]) dL_ofSection_13 ?_
      refine r_iconst hC (1) rfl dL_ofSection_15 ?_
      exact e_I hC ⟨by omega, by omega⟩ dL_ofSection_16
    by_cases g1 : k9 = 1
    · subst g1
      refine Or.inr ⟨17, ⟨[(0, 10, 13, 25)], [], _, _, _, rfl, by decide, by decide, q_548, z_315, fun z hz => by
          simp only [List.mem_cons, List.not_mem_nil, or_false] at hz
          rcases hz with rfl
          · exact ⟨by decide, 3, q_573, hC.hK.1.2.2.2.2.2.2.2.1⟩
    ⟩, fun q9 => ?_⟩
      show Wo _ _ _ _ (if 1 = 3 then some (1, σ9) else if 1 = 1 then some (2, σ9) else none) _ _ _ _ _ _
      refine r_astore hC [(4, va_rf (some q9)), (0, va_rf p0), (1, .int p1), (2, .int p2), (3, va_rf p3)] (r := (some q9)) (i := 4) (by decide) (by simp [List.filter, cat_rf, cat_i, cat_j, cat_d, cat_a]) dL_ofSection_17 ?_
      refine r_iconst hC (2) rfl dL_ofSection_19 ?_
      exact e_I hC ⟨by omega, by omega⟩ dL_ofSection_20
    exact Or.inl (by simp only [if_neg g3, if_neg g1])
  · show Wo _ _ _ _ _ _ _ _ _ _ [.int v1, .int 0, va_rf p3]
    refine r_i2l hC dL_ofSection_8 (fun v4 => ?_)
    refine r_wJ hC (r := p3) dL_ofSection_9 (fun σ5 => ?_)
    refine r_goto hC 21 dL_ofSection_10 (by decide) ?_
    refine r_iconst hC (0) rfl dL_ofSection_21 ?_
    exact e_I hC ⟨by omega, by omega⟩ dL_ofSection_22

set_option maxRecDepth 100000 in
set_option maxHeartbeats 4000000 in
theorem ct_L_ofSection {l : Launch} (hl : l.stackTraces = false) (G : Glb) (p0 : (Option Nat)) (p1 : Int32) (p2 : Int32) (p3 : (Option Nat)) (σ : Mem) : Ct rvI l yL_ofSection (Cond.codeWith yL_ofSection cL_ofSection 5 (some .int) [(0, 10, 13, 25), (0, 10, 17, 13)] :: uW) { frames := 9, cells := 1, slots := 6, locals := 146 } 1 6 G [va_rf p0, .int p1, .int p2, va_rf p3] σ (f_L_ofSection p0 p1 p2 p3 σ) := by
  refine Ct.ofW hl (by decide +kernel) (by simp [lg_sl, cat_rf, cat_i, cat_j, cat_d, cat_a]) (fun C hC hE => ?_)
  have e : lv_args 0 [va_rf p0, .int p1, .int p2, va_rf p3] = [(0, va_rf p0), (1, .int p1), (2, .int p2), (3, va_rf p3)] := by simp [lv_args, cat_rf, cat_i, cat_j, cat_d, cat_a]
  rw [e]
  exact t_L_ofSection_0 hC hE p0 p1 p2 p3 σ 0 0 ⟨Nat.le_of_ble_eq_true rfl, Nat.le_of_ble_eq_true rfl⟩

noncomputable def b_L_ofLot_0 (p0 : (Option Nat)) (p1 : Int32) (p2 : Int32) (p3 : (Option Nat)) (σ : Mem) : Option ((Int32) × Mem) :=
ob 6 σ p0 fun h3 => cx1 (f_X4_ofLot h3 p1 p2 σ) (fun v1 σ2 =>
nm (v1.toInt64) fun v4 =>
wJ σ2 p3 0 v4 fun σ5 =>
some (0, σ5)) (fun k9 σ9 => if k9 = 3 then
some (1, σ9)
else if k9 = 1 then
some (2, σ9)
else none)

noncomputable def f_L_ofLot (p0 : (Option Nat)) (p1 : Int32) (p2 : Int32) (p3 : (Option Nat)) (σ : Mem) : Option ((Int32) × Mem) := b_L_ofLot_0 p0 p1 p2 p3 σ
set_option maxRecDepth 100000 in
set_option maxHeartbeats 4000000 in
theorem t_L_ofLot_0 {C : Cxt} {G : Glb} (hC : CX C G RL cL_ofLot 5 (some .int) 9 1 6 146) (hE : (cC C).exceptionTable.toList.map (fun h => (h.startPc, h.endPc, h.handlerPc, h.catchType)) = [(0, 10, 13, 25), (0, 10, 17, 13)]) (p0 : (Option Nat)) (p1 : Int32) (p2 : Int32) (p3 : (Option Nat)) (σ : Mem) (kc ks : Nat) (hN : kc + 1 ≤ 1 ∧ ks + 6 ≤ 6) : Wo C G 5 (QP C G rvI 1 6) (b_L_ofLot_0  p0 p1 p2 p3 σ) σ kc ks 0 [(0, va_rf p0), (1, .int p1), (2, .int p2), (3, va_rf p3)] [] := by
  unfold b_L_ofLot_0
  refine r_aloadn hC 3 (r := p3) rfl rfl dL_ofLot_0 ?_
  refine r_iconst hC (0) rfl dL_ofLot_1 ?_
  refine r_aloadn hC 0 (r := p0) rfl rfl dL_ofLot_2 ?_
  refine r_iloadn hC 1 rfl rfl dL_ofLot_3 ?_
  refine r_iloadn hC 2 rfl rfl dL_ofLot_4 ?_
  refine callH_V hC hE (av := [.int p1, .int p2]) (st := [.int 0, va_rf p3]) (r := p0) (ci := 6) rfl rfl (fun h9 => ct_X4_ofLot hC.hl G h9 p1 p2 σ) q_748 q_425 q_426 q_39 q_427 yd_X4_ofLot rfl ⟨Nat.le_of_ble_eq_true rfl, Nat.le_of_ble_eq_true rfl⟩ ⟨by omega, by omega⟩ ⟨by omega, by omega⟩ rfl (by simp [cat_rf, cat_i, cat_j, cat_d, cat_a]) dL_ofLot_5 (fun k9 σ9 => ?_) (fun v1 σ2 => ?_)
  · by_cases g3 : k9 = 3
    · subst g3
      refine Or.inr ⟨13, ⟨[], [(0, 10, 17, 13)], _, _, _, rfl, by decide, by decide, q_573, z_397, fun z hz => absurd hz List.not_mem_nil⟩, fun q9 => ?_⟩
      show Wo _ _ _ _ (if 3 = 3 then some (1, σ9) else if 3 = 1 then some (2, σ9) else none) _ _ _ _ _ _
      refine r_astore hC [(4, va_rf (some q9)), (0, va_rf p0), (1, .int p1), (2, .int p2), (3, va_rf p3)] (r := (some q9)) (i := 4) (by decide) (by simp [List.filter, cat_rf, cat_i, cat_j, cat_d, cat_a]) dL_ofLot_13 ?_
      refine r_iconst hC (1) rfl dL_ofLot_15 ?_
      exact e_I hC ⟨by omega, by omega⟩ dL_ofLot_16
    by_cases g1 : k9 = 1
    · subst g1
      refine Or.inr ⟨17, ⟨[(0, 10, 13, 25)], [], _, _, _, rfl, by decide, by decide, q_548, z_315, fun z hz => by
          simp only [List.mem_cons, List.not_mem_nil, or_false] at hz
          rcases hz with rfl
          · exact ⟨by decide, 3, q_573, hC.hK.1.2.2.2.2.2.2.2.1⟩
    ⟩, fun q9 => ?_⟩
      show Wo _ _ _ _ (if 1 = 3 then some (1, σ9) else if 1 = 1 then some (2, σ9) else none) _ _ _ _ _ _
      refine r_astore hC [(4, va_rf (some q9)), (0, va_rf p0), (1, .int p1), (2, .int p2), (3, va_rf p3)] (r := (some q9)) (i := 4) (by decide) (by simp [List.filter, cat_rf, cat_i, cat_j, cat_d, cat_a]) dL_ofLot_17 ?_
      refine r_iconst hC (2) rfl dL_ofLot_19 ?_
      exact e_I hC ⟨by omega, by omega⟩ dL_ofLot_20
    exact Or.inl (by simp only [if_neg g3, if_neg g1])
  · show Wo _ _ _ _ _ _ _ _ _ _ [.int v1, .int 0, va_rf p3]
    refine r_i2l hC dL_ofLot_8 (fun v4 => ?_)
    refine r_wJ hC (r := p3) dL_ofLot_9 (fun σ5 => ?_)
    refine r_goto hC 21 dL_ofLot_10 (by decide) ?_
    refine r_iconst hC (0) rfl dL_ofLot_21 ?_
    exact e_I hC ⟨by omega, by omega⟩ dL_ofLot_22

set_option maxRecDepth 100000 in
set_option maxHeartbeats 4000000 in
theorem ct_L_ofLot {l : Launch} (hl : l.stackTraces = false) (G : Glb) (p0 : (Option Nat)) (p1 : Int32) (p2 : Int32) (p3 : (Option Nat)) (σ : Mem) : Ct rvI l yL_ofLot (Cond.codeWith yL_ofLot cL_ofLot 5 (some .int) [(0, 10, 13, 25), (0, 10, 17, 13)] :: uW) { frames := 9, cells := 1, slots := 6, locals := 146 } 1 6 G [va_rf p0, .int p1, .int p2, va_rf p3] σ (f_L_ofLot p0 p1 p2 p3 σ) := by
  refine Ct.ofW hl (by decide +kernel) (by simp [lg_sl, cat_rf, cat_i, cat_j, cat_d, cat_a]) (fun C hC hE => ?_)
  have e : lv_args 0 [va_rf p0, .int p1, .int p2, va_rf p3] = [(0, va_rf p0), (1, .int p1), (2, .int p2), (3, va_rf p3)] := by simp [lv_args, cat_rf, cat_i, cat_j, cat_d, cat_a]
  rw [e]
  exact t_L_ofLot_0 hC hE p0 p1 p2 p3 σ 0 0 ⟨Nat.le_of_ble_eq_true rfl, Nat.le_of_ble_eq_true rfl⟩

noncomputable def b_L_note_0 (p0 : (Option Nat)) (p1 : Int32) (p2 : Int32) (p3 : (Option Nat)) (σ : Mem) : Option ((Int32) × Mem) :=
ob 6 σ p0 fun h3 => cx1 (f_X4_note h3 p1 p2 σ) (fun v1 σ2 =>
nm (v1.toInt64) fun v4 =>
wJ σ2 p3 0 v4 fun σ5 =>
some (0, σ5)) (fun k9 σ9 => if k9 = 3 then
some (1, σ9)
else if k9 = 1 then
some (2, σ9)
else if k9 = 2 then
some (3, σ9)
else none)

noncomputable def f_L_note (p0 : (Option Nat)) (p1 : Int32) (p2 : Int32) (p3 : (Option Nat)) (σ : Mem) : Option ((Int32) × Mem) := b_L_note_0 p0 p1 p2 p3 σ
set_option maxRecDepth 100000 in
set_option maxHeartbeats 4000000 in
theorem t_L_note_0 {C : Cxt} {G : Glb} (hC : CX C G RL cL_note 5 (some .int) 9 1 6 146) (hE : (cC C).exceptionTable.toList.map (fun h => (h.startPc, h.endPc, h.handlerPc, h.catchType)) = [(0, 10, 13, 25), (0, 10, 17, 13), (0, 10, 21, 15)]) (p0 : (Option Nat)) (p1 : Int32) (p2 : Int32) (p3 : (Option Nat)) (σ : Mem) (kc ks : Nat) (hN : kc + 1 ≤ 1 ∧ ks + 6 ≤ 6) : Wo C G 5 (QP C G rvI 1 6) (b_L_note_0  p0 p1 p2 p3 σ) σ kc ks 0 [(0, va_rf p0), (1, .int p1), (2, .int p2), (3, va_rf p3)] [] := by
  unfold b_L_note_0
  refine r_aloadn hC 3 (r := p3) rfl rfl dL_note_0 ?_
  refine r_iconst hC (0) rfl dL_note_1 ?_
  refine r_aloadn hC 0 (r := p0) rfl rfl dL_note_2 ?_
  refine r_iloadn hC 1 rfl rfl dL_note_3 ?_
  refine r_iloadn hC 2 rfl rfl dL_note_4 ?_
  refine callH_V hC hE (av := [.int p1, .int p2]) (st := [.int 0, va_rf p3]) (r := p0) (ci := 6) rfl rfl (fun h9 => ct_X4_note hC.hl G h9 p1 p2 σ) q_752 q_433 q_434 q_39 q_435 yd_X4_note rfl ⟨Nat.le_of_ble_eq_true rfl, Nat.le_of_ble_eq_true rfl⟩ ⟨by omega, by omega⟩ ⟨by omega, by omega⟩ rfl (by simp [cat_rf, cat_i, cat_j, cat_d, cat_a]) dL_note_5 (fun k9 σ9 => ?_) (fun v1 σ2 => ?_)
  · by_cases g3 : k9 = 3
    · subst g3
      refine Or.inr ⟨13, ⟨[], [(0, 10, 17, 13), (0, 10, 21, 15)], _, _, _, rfl, by decide, by decide, q_573, z_397, fun z hz => absurd hz List.not_mem_nil⟩, fun q9 => ?_⟩
      show Wo _ _ _ _ (if 3 = 3 then some (1, σ9) else if 3 = 1 then some (2, σ9) else if 3 = 2 then some (3, σ9) else none) _ _ _ _ _ _
      refine r_astore hC [(4, va_rf (some q9)), (0, va_rf p0), (1, .int p1), (2, .int p2), (3, va_rf p3)] (r := (some q9)) (i := 4) (by decide) (by simp [List.filter, cat_rf, cat_i, cat_j, cat_d, cat_a]) dL_note_13 ?_
      refine r_iconst hC (1) rfl dL_note_15 ?_
      exact e_I hC ⟨by omega, by omega⟩ dL_note_16
    by_cases g1 : k9 = 1
    · subst g1
      refine Or.inr ⟨17, ⟨[(0, 10, 13, 25)], [(0, 10, 21, 15)], _, _, _, rfl, by decide, by decide, q_548, z_315, fun z hz => by
          simp only [List.mem_cons, List.not_mem_nil, or_false] at hz
          rcases hz with rfl
          · exact ⟨by decide, 3, q_573, hC.hK.1.2.2.2.2.2.2.2.1⟩
    ⟩, fun q9 => ?_⟩
      show Wo _ _ _ _ (if 1 = 3 then some (1, σ9) else if 1 = 1 then some (2, σ9) else if 1 = 2 then some (3, σ9) else none) _ _ _ _ _ _
      refine r_astore hC [(4, va_rf (some q9)), (0, va_rf p0), (1, .int p1), (2, .int p2), (3, va_rf p3)] (r := (some q9)) (i := 4) (by decide) (by simp [List.filter, cat_rf, cat_i, cat_j, cat_d, cat_a]) dL_note_17 ?_
      refine r_iconst hC (2) rfl dL_note_19 ?_
      exact e_I hC ⟨by omega, by omega⟩ dL_note_20
    by_cases g2 : k9 = 2
    · subst g2
      refine Or.inr ⟨21, ⟨[(0, 10, 13, 25), (0, 10, 17, 13)], [], _, _, _, rfl, by decide, by decide, q_549, z_441, fun z hz => by
          simp only [List.mem_cons, List.not_mem_nil, or_false] at hz
          rcases hz with rfl | rfl
          · exact ⟨by decide, 3, q_573, hC.hK.1.2.2.2.2.2.2.2.2⟩
          · exact ⟨by decide, 1, q_548, hC.hK.1.2.2.2.2.2.2.1⟩
    ⟩, fun q9 => ?_⟩
      show Wo _ _ _ _ (if 2 = 3 then some (1, σ9) else if 2 = 1 then some (2, σ9) else if 2 = 2 then some (3, σ9) else none) _ _ _ _ _ _
      refine r_astore hC [(4, va_rf (some q9)), (0, va_rf p0), (1, .int p1), (2, .int p2), (3, va_rf p3)] (r := (some q9)) (i := 4) (by decide) (by simp [List.filter, cat_rf, cat_i, cat_j, cat_d, cat_a]) dL_note_21 ?_
      refine r_iconst hC (3) rfl dL_note_23 ?_
      exact e_I hC ⟨by omega, by omega⟩ dL_note_24
    exact Or.inl (by simp only [if_neg g3, if_neg g1, if_neg g2])
  · show Wo _ _ _ _ _ _ _ _ _ _ [.int v1, .int 0, va_rf p3]
    refine r_i2l hC dL_note_8 (fun v4 => ?_)
    refine r_wJ hC (r := p3) dL_note_9 (fun σ5 => ?_)
    refine r_goto hC 25 dL_note_10 (by decide) ?_
    refine r_iconst hC (0) rfl dL_note_25 ?_
    exact e_I hC ⟨by omega, by omega⟩ dL_note_26

set_option maxRecDepth 100000 in
set_option maxHeartbeats 4000000 in
theorem ct_L_note {l : Launch} (hl : l.stackTraces = false) (G : Glb) (p0 : (Option Nat)) (p1 : Int32) (p2 : Int32) (p3 : (Option Nat)) (σ : Mem) : Ct rvI l yL_note (Cond.codeWith yL_note cL_note 5 (some .int) [(0, 10, 13, 25), (0, 10, 17, 13), (0, 10, 21, 15)] :: uW) { frames := 9, cells := 1, slots := 6, locals := 146 } 1 6 G [va_rf p0, .int p1, .int p2, va_rf p3] σ (f_L_note p0 p1 p2 p3 σ) := by
  refine Ct.ofW hl (by decide +kernel) (by simp [lg_sl, cat_rf, cat_i, cat_j, cat_d, cat_a]) (fun C hC hE => ?_)
  have e : lv_args 0 [va_rf p0, .int p1, .int p2, va_rf p3] = [(0, va_rf p0), (1, .int p1), (2, .int p2), (3, va_rf p3)] := by simp [lv_args, cat_rf, cat_i, cat_j, cat_d, cat_a]
  rw [e]
  exact t_L_note_0 hC hE p0 p1 p2 p3 σ 0 0 ⟨Nat.le_of_ble_eq_true rfl, Nat.le_of_ble_eq_true rfl⟩

noncomputable def b_L_taste_0 (p0 : (Option Nat)) (p1 : Int32) (p2 : Int32) (p3 : (Option Nat)) (σ : Mem) : Option ((Int32) × Mem) :=
ob 6 σ p0 fun h3 => cx1 (f_X4_taste h3 p1 p2 σ) (fun v1 σ2 =>
nm (v1.toInt64) fun v4 =>
wJ σ2 p3 0 v4 fun σ5 =>
some (0, σ5)) (fun k9 σ9 => if k9 = 3 then
some (1, σ9)
else if k9 = 1 then
some (2, σ9)
else if k9 = 2 then
some (3, σ9)
else none)

noncomputable def f_L_taste (p0 : (Option Nat)) (p1 : Int32) (p2 : Int32) (p3 : (Option Nat)) (σ : Mem) : Option ((Int32) × Mem) := b_L_taste_0 p0 p1 p2 p3 σ
set_option maxRecDepth 100000 in
set_option maxHeartbeats 4000000 in
theorem t_L_taste_0 {C : Cxt} {G : Glb} (hC : CX C G RL cL_taste 5 (some .int) 10 1 6 171) (hE : (cC C).exceptionTable.toList.map (fun h => (h.startPc, h.endPc, h.handlerPc, h.catchType)) = [(0, 10, 13, 25), (0, 10, 17, 13), (0, 10, 21, 15)]) (p0 : (Option Nat)) (p1 : Int32) (p2 : Int32) (p3 : (Option Nat)) (σ : Mem) (kc ks : Nat) (hN : kc + 1 ≤ 1 ∧ ks + 6 ≤ 6) : Wo C G 5 (QP C G rvI 1 6) (b_L_taste_0  p0 p1 p2 p3 σ) σ kc ks 0 [(0, va_rf p0), (1, .int p1), (2, .int p2), (3, va_rf p3)] [] := by
  unfold b_L_taste_0
  refine r_aloadn hC 3 (r := p3) rfl rfl dL_taste_0 ?_
  refine r_iconst hC (0) rfl dL_taste_1 ?_
  refine r_aloadn hC 0 (r := p0) rfl rfl dL_taste_2 ?_
  refine r_iloadn hC 1 rfl rfl dL_taste_3 ?_
  refine r_iloadn hC 2 rfl rfl dL_taste_4 ?_
  refine callH_V hC hE (av := [.int p1, .int p2]) (st := [.int 0, va_rf p3]) (r := p0) (ci := 6) rfl rfl (fun h9 => ct_X4_taste hC.hl G h9 p1 p2 σ) q_756 q_456 q_457 q_39 q_458 yd_X4_taste rfl ⟨Nat.le_of_ble_eq_true rfl, Nat.le_of_ble_eq_true rfl⟩ ⟨by omega, by omega⟩ ⟨by omega, by omega⟩ rfl (by simp [cat_rf, cat_i, cat_j, cat_d, cat_a]) dL_taste_5 (fun k9 σ9 => ?_) (fun v1 σ2 => ?_)
  · by_cases g3 : k9 = 3
    · subst g3
      refine Or.inr ⟨13, ⟨[], [(0, 10, 17, 13), (0, 10, 21, 15)], _, _, _, rfl, by decide, by decide, q_573, z_397, fun z hz => absurd hz List.not_mem_nil⟩, fun q9 => ?_⟩
      show Wo _ _ _ _ (if 3 = 3 then some (1, σ9) else if 3 = 1 then some (2, σ9) else if 3 = 2 then some (3, σ9) else none) _ _ _ _ _ _
      refine r_astore hC [(4, va_rf (some q9)), (0, va_rf p0), (1, .int p1), (2, .int p2), (3, va_rf p3)] (r := (some q9)) (i := 4) (by decide) (by simp [List.filter, cat_rf, cat_i, cat_j, cat_d, cat_a]) dL_taste_13 ?_
      refine r_iconst hC (1) rfl dL_taste_15 ?_
      exact e_I hC ⟨by omega, by omega⟩ dL_taste_16
    by_cases g1 : k9 = 1
    · subst g1
      refine Or.inr ⟨17, ⟨[(0, 10, 13, 25)], [(0, 10, 21, 15)], _, _, _, rfl, by decide, by decide, q_548, z_315, fun z hz => by
          simp only [List.mem_cons, List.not_mem_nil, or_false] at hz
          rcases hz with rfl
          · exact ⟨by decide, 3, q_573, hC.hK.1.2.2.2.2.2.2.2.1⟩
    ⟩, fun q9 => ?_⟩
      show Wo _ _ _ _ (if 1 = 3 then some (1, σ9) else if 1 = 1 then some (2, σ9) else if 1 = 2 then some (3, σ9) else none) _ _ _ _ _ _
      refine r_astore hC [(4, va_rf (some q9)), (0, va_rf p0), (1, .int p1), (2, .int p2), (3, va_rf p3)] (r := (some q9)) (i := 4) (by decide) (by simp [List.filter, cat_rf, cat_i, cat_j, cat_d, cat_a]) dL_taste_17 ?_
      refine r_iconst hC (2) rfl dL_taste_19 ?_
      exact e_I hC ⟨by omega, by omega⟩ dL_taste_20
    by_cases g2 : k9 = 2
    · subst g2
      refine Or.inr ⟨21, ⟨[(0, 10, 13, 25), (0, 10, 17, 13)], [], _, _, _, rfl, by decide, by decide, q_549, z_441, fun z hz => by
          simp only [List.mem_cons, List.not_mem_nil, or_false] at hz
          rcases hz with rfl | rfl
          · exact ⟨by decide, 3, q_573, hC.hK.1.2.2.2.2.2.2.2.2⟩
          · exact ⟨by decide, 1, q_548, hC.hK.1.2.2.2.2.2.2.1⟩
    ⟩, fun q9 => ?_⟩
      show Wo _ _ _ _ (if 2 = 3 then some (1, σ9) else if 2 = 1 then some (2, σ9) else if 2 = 2 then some (3, σ9) else none) _ _ _ _ _ _
      refine r_astore hC [(4, va_rf (some q9)), (0, va_rf p0), (1, .int p1), (2, .int p2), (3, va_rf p3)] (r := (some q9)) (i := 4) (by decide) (by simp [List.filter, cat_rf, cat_i, cat_j, cat_d, cat_a]) dL_taste_21 ?_
      refine r_iconst hC (3) rfl dL_taste_23 ?_
      exact e_I hC ⟨by omega, by omega⟩ dL_taste_24
    exact Or.inl (by simp only [if_neg g3, if_neg g1, if_neg g2])
  · show Wo _ _ _ _ _ _ _ _ _ _ [.int v1, .int 0, va_rf p3]
    refine r_i2l hC dL_taste_8 (fun v4 => ?_)
    refine r_wJ hC (r := p3) dL_taste_9 (fun σ5 => ?_)
    refine r_goto hC 25 dL_taste_10 (by decide) ?_
    refine r_iconst hC (0) rfl dL_taste_25 ?_
    exact e_I hC ⟨by omega, by omega⟩ dL_taste_26

set_option maxRecDepth 100000 in
set_option maxHeartbeats 4000000 in
theorem ct_L_taste {l : Launch} (hl : l.stackTraces = false) (G : Glb) (p0 : (Option Nat)) (p1 : Int32) (p2 : Int32) (p3 : (Option Nat)) (σ : Mem) : Ct rvI l yL_taste (Cond.codeWith yL_taste cL_taste 5 (some .int) [(0, 10, 13, 25), (0, 10, 17, 13), (0, 10, 21, 15)] :: uW) { frames := 10, cells := 1, slots := 6, locals := 171 } 1 6 G [va_rf p0, .int p1, .int p2, va_rf p3] σ (f_L_taste p0 p1 p2 p3 σ) := by
  refine Ct.ofW hl (by decide +kernel) (by simp [lg_sl, cat_rf, cat_i, cat_j, cat_d, cat_a]) (fun C hC hE => ?_)
  have e : lv_args 0 [va_rf p0, .int p1, .int p2, va_rf p3] = [(0, va_rf p0), (1, .int p1), (2, .int p2), (3, va_rf p3)] := by simp [lv_args, cat_rf, cat_i, cat_j, cat_d, cat_a]
  rw [e]
  exact t_L_taste_0 hC hE p0 p1 p2 p3 σ 0 0 ⟨Nat.le_of_ble_eq_true rfl, Nat.le_of_ble_eq_true rfl⟩

noncomputable def b_L_ofTaster_0 (p0 : (Option Nat)) (p1 : Int32) (p2 : Int32) (p3 : (Option Nat)) (σ : Mem) : Option ((Int32) × Mem) :=
ob 6 σ p0 fun h3 => cx1 (f_X4_ofTaster h3 p1 p2 σ) (fun v1 σ2 =>
nm (v1.toInt64) fun v4 =>
wJ σ2 p3 0 v4 fun σ5 =>
some (0, σ5)) (fun k9 σ9 => if k9 = 3 then
some (1, σ9)
else if k9 = 1 then
some (2, σ9)
else none)

noncomputable def f_L_ofTaster (p0 : (Option Nat)) (p1 : Int32) (p2 : Int32) (p3 : (Option Nat)) (σ : Mem) : Option ((Int32) × Mem) := b_L_ofTaster_0 p0 p1 p2 p3 σ
set_option maxRecDepth 100000 in
set_option maxHeartbeats 4000000 in
theorem t_L_ofTaster_0 {C : Cxt} {G : Glb} (hC : CX C G RL cL_ofTaster 5 (some .int) 9 1 6 146) (hE : (cC C).exceptionTable.toList.map (fun h => (h.startPc, h.endPc, h.handlerPc, h.catchType)) = [(0, 10, 13, 25), (0, 10, 17, 13)]) (p0 : (Option Nat)) (p1 : Int32) (p2 : Int32) (p3 : (Option Nat)) (σ : Mem) (kc ks : Nat) (hN : kc + 1 ≤ 1 ∧ ks + 6 ≤ 6) : Wo C G 5 (QP C G rvI 1 6) (b_L_ofTaster_0  p0 p1 p2 p3 σ) σ kc ks 0 [(0, va_rf p0), (1, .int p1), (2, .int p2), (3, va_rf p3)] [] := by
  unfold b_L_ofTaster_0
  refine r_aloadn hC 3 (r := p3) rfl rfl dL_ofTaster_0 ?_
  refine r_iconst hC (0) rfl dL_ofTaster_1 ?_
  refine r_aloadn hC 0 (r := p0) rfl rfl dL_ofTaster_2 ?_
  refine r_iloadn hC 1 rfl rfl dL_ofTaster_3 ?_
  refine r_iloadn hC 2 rfl rfl dL_ofTaster_4 ?_
  refine callH_V hC hE (av := [.int p1, .int p2]) (st := [.int 0, va_rf p3]) (r := p0) (ci := 6) rfl rfl (fun h9 => ct_X4_ofTaster hC.hl G h9 p1 p2 σ) q_760 q_524 q_525 q_39 q_526 yd_X4_ofTaster rfl ⟨Nat.le_of_ble_eq_true rfl, Nat.le_of_ble_eq_true rfl⟩ ⟨by omega, by omega⟩ ⟨by omega, by omega⟩ rfl (by simp [cat_rf, cat_i, cat_j, cat_d, cat_a]) dL_ofTaster_5 (fun k9 σ9 => ?_) (fun v1 σ2 => ?_)
  · by_cases g3 : k9 = 3
    · subst g3
      refine Or.inr ⟨13, ⟨[], [(0, 10, 17, 13)], _, _, _, rfl, by decide, by decide, q_573, z_397, fun z hz => absurd hz List.not_mem_nil⟩, fun q9 => ?_⟩
      show Wo _ _ _ _ (if 3 = 3 then some (1, σ9) else if 3 = 1 then some (2, σ9) else none) _ _ _ _ _ _
      refine r_astore hC [(4, va_rf (some q9)), (0, va_rf p0), (1, .int p1), (2, .int p2), (3, va_rf p3)] (r := (some q9)) (i := 4) (by decide) (by simp [List.filter, cat_rf, cat_i, cat_j, cat_d, cat_a]) dL_ofTaster_13 ?_
      refine r_iconst hC (1) rfl dL_ofTaster_15 ?_
      exact e_I hC ⟨by omega, by omega⟩ dL_ofTaster_16
    by_cases g1 : k9 = 1
    · subst g1
      refine Or.inr ⟨17, ⟨[(0, 10, 13, 25)], [], _, _, _, rfl, by decide, by decide, q_548, z_315, fun z hz => by
          simp only [List.mem_cons, List.not_mem_nil, or_false] at hz
          rcases hz with rfl
          · exact ⟨by decide, 3, q_573, hC.hK.1.2.2.2.2.2.2.2.1⟩
    ⟩, fun q9 => ?_⟩
      show Wo _ _ _ _ (if 1 = 3 then some (1, σ9) else if 1 = 1 then some (2, σ9) else none) _ _ _ _ _ _
      refine r_astore hC [(4, va_rf (some q9)), (0, va_rf p0), (1, .int p1), (2, .int p2), (3, va_rf p3)] (r := (some q9)) (i := 4) (by decide) (by simp [List.filter, cat_rf, cat_i, cat_j, cat_d, cat_a]) dL_ofTaster_17 ?_
      refine r_iconst hC (2) rfl dL_ofTaster_19 ?_
      exact e_I hC ⟨by omega, by omega⟩ dL_ofTaster_20
    exact Or.inl (by simp only [if_neg g3, if_neg g1])
  · show Wo _ _ _ _ _ _ _ _ _ _ [.int v1, .int 0, va_rf p3]
    refine r_i2l hC dL_ofTaster_8 (fun v4 => ?_)
    refine r_wJ hC (r := p3) dL_ofTaster_9 (fun σ5 => ?_)
    refine r_goto hC 21 dL_ofTaster_10 (by decide) ?_
    refine r_iconst hC (0) rfl dL_ofTaster_21 ?_
    exact e_I hC ⟨by omega, by omega⟩ dL_ofTaster_22

set_option maxRecDepth 100000 in
set_option maxHeartbeats 4000000 in
theorem ct_L_ofTaster {l : Launch} (hl : l.stackTraces = false) (G : Glb) (p0 : (Option Nat)) (p1 : Int32) (p2 : Int32) (p3 : (Option Nat)) (σ : Mem) : Ct rvI l yL_ofTaster (Cond.codeWith yL_ofTaster cL_ofTaster 5 (some .int) [(0, 10, 13, 25), (0, 10, 17, 13)] :: uW) { frames := 9, cells := 1, slots := 6, locals := 146 } 1 6 G [va_rf p0, .int p1, .int p2, va_rf p3] σ (f_L_ofTaster p0 p1 p2 p3 σ) := by
  refine Ct.ofW hl (by decide +kernel) (by simp [lg_sl, cat_rf, cat_i, cat_j, cat_d, cat_a]) (fun C hC hE => ?_)
  have e : lv_args 0 [va_rf p0, .int p1, .int p2, va_rf p3] = [(0, va_rf p0), (1, .int p1), (2, .int p2), (3, va_rf p3)] := by simp [lv_args, cat_rf, cat_i, cat_j, cat_d, cat_a]
  rw [e]
  exact t_L_ofTaster_0 hC hE p0 p1 p2 p3 σ 0 0 ⟨Nat.le_of_ble_eq_true rfl, Nat.le_of_ble_eq_true rfl⟩

noncomputable def b_L_bidOf_0 (p0 : (Option Nat)) (p1 : Int32) (p2 : Int32) (p3 : (Option Nat)) (σ : Mem) : Option ((Int32) × Mem) :=
ob 6 σ p0 fun h3 => cx1 (f_X4_bidOf h3 p1 p2 σ) (fun v1 σ2 =>
nm (v1.toInt64) fun v4 =>
wJ σ2 p3 0 v4 fun σ5 =>
some (0, σ5)) (fun k9 σ9 => if k9 = 3 then
some (1, σ9)
else none)

noncomputable def f_L_bidOf (p0 : (Option Nat)) (p1 : Int32) (p2 : Int32) (p3 : (Option Nat)) (σ : Mem) : Option ((Int32) × Mem) := b_L_bidOf_0 p0 p1 p2 p3 σ
set_option maxRecDepth 100000 in
set_option maxHeartbeats 4000000 in
theorem t_L_bidOf_0 {C : Cxt} {G : Glb} (hC : CX C G RL cL_bidOf 5 (some .int) 9 1 6 146) (hE : (cC C).exceptionTable.toList.map (fun h => (h.startPc, h.endPc, h.handlerPc, h.catchType)) = [(0, 10, 13, 25)]) (p0 : (Option Nat)) (p1 : Int32) (p2 : Int32) (p3 : (Option Nat)) (σ : Mem) (kc ks : Nat) (hN : kc + 1 ≤ 1 ∧ ks + 6 ≤ 6) : Wo C G 5 (QP C G rvI 1 6) (b_L_bidOf_0  p0 p1 p2 p3 σ) σ kc ks 0 [(0, va_rf p0), (1, .int p1), (2, .int p2), (3, va_rf p3)] [] := by
  unfold b_L_bidOf_0
  refine r_aloadn hC 3 (r := p3) rfl rfl dL_bidOf_0 ?_
  refine r_iconst hC (0) rfl dL_bidOf_1 ?_
  refine r_aloadn hC 0 (r := p0) rfl rfl dL_bidOf_2 ?_
  refine r_iloadn hC 1 rfl rfl dL_bidOf_3 ?_
  refine r_iloadn hC 2 rfl rfl dL_bidOf_4 ?_
  refine callH_V hC hE (av := [.int p1, .int p2]) (st := [.int 0, va_rf p3]) (r := p0) (ci := 6) rfl rfl (fun h9 => ct_X4_bidOf hC.hl G h9 p1 p2 σ) q_764 q_520 q_521 q_39 q_522 yd_X4_bidOf rfl ⟨Nat.le_of_ble_eq_true rfl, Nat.le_of_ble_eq_true rfl⟩ ⟨by omega, by omega⟩ ⟨by omega, by omega⟩ rfl (by simp [cat_rf, cat_i, cat_j, cat_d, cat_a]) dL_bidOf_5 (fun k9 σ9 => ?_) (fun v1 σ2 => ?_)
  · by_cases g3 : k9 = 3
    · subst g3
      refine Or.inr ⟨13, ⟨[], [], _, _, _, rfl, by decide, by decide, q_573, z_397, fun z hz => absurd hz List.not_mem_nil⟩, fun q9 => ?_⟩
      show Wo _ _ _ _ (if 3 = 3 then some (1, σ9) else none) _ _ _ _ _ _
      refine r_astore hC [(4, va_rf (some q9)), (0, va_rf p0), (1, .int p1), (2, .int p2), (3, va_rf p3)] (r := (some q9)) (i := 4) (by decide) (by simp [List.filter, cat_rf, cat_i, cat_j, cat_d, cat_a]) dL_bidOf_13 ?_
      refine r_iconst hC (1) rfl dL_bidOf_15 ?_
      exact e_I hC ⟨by omega, by omega⟩ dL_bidOf_16
    exact Or.inl (by simp only [if_neg g3])
  · show Wo _ _ _ _ _ _ _ _ _ _ [.int v1, .int 0, va_rf p3]
    refine r_i2l hC dL_bidOf_8 (fun v4 => ?_)
    refine r_wJ hC (r := p3) dL_bidOf_9 (fun σ5 => ?_)
    refine r_goto hC 17 dL_bidOf_10 (by decide) ?_
    refine r_iconst hC (0) rfl dL_bidOf_17 ?_
    exact e_I hC ⟨by omega, by omega⟩ dL_bidOf_18

set_option maxRecDepth 100000 in
set_option maxHeartbeats 4000000 in
theorem ct_L_bidOf {l : Launch} (hl : l.stackTraces = false) (G : Glb) (p0 : (Option Nat)) (p1 : Int32) (p2 : Int32) (p3 : (Option Nat)) (σ : Mem) : Ct rvI l yL_bidOf (Cond.codeWith yL_bidOf cL_bidOf 5 (some .int) [(0, 10, 13, 25)] :: uW) { frames := 9, cells := 1, slots := 6, locals := 146 } 1 6 G [va_rf p0, .int p1, .int p2, va_rf p3] σ (f_L_bidOf p0 p1 p2 p3 σ) := by
  refine Ct.ofW hl (by decide +kernel) (by simp [lg_sl, cat_rf, cat_i, cat_j, cat_d, cat_a]) (fun C hC hE => ?_)
  have e : lv_args 0 [va_rf p0, .int p1, .int p2, va_rf p3] = [(0, va_rf p0), (1, .int p1), (2, .int p2), (3, va_rf p3)] := by simp [lv_args, cat_rf, cat_i, cat_j, cat_d, cat_a]
  rw [e]
  exact t_L_bidOf_0 hC hE p0 p1 p2 p3 σ 0 0 ⟨Nat.le_of_ble_eq_true rfl, Nat.le_of_ble_eq_true rfl⟩

noncomputable def b_L_many_0 (p0 : (Option Nat)) (p1 : Int32) (p2 : (Option Nat)) (σ : Mem) : Option ((Int32) × Mem) :=
ob 6 σ p0 fun h3 => cx1 (f_X4_many h3 p1 σ) (fun v1 σ2 =>
nm (v1.toInt64) fun v4 =>
wJ σ2 p2 0 v4 fun σ5 =>
some (0, σ5)) (fun k9 σ9 => if k9 = 1 then
some (1, σ9)
else none)

noncomputable def f_L_many (p0 : (Option Nat)) (p1 : Int32) (p2 : (Option Nat)) (σ : Mem) : Option ((Int32) × Mem) := b_L_many_0 p0 p1 p2 σ
set_option maxRecDepth 100000 in
set_option maxHeartbeats 4000000 in
theorem t_L_many_0 {C : Cxt} {G : Glb} (hC : CX C G RL cL_many 4 (some .int) 8 1 6 124) (hE : (cC C).exceptionTable.toList.map (fun h => (h.startPc, h.endPc, h.handlerPc, h.catchType)) = [(0, 9, 12, 13)]) (p0 : (Option Nat)) (p1 : Int32) (p2 : (Option Nat)) (σ : Mem) (kc ks : Nat) (hN : kc + 1 ≤ 1 ∧ ks + 6 ≤ 6) : Wo C G 4 (QP C G rvI 1 6) (b_L_many_0  p0 p1 p2 σ) σ kc ks 0 [(0, va_rf p0), (1, .int p1), (2, va_rf p2)] [] := by
  unfold b_L_many_0
  refine r_aloadn hC 2 (r := p2) rfl rfl dL_many_0 ?_
  refine r_iconst hC (0) rfl dL_many_1 ?_
  refine r_aloadn hC 0 (r := p0) rfl rfl dL_many_2 ?_
  refine r_iloadn hC 1 rfl rfl dL_many_3 ?_
  refine callH_V hC hE (av := [.int p1]) (st := [.int 0, va_rf p2]) (r := p0) (ci := 6) rfl rfl (fun h9 => ct_X4_many hC.hl G h9 p1 σ) q_768 q_307 q_308 q_39 q_309 yd_X4_many rfl ⟨Nat.le_of_ble_eq_true rfl, Nat.le_of_ble_eq_true rfl⟩ ⟨by omega, by omega⟩ ⟨by omega, by omega⟩ rfl (by simp [cat_rf, cat_i, cat_j, cat_d, cat_a]) dL_many_4 (fun k9 σ9 => ?_) (fun v1 σ2 => ?_)
  · by_cases g1 : k9 = 1
    · subst g1
      refine Or.inr ⟨12, ⟨[], [], _, _, _, rfl, by decide, by decide, q_548, z_315, fun z hz => absurd hz List.not_mem_nil⟩, fun q9 => ?_⟩
      show Wo _ _ _ _ (if 1 = 1 then some (1, σ9) else none) _ _ _ _ _ _
      refine r_astoren hC [(3, va_rf (some q9)), (0, va_rf p0), (1, .int p1), (2, va_rf p2)] (r := (some q9)) (i := 3) rfl (by decide) (by simp [List.filter, cat_rf, cat_i, cat_j, cat_d, cat_a]) dL_many_12 ?_
      refine r_iconst hC (1) rfl dL_many_13 ?_
      exact e_I hC ⟨by omega, by omega⟩ dL_many_14
    exact Or.inl (by simp only [if_neg g1])
  · show Wo _ _ _ _ _ _ _ _ _ _ [.int v1, .int 0, va_rf p2]
    refine r_i2l hC dL_many_7 (fun v4 => ?_)
    refine r_wJ hC (r := p2) dL_many_8 (fun σ5 => ?_)
    refine r_goto hC 15 dL_many_9 (by decide) ?_
    refine r_iconst hC (0) rfl dL_many_15 ?_
    exact e_I hC ⟨by omega, by omega⟩ dL_many_16

set_option maxRecDepth 100000 in
set_option maxHeartbeats 4000000 in
theorem ct_L_many {l : Launch} (hl : l.stackTraces = false) (G : Glb) (p0 : (Option Nat)) (p1 : Int32) (p2 : (Option Nat)) (σ : Mem) : Ct rvI l yL_many (Cond.codeWith yL_many cL_many 4 (some .int) [(0, 9, 12, 13)] :: uW) { frames := 8, cells := 1, slots := 6, locals := 124 } 1 6 G [va_rf p0, .int p1, va_rf p2] σ (f_L_many p0 p1 p2 σ) := by
  refine Ct.ofW hl (by decide +kernel) (by simp [lg_sl, cat_rf, cat_i, cat_j, cat_d, cat_a]) (fun C hC hE => ?_)
  have e : lv_args 0 [va_rf p0, .int p1, va_rf p2] = [(0, va_rf p0), (1, .int p1), (2, va_rf p2)] := by simp [lv_args, cat_rf, cat_i, cat_j, cat_d, cat_a]
  rw [e]
  exact t_L_many_0 hC hE p0 p1 p2 σ 0 0 ⟨Nat.le_of_ble_eq_true rfl, Nat.le_of_ble_eq_true rfl⟩

noncomputable def b_L_flushIn_0 (p0 : (Option Nat)) (p1 : Int32) (p2 : Int32) (p3 : Int32) (p4 : (Option Nat)) (σ : Mem) : Option ((Int32) × Mem) :=
ob 6 σ p0 fun h3 => cx1 (f_X4_flushIn h3 p1 p2 p3 σ) (fun v1 σ2 =>
nm (v1.toInt64) fun v4 =>
wJ σ2 p4 0 v4 fun σ5 =>
some (0, σ5)) (fun k9 σ9 => if k9 = 3 then
some (1, σ9)
else if k9 = 1 then
some (2, σ9)
else none)

noncomputable def f_L_flushIn (p0 : (Option Nat)) (p1 : Int32) (p2 : Int32) (p3 : Int32) (p4 : (Option Nat)) (σ : Mem) : Option ((Int32) × Mem) := b_L_flushIn_0 p0 p1 p2 p3 p4 σ
set_option maxRecDepth 100000 in
set_option maxHeartbeats 4000000 in
theorem t_L_flushIn_0 {C : Cxt} {G : Glb} (hC : CX C G RL cL_flushIn 6 (some .int) 9 1 6 149) (hE : (cC C).exceptionTable.toList.map (fun h => (h.startPc, h.endPc, h.handlerPc, h.catchType)) = [(0, 12, 15, 25), (0, 12, 19, 13)]) (p0 : (Option Nat)) (p1 : Int32) (p2 : Int32) (p3 : Int32) (p4 : (Option Nat)) (σ : Mem) (kc ks : Nat) (hN : kc + 1 ≤ 1 ∧ ks + 6 ≤ 6) : Wo C G 6 (QP C G rvI 1 6) (b_L_flushIn_0  p0 p1 p2 p3 p4 σ) σ kc ks 0 [(0, va_rf p0), (1, .int p1), (2, .int p2), (3, .int p3), (4, va_rf p4)] [] := by
  unfold b_L_flushIn_0
  refine r_aload hC 4 (r := p4) rfl dL_flushIn_0 ?_
  refine r_iconst hC (0) rfl dL_flushIn_2 ?_
  refine r_aloadn hC 0 (r := p0) rfl rfl dL_flushIn_3 ?_
  refine r_iloadn hC 1 rfl rfl dL_flushIn_4 ?_
  refine r_iloadn hC 2 rfl rfl dL_flushIn_5 ?_
  refine r_iloadn hC 3 rfl rfl dL_flushIn_6 ?_
  refine callH_V hC hE (av := [.int p1, .int p2, .int p3]) (st := [.int 0, va_rf p4]) (r := p0) (ci := 6) rfl rfl (fun h9 => ct_X4_flushIn hC.hl G h9 p1 p2 p3 σ) q_772 q_411 q_412 q_39 q_413 yd_X4_flushIn rfl ⟨Nat.le_of_ble_eq_true rfl, Nat.le_of_ble_eq_true rfl⟩ ⟨by omega, by omega⟩ ⟨by omega, by omega⟩ rfl (by simp [cat_rf, cat_i, cat_j, cat_d, cat_a]) dL_flushIn_7 (fun k9 σ9 => ?_) (fun v1 σ2 => ?_)
  · by_cases g3 : k9 = 3
    · subst g3
      refine Or.inr ⟨15, ⟨[], [(0, 12, 19, 13)], _, _, _, rfl, by decide, by decide, q_573, z_397, fun z hz => absurd hz List.not_mem_nil⟩, fun q9 => ?_⟩
      show Wo _ _ _ _ (if 3 = 3 then some (1, σ9) else if 3 = 1 then some (2, σ9) else none) _ _ _ _ _ _
      refine r_astore hC [(5, va_rf (some q9)), (0, va_rf p0), (1, .int p1), (2, .int p2), (3, .int p3), (4, va_rf p4)] (r := (some q9)) (i := 5) (by decide) (by simp [List.filter, cat_rf, cat_i, cat_j, cat_d, cat_a]) dL_flushIn_15 ?_
      refine r_iconst hC (1) rfl dL_flushIn_17 ?_
      exact e_I hC ⟨by omega, by omega⟩ dL_flushIn_18
    by_cases g1 : k9 = 1
    · subst g1
      refine Or.inr ⟨19, ⟨[(0, 12, 15, 25)], [], _, _, _, rfl, by decide, by decide, q_548, z_315, fun z hz => by
          simp only [List.mem_cons, List.not_mem_nil, or_false] at hz
          rcases hz with rfl
          · exact ⟨by decide, 3, q_573, hC.hK.1.2.2.2.2.2.2.2.1⟩
    ⟩, fun q9 => ?_⟩
      show Wo _ _ _ _ (if 1 = 3 then some (1, σ9) else if 1 = 1 then some (2, σ9) else none) _ _ _ _ _ _
      refine r_astore hC [(5, va_rf (some q9)), (0, va_rf p0), (1, .int p1), (2, .int p2), (3, .int p3), (4, va_rf p4)] (r := (some q9)) (i := 5) (by decide) (by simp [List.filter, cat_rf, cat_i, cat_j, cat_d, cat_a]) dL_flushIn_19 ?_
      refine r_iconst hC (2) rfl dL_flushIn_21 ?_
      exact e_I hC ⟨by omega, by omega⟩ dL_flushIn_22
    exact Or.inl (by simp only [if_neg g3, if_neg g1])
  · show Wo _ _ _ _ _ _ _ _ _ _ [.int v1, .int 0, va_rf p4]
    refine r_i2l hC dL_flushIn_10 (fun v4 => ?_)
    refine r_wJ hC (r := p4) dL_flushIn_11 (fun σ5 => ?_)
    refine r_goto hC 23 dL_flushIn_12 (by decide) ?_
    refine r_iconst hC (0) rfl dL_flushIn_23 ?_
    exact e_I hC ⟨by omega, by omega⟩ dL_flushIn_24

set_option maxRecDepth 100000 in
set_option maxHeartbeats 4000000 in
theorem ct_L_flushIn {l : Launch} (hl : l.stackTraces = false) (G : Glb) (p0 : (Option Nat)) (p1 : Int32) (p2 : Int32) (p3 : Int32) (p4 : (Option Nat)) (σ : Mem) : Ct rvI l yL_flushIn (Cond.codeWith yL_flushIn cL_flushIn 6 (some .int) [(0, 12, 15, 25), (0, 12, 19, 13)] :: uW) { frames := 9, cells := 1, slots := 6, locals := 149 } 1 6 G [va_rf p0, .int p1, .int p2, .int p3, va_rf p4] σ (f_L_flushIn p0 p1 p2 p3 p4 σ) := by
  refine Ct.ofW hl (by decide +kernel) (by simp [lg_sl, cat_rf, cat_i, cat_j, cat_d, cat_a]) (fun C hC hE => ?_)
  have e : lv_args 0 [va_rf p0, .int p1, .int p2, .int p3, va_rf p4] = [(0, va_rf p0), (1, .int p1), (2, .int p2), (3, .int p3), (4, va_rf p4)] := by simp [lv_args, cat_rf, cat_i, cat_j, cat_d, cat_a]
  rw [e]
  exact t_L_flushIn_0 hC hE p0 p1 p2 p3 p4 σ 0 0 ⟨Nat.le_of_ble_eq_true rfl, Nat.le_of_ble_eq_true rfl⟩

noncomputable def b_L_bestFire_0 (p0 : (Option Nat)) (p1 : Int32) (p2 : (Option Nat)) (σ : Mem) : Option ((Int32) × Mem) :=
ob 6 σ p0 fun h3 => cx1 (f_X4_bestFire h3 p1 σ) (fun v1 σ2 =>
nm (v1.toInt64) fun v4 =>
wJ σ2 p2 0 v4 fun σ5 =>
some (0, σ5)) (fun k9 σ9 => if k9 = 3 then
some (1, σ9)
else if k9 = 2 then
some (2, σ9)
else none)

noncomputable def f_L_bestFire (p0 : (Option Nat)) (p1 : Int32) (p2 : (Option Nat)) (σ : Mem) : Option ((Int32) × Mem) := b_L_bestFire_0 p0 p1 p2 σ
set_option maxRecDepth 100000 in
set_option maxHeartbeats 4000000 in
theorem t_L_bestFire_0 {C : Cxt} {G : Glb} (hC : CX C G RL cL_bestFire 4 (some .int) 9 1 6 150) (hE : (cC C).exceptionTable.toList.map (fun h => (h.startPc, h.endPc, h.handlerPc, h.catchType)) = [(0, 9, 12, 25), (0, 9, 15, 15)]) (p0 : (Option Nat)) (p1 : Int32) (p2 : (Option Nat)) (σ : Mem) (kc ks : Nat) (hN : kc + 1 ≤ 1 ∧ ks + 6 ≤ 6) : Wo C G 4 (QP C G rvI 1 6) (b_L_bestFire_0  p0 p1 p2 σ) σ kc ks 0 [(0, va_rf p0), (1, .int p1), (2, va_rf p2)] [] := by
  unfold b_L_bestFire_0
  refine r_aloadn hC 2 (r := p2) rfl rfl dL_bestFire_0 ?_
  refine r_iconst hC (0) rfl dL_bestFire_1 ?_
  refine r_aloadn hC 0 (r := p0) rfl rfl dL_bestFire_2 ?_
  refine r_iloadn hC 1 rfl rfl dL_bestFire_3 ?_
  refine callH_V hC hE (av := [.int p1]) (st := [.int 0, va_rf p2]) (r := p0) (ci := 6) rfl rfl (fun h9 => ct_X4_bestFire hC.hl G h9 p1 σ) q_776 q_471 q_472 q_39 q_473 yd_X4_bestFire rfl ⟨Nat.le_of_ble_eq_true rfl, Nat.le_of_ble_eq_true rfl⟩ ⟨by omega, by omega⟩ ⟨by omega, by omega⟩ rfl (by simp [cat_rf, cat_i, cat_j, cat_d, cat_a]) dL_bestFire_4 (fun k9 σ9 => ?_) (fun v1 σ2 => ?_)
  · by_cases g3 : k9 = 3
    · subst g3
      refine Or.inr ⟨12, ⟨[], [(0, 9, 15, 15)], _, _, _, rfl, by decide, by decide, q_573, z_397, fun z hz => absurd hz List.not_mem_nil⟩, fun q9 => ?_⟩
      show Wo _ _ _ _ (if 3 = 3 then some (1, σ9) else if 3 = 2 then some (2, σ9) else none) _ _ _ _ _ _
      refine r_astoren hC [(3, va_rf (some q9)), (0, va_rf p0), (1, .int p1), (2, va_rf p2)] (r := (some q9)) (i := 3) rfl (by decide) (by simp [List.filter, cat_rf, cat_i, cat_j, cat_d, cat_a]) dL_bestFire_12 ?_
      refine r_iconst hC (1) rfl dL_bestFire_13 ?_
      exact e_I hC ⟨by omega, by omega⟩ dL_bestFire_14
    by_cases g2 : k9 = 2
    · subst g2
      refine Or.inr ⟨15, ⟨[(0, 9, 12, 25)], [], _, _, _, rfl, by decide, by decide, q_549, z_441, fun z hz => by
          simp only [List.mem_cons, List.not_mem_nil, or_false] at hz
          rcases hz with rfl
          · exact ⟨by decide, 3, q_573, hC.hK.1.2.2.2.2.2.2.2.2⟩
    ⟩, fun q9 => ?_⟩
      show Wo _ _ _ _ (if 2 = 3 then some (1, σ9) else if 2 = 2 then some (2, σ9) else none) _ _ _ _ _ _
      refine r_astoren hC [(3, va_rf (some q9)), (0, va_rf p0), (1, .int p1), (2, va_rf p2)] (r := (some q9)) (i := 3) rfl (by decide) (by simp [List.filter, cat_rf, cat_i, cat_j, cat_d, cat_a]) dL_bestFire_15 ?_
      refine r_iconst hC (2) rfl dL_bestFire_16 ?_
      exact e_I hC ⟨by omega, by omega⟩ dL_bestFire_17
    exact Or.inl (by simp only [if_neg g3, if_neg g2])
  · show Wo _ _ _ _ _ _ _ _ _ _ [.int v1, .int 0, va_rf p2]
    refine r_i2l hC dL_bestFire_7 (fun v4 => ?_)
    refine r_wJ hC (r := p2) dL_bestFire_8 (fun σ5 => ?_)
    refine r_goto hC 18 dL_bestFire_9 (by decide) ?_
    refine r_iconst hC (0) rfl dL_bestFire_18 ?_
    exact e_I hC ⟨by omega, by omega⟩ dL_bestFire_19

set_option maxRecDepth 100000 in
set_option maxHeartbeats 4000000 in
theorem ct_L_bestFire {l : Launch} (hl : l.stackTraces = false) (G : Glb) (p0 : (Option Nat)) (p1 : Int32) (p2 : (Option Nat)) (σ : Mem) : Ct rvI l yL_bestFire (Cond.codeWith yL_bestFire cL_bestFire 4 (some .int) [(0, 9, 12, 25), (0, 9, 15, 15)] :: uW) { frames := 9, cells := 1, slots := 6, locals := 150 } 1 6 G [va_rf p0, .int p1, va_rf p2] σ (f_L_bestFire p0 p1 p2 σ) := by
  refine Ct.ofW hl (by decide +kernel) (by simp [lg_sl, cat_rf, cat_i, cat_j, cat_d, cat_a]) (fun C hC hE => ?_)
  have e : lv_args 0 [va_rf p0, .int p1, va_rf p2] = [(0, va_rf p0), (1, .int p1), (2, va_rf p2)] := by simp [lv_args, cat_rf, cat_i, cat_j, cat_d, cat_a]
  rw [e]
  exact t_L_bestFire_0 hC hE p0 p1 p2 σ 0 0 ⟨Nat.le_of_ble_eq_true rfl, Nat.le_of_ble_eq_true rfl⟩

noncomputable def b_L_bestMix_0 (p0 : (Option Nat)) (p1 : Int32) (p2 : Int32) (p3 : Int32) (p4 : (Option Nat)) (σ : Mem) : Option ((Int32) × Mem) :=
ob 6 σ p0 fun h3 => cx1 (f_X4_bestMix h3 p1 p2 p3 σ) (fun v1 σ2 =>
nm (v1.toInt64) fun v4 =>
wJ σ2 p4 0 v4 fun σ5 =>
some (0, σ5)) (fun k9 σ9 => if k9 = 1 then
some (1, σ9)
else none)

noncomputable def f_L_bestMix (p0 : (Option Nat)) (p1 : Int32) (p2 : Int32) (p3 : Int32) (p4 : (Option Nat)) (σ : Mem) : Option ((Int32) × Mem) := b_L_bestMix_0 p0 p1 p2 p3 p4 σ
set_option maxRecDepth 100000 in
set_option maxHeartbeats 4000000 in
theorem t_L_bestMix_0 {C : Cxt} {G : Glb} (hC : CX C G RL cL_bestMix 6 (some .int) 8 1 6 130) (hE : (cC C).exceptionTable.toList.map (fun h => (h.startPc, h.endPc, h.handlerPc, h.catchType)) = [(0, 12, 15, 13)]) (p0 : (Option Nat)) (p1 : Int32) (p2 : Int32) (p3 : Int32) (p4 : (Option Nat)) (σ : Mem) (kc ks : Nat) (hN : kc + 1 ≤ 1 ∧ ks + 6 ≤ 6) : Wo C G 6 (QP C G rvI 1 6) (b_L_bestMix_0  p0 p1 p2 p3 p4 σ) σ kc ks 0 [(0, va_rf p0), (1, .int p1), (2, .int p2), (3, .int p3), (4, va_rf p4)] [] := by
  unfold b_L_bestMix_0
  refine r_aload hC 4 (r := p4) rfl dL_bestMix_0 ?_
  refine r_iconst hC (0) rfl dL_bestMix_2 ?_
  refine r_aloadn hC 0 (r := p0) rfl rfl dL_bestMix_3 ?_
  refine r_iloadn hC 1 rfl rfl dL_bestMix_4 ?_
  refine r_iloadn hC 2 rfl rfl dL_bestMix_5 ?_
  refine r_iloadn hC 3 rfl rfl dL_bestMix_6 ?_
  refine callH_V hC hE (av := [.int p1, .int p2, .int p3]) (st := [.int 0, va_rf p4]) (r := p0) (ci := 6) rfl rfl (fun h9 => ct_X4_bestMix hC.hl G h9 p1 p2 p3 σ) q_780 q_532 q_533 q_39 q_534 yd_X4_bestMix rfl ⟨Nat.le_of_ble_eq_true rfl, Nat.le_of_ble_eq_true rfl⟩ ⟨by omega, by omega⟩ ⟨by omega, by omega⟩ rfl (by simp [cat_rf, cat_i, cat_j, cat_d, cat_a]) dL_bestMix_7 (fun k9 σ9 => ?_) (fun v1 σ2 => ?_)
  · by_cases g1 : k9 = 1
    · subst g1
      refine Or.inr ⟨15, ⟨[], [], _, _, _, rfl, by decide, by decide, q_548, z_315, fun z hz => absurd hz List.not_mem_nil⟩, fun q9 => ?_⟩
      show Wo _ _ _ _ (if 1 = 1 then some (1, σ9) else none) _ _ _ _ _ _
      refine r_astore hC [(5, va_rf (some q9)), (0, va_rf p0), (1, .int p1), (2, .int p2), (3, .int p3), (4, va_rf p4)] (r := (some q9)) (i := 5) (by decide) (by simp [List.filter, cat_rf, cat_i, cat_j, cat_d, cat_a]) dL_bestMix_15 ?_
      refine r_iconst hC (1) rfl dL_bestMix_17 ?_
      exact e_I hC ⟨by omega, by omega⟩ dL_bestMix_18
    exact Or.inl (by simp only [if_neg g1])
  · show Wo _ _ _ _ _ _ _ _ _ _ [.int v1, .int 0, va_rf p4]
    refine r_i2l hC dL_bestMix_10 (fun v4 => ?_)
    refine r_wJ hC (r := p4) dL_bestMix_11 (fun σ5 => ?_)
    refine r_goto hC 19 dL_bestMix_12 (by decide) ?_
    refine r_iconst hC (0) rfl dL_bestMix_19 ?_
    exact e_I hC ⟨by omega, by omega⟩ dL_bestMix_20

set_option maxRecDepth 100000 in
set_option maxHeartbeats 4000000 in
theorem ct_L_bestMix {l : Launch} (hl : l.stackTraces = false) (G : Glb) (p0 : (Option Nat)) (p1 : Int32) (p2 : Int32) (p3 : Int32) (p4 : (Option Nat)) (σ : Mem) : Ct rvI l yL_bestMix (Cond.codeWith yL_bestMix cL_bestMix 6 (some .int) [(0, 12, 15, 13)] :: uW) { frames := 8, cells := 1, slots := 6, locals := 130 } 1 6 G [va_rf p0, .int p1, .int p2, .int p3, va_rf p4] σ (f_L_bestMix p0 p1 p2 p3 p4 σ) := by
  refine Ct.ofW hl (by decide +kernel) (by simp [lg_sl, cat_rf, cat_i, cat_j, cat_d, cat_a]) (fun C hC hE => ?_)
  have e : lv_args 0 [va_rf p0, .int p1, .int p2, .int p3, va_rf p4] = [(0, va_rf p0), (1, .int p1), (2, .int p2), (3, .int p3), (4, va_rf p4)] := by simp [lv_args, cat_rf, cat_i, cat_j, cat_d, cat_a]
  rw [e]
  exact t_L_bestMix_0 hC hE p0 p1 p2 p3 p4 σ 0 0 ⟨Nat.le_of_ble_eq_true rfl, Nat.le_of_ble_eq_true rfl⟩

noncomputable def b_L_wouldPay_0 (p0 : (Option Nat)) (p1 : Int32) (p2 : (Option Nat)) (σ : Mem) : Option ((Int32) × Mem) :=
ob 6 σ p0 fun h3 => cx1 (f_X4_wouldPay h3 p1 σ) (fun v1 σ2 =>
nm (v1.toInt64) fun v4 =>
wJ σ2 p2 0 v4 fun σ5 =>
some (0, σ5)) (fun k9 σ9 => if k9 = 3 then
some (1, σ9)
else if k9 = 2 then
some (2, σ9)
else none)

noncomputable def f_L_wouldPay (p0 : (Option Nat)) (p1 : Int32) (p2 : (Option Nat)) (σ : Mem) : Option ((Int32) × Mem) := b_L_wouldPay_0 p0 p1 p2 σ
set_option maxRecDepth 100000 in
set_option maxHeartbeats 4000000 in
theorem t_L_wouldPay_0 {C : Cxt} {G : Glb} (hC : CX C G RL cL_wouldPay 4 (some .int) 9 1 6 146) (hE : (cC C).exceptionTable.toList.map (fun h => (h.startPc, h.endPc, h.handlerPc, h.catchType)) = [(0, 9, 12, 25), (0, 9, 15, 15)]) (p0 : (Option Nat)) (p1 : Int32) (p2 : (Option Nat)) (σ : Mem) (kc ks : Nat) (hN : kc + 1 ≤ 1 ∧ ks + 6 ≤ 6) : Wo C G 4 (QP C G rvI 1 6) (b_L_wouldPay_0  p0 p1 p2 σ) σ kc ks 0 [(0, va_rf p0), (1, .int p1), (2, va_rf p2)] [] := by
  unfold b_L_wouldPay_0
  refine r_aloadn hC 2 (r := p2) rfl rfl dL_wouldPay_0 ?_
  refine r_iconst hC (0) rfl dL_wouldPay_1 ?_
  refine r_aloadn hC 0 (r := p0) rfl rfl dL_wouldPay_2 ?_
  refine r_iloadn hC 1 rfl rfl dL_wouldPay_3 ?_
  refine callH_V hC hE (av := [.int p1]) (st := [.int 0, va_rf p2]) (r := p0) (ci := 6) rfl rfl (fun h9 => ct_X4_wouldPay hC.hl G h9 p1 σ) q_784 q_493 q_494 q_39 q_495 yd_X4_wouldPay rfl ⟨Nat.le_of_ble_eq_true rfl, Nat.le_of_ble_eq_true rfl⟩ ⟨by omega, by omega⟩ ⟨by omega, by omega⟩ rfl (by simp [cat_rf, cat_i, cat_j, cat_d, cat_a]) dL_wouldPay_4 (fun k9 σ9 => ?_) (fun v1 σ2 => ?_)
  · by_cases g3 : k9 = 3
    · subst g3
      refine Or.inr ⟨12, ⟨[], [(0, 9, 15, 15)], _, _, _, rfl, by decide, by decide, q_573, z_397, fun z hz => absurd hz List.not_mem_nil⟩, fun q9 => ?_⟩
      show Wo _ _ _ _ (if 3 = 3 then some (1, σ9) else if 3 = 2 then some (2, σ9) else none) _ _ _ _ _ _
      refine r_astoren hC [(3, va_rf (some q9)), (0, va_rf p0), (1, .int p1), (2, va_rf p2)] (r := (some q9)) (i := 3) rfl (by decide) (by simp [List.filter, cat_rf, cat_i, cat_j, cat_d, cat_a]) dL_wouldPay_12 ?_
      refine r_iconst hC (1) rfl dL_wouldPay_13 ?_
      exact e_I hC ⟨by omega, by omega⟩ dL_wouldPay_14
    by_cases g2 : k9 = 2
    · subst g2
      refine Or.inr ⟨15, ⟨[(0, 9, 12, 25)], [], _, _, _, rfl, by decide, by decide, q_549, z_441, fun z hz => by
          simp only [List.mem_cons, List.not_mem_nil, or_false] at hz
          rcases hz with rfl
          · exact ⟨by decide, 3, q_573, hC.hK.1.2.2.2.2.2.2.2.2⟩
    ⟩, fun q9 => ?_⟩
      show Wo _ _ _ _ (if 2 = 3 then some (1, σ9) else if 2 = 2 then some (2, σ9) else none) _ _ _ _ _ _
      refine r_astoren hC [(3, va_rf (some q9)), (0, va_rf p0), (1, .int p1), (2, va_rf p2)] (r := (some q9)) (i := 3) rfl (by decide) (by simp [List.filter, cat_rf, cat_i, cat_j, cat_d, cat_a]) dL_wouldPay_15 ?_
      refine r_iconst hC (2) rfl dL_wouldPay_16 ?_
      exact e_I hC ⟨by omega, by omega⟩ dL_wouldPay_17
    exact Or.inl (by simp only [if_neg g3, if_neg g2])
  · show Wo _ _ _ _ _ _ _ _ _ _ [.int v1, .int 0, va_rf p2]
    refine r_i2l hC dL_wouldPay_7 (fun v4 => ?_)
    refine r_wJ hC (r := p2) dL_wouldPay_8 (fun σ5 => ?_)
    refine r_goto hC 18 dL_wouldPay_9 (by decide) ?_
    refine r_iconst hC (0) rfl dL_wouldPay_18 ?_
    exact e_I hC ⟨by omega, by omega⟩ dL_wouldPay_19

set_option maxRecDepth 100000 in
set_option maxHeartbeats 4000000 in
theorem ct_L_wouldPay {l : Launch} (hl : l.stackTraces = false) (G : Glb) (p0 : (Option Nat)) (p1 : Int32) (p2 : (Option Nat)) (σ : Mem) : Ct rvI l yL_wouldPay (Cond.codeWith yL_wouldPay cL_wouldPay 4 (some .int) [(0, 9, 12, 25), (0, 9, 15, 15)] :: uW) { frames := 9, cells := 1, slots := 6, locals := 146 } 1 6 G [va_rf p0, .int p1, va_rf p2] σ (f_L_wouldPay p0 p1 p2 σ) := by
  refine Ct.ofW hl (by decide +kernel) (by simp [lg_sl, cat_rf, cat_i, cat_j, cat_d, cat_a]) (fun C hC hE => ?_)
  have e : lv_args 0 [va_rf p0, .int p1, va_rf p2] = [(0, va_rf p0), (1, .int p1), (2, va_rf p2)] := by simp [lv_args, cat_rf, cat_i, cat_j, cat_d, cat_a]
  rw [e]
  exact t_L_wouldPay_0 hC hE p0 p1 p2 σ 0 0 ⟨Nat.le_of_ble_eq_true rfl, Nat.le_of_ble_eq_true rfl⟩
