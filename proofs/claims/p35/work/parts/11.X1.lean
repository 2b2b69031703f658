noncomputable def b_X1_init_0 (a0 : Nat) (σ : Mem) : Option ((Unit) × Mem) :=
ob 1 σ (some a0) fun _ =>
pI 1 0 σ (some a0) 0 fun σ1 =>
pI 1 1 σ1 (some a0) 0 fun σ2 =>
pI 1 2 σ2 (some a0) 0 fun σ3 =>
pI 1 3 σ3 (some a0) 0 fun σ4 =>
pI 1 4 σ4 (some a0) 0 fun σ5 =>
pI 1 5 σ5 (some a0) 0 fun σ6 =>
pI 1 6 σ6 (some a0) 0 fun σ7 =>
pI 1 7 σ7 (some a0) 0 fun σ8 =>
pI 1 8 σ8 (some a0) 0 fun σ9 =>
pI 1 9 σ9 (some a0) (-1) fun σ10 =>
pB 1 10 σ10 (some a0) 0 fun σ11 =>
pB 1 11 σ11 (some a0) 0 fun σ12 =>
pB 1 12 σ12 (some a0) 0 fun σ13 =>
nA 0 4 σ13 4 fun σ14 r15 =>
pR 1 13 σ14 (some a0) r15 fun σ16 =>
nA 0 3 σ16 3 fun σ17 r18 =>
pR 1 14 σ17 (some a0) r18 fun σ19 =>
nO 0 σ19 fun σ20 r21 =>
ob 0 σ20 r21 fun h24 => cl1 (f_X0_init h24 σ20) fun _ σ23 =>
pR 1 15 σ23 (some a0) r21 fun σ25 =>
some ((), σ25)

noncomputable def f_X1_init (a0 : Nat) (σ : Mem) : Option ((Unit) × Mem) := b_X1_init_0 a0 σ
set_option maxRecDepth 100000 in
set_option maxHeartbeats 4000000 in
theorem t_X1_init_0 {C : Cxt} {G : Glb} (hC : CX C G RX1 cX1_init 1 none 2 5 19 32) (hin : (cF C).name = "<init>") (a0 : Nat) (σ : Mem) (kc ks : Nat) (hN : kc + 5 ≤ 5 ∧ ks + 19 ≤ 19) : Wo C G 1 (QP C G rvU 5 19) (b_X1_init_0  a0 σ) σ kc ks 0 [(0, va_rf (some a0))] [] := by
  unfold b_X1_init_0
  refine r_aloadn hC 0 (r := (some a0)) rfl rfl dX1_init_0 ?_
  refine call_O hC (r := (some a0)) q_41 q_31 q_32 (Nat.le_of_ble_eq_true rfl) (Nat.le_of_ble_eq_true rfl) dX1_init_1 ?_
  refine r_aloadn hC 0 (r := (some a0)) rfl rfl dX1_init_4 ?_
  refine r_iconst hC (0) rfl dX1_init_5 ?_
  refine r_pI hC (k := 0) (r := (some a0)) cls_1 (by decide) rfl q_64 (Or.inl rfl) (Or.inl rfl) dX1_init_6 (fun σ1 => ?_)
  refine r_aloadn hC 0 (r := (some a0)) rfl rfl dX1_init_9 ?_
  refine r_iconst hC (0) rfl dX1_init_10 ?_
  refine r_pI hC (k := 1) (r := (some a0)) cls_1 (by decide) rfl q_66 (Or.inl rfl) (Or.inl rfl) dX1_init_11 (fun σ2 => ?_)
  refine r_aloadn hC 0 (r := (some a0)) rfl rfl dX1_init_14 ?_
  refine r_iconst hC (0) rfl dX1_init_15 ?_
  refine r_pI hC (k := 2) (r := (some a0)) cls_1 (by decide) rfl q_68 (Or.inl rfl) (Or.inl rfl) dX1_init_16 (fun σ3 => ?_)
  refine r_aloadn hC 0 (r := (some a0)) rfl rfl dX1_init_19 ?_
  refine r_iconst hC (0) rfl dX1_init_20 ?_
  refine r_pI hC (k := 3) (r := (some a0)) cls_1 (by decide) rfl q_70 (Or.inl rfl) (Or.inl rfl) dX1_init_21 (fun σ4 => ?_)
  refine r_aloadn hC 0 (r := (some a0)) rfl rfl dX1_init_24 ?_
  refine r_iconst hC (0) rfl dX1_init_25 ?_
  refine r_pI hC (k := 4) (r := (some a0)) cls_1 (by decide) rfl q_72 (Or.inl rfl) (Or.inl rfl) dX1_init_26 (fun σ5 => ?_)
  refine r_aloadn hC 0 (r := (some a0)) rfl rfl dX1_init_29 ?_
  refine r_iconst hC (0) rfl dX1_init_30 ?_
  refine r_pI hC (k := 5) (r := (some a0)) cls_1 (by decide) rfl q_74 (Or.inl rfl) (Or.inl rfl) dX1_init_31 (fun σ6 => ?_)
  refine r_aloadn hC 0 (r := (some a0)) rfl rfl dX1_init_34 ?_
  refine r_iconst hC (0) rfl dX1_init_35 ?_
  refine r_pI hC (k := 6) (r := (some a0)) cls_1 (by decide) rfl q_76 (Or.inl rfl) (Or.inl rfl) dX1_init_36 (fun σ7 => ?_)
  refine r_aloadn hC 0 (r := (some a0)) rfl rfl dX1_init_39 ?_
  refine r_iconst hC (0) rfl dX1_init_40 ?_
  refine r_pI hC (k := 7) (r := (some a0)) cls_1 (by decide) rfl q_78 (Or.inl rfl) (Or.inl rfl) dX1_init_41 (fun σ8 => ?_)
  refine r_aloadn hC 0 (r := (some a0)) rfl rfl dX1_init_44 ?_
  refine r_iconst hC (0) rfl dX1_init_45 ?_
  refine r_pI hC (k := 8) (r := (some a0)) cls_1 (by decide) rfl q_80 (Or.inl rfl) (Or.inl rfl) dX1_init_46 (fun σ9 => ?_)
  refine r_aloadn hC 0 (r := (some a0)) rfl rfl dX1_init_49 ?_
  refine r_iconst hC (-1) rfl dX1_init_50 ?_
  refine r_pI hC (k := 9) (r := (some a0)) cls_1 (by decide) rfl q_82 (Or.inl rfl) (Or.inl rfl) dX1_init_51 (fun σ10 => ?_)
  refine r_aloadn hC 0 (r := (some a0)) rfl rfl dX1_init_54 ?_
  refine r_iconst hC (0) rfl dX1_init_55 ?_
  refine r_pB hC (k := 10) (r := (some a0)) cls_1 (by decide) rfl q_84 (Or.inl rfl) (Or.inl rfl) dX1_init_56 (fun σ11 => ?_)
  refine r_aloadn hC 0 (r := (some a0)) rfl rfl dX1_init_59 ?_
  refine r_iconst hC (0) rfl dX1_init_60 ?_
  refine r_pB hC (k := 11) (r := (some a0)) cls_1 (by decide) rfl q_86 (Or.inl rfl) (Or.inl rfl) dX1_init_61 (fun σ12 => ?_)
  refine r_aloadn hC 0 (r := (some a0)) rfl rfl dX1_init_64 ?_
  refine r_iconst hC (0) rfl dX1_init_65 ?_
  refine r_pB hC (k := 12) (r := (some a0)) cls_1 (by decide) rfl q_88 (Or.inl rfl) (Or.inl rfl) dX1_init_66 (fun σ13 => ?_)
  refine r_aloadn hC 0 (r := (some a0)) rfl rfl dX1_init_69 ?_
  refine r_iconst hC (4) rfl dX1_init_70 ?_
  refine r_nA hC (t := 0) (b := 4) (ty := .int) rfl rfl rfl (fun _ h => va_nm_int h) q_63 (Nat.le_of_ble_eq_true rfl) ⟨by omega, by omega⟩ dX1_init_71 (fun σ14 r15 => ?_)
  refine r_pR hC (k := 13) (r := (some a0)) (v := r15) cls_1 (by decide) rfl (Or.inr ⟨_, rfl⟩) q_90 (Or.inl rfl) (Or.inr ⟨rfl, hin, rfl⟩) dX1_init_73 (fun σ16 => ?_)
  refine r_aloadn hC 0 (r := (some a0)) rfl rfl dX1_init_76 ?_
  refine r_iconst hC (3) rfl dX1_init_77 ?_
  refine r_nA hC (t := 0) (b := 3) (ty := .int) rfl rfl rfl (fun _ h => va_nm_int h) q_63 (Nat.le_of_ble_eq_true rfl) ⟨by omega, by omega⟩ dX1_init_78 (fun σ17 r18 => ?_)
  refine r_pR hC (k := 14) (r := (some a0)) (v := r18) cls_1 (by decide) rfl (Or.inr ⟨_, rfl⟩) q_92 (Or.inl rfl) (Or.inr ⟨rfl, hin, rfl⟩) dX1_init_80 (fun σ19 => ?_)
  refine r_aloadn hC 0 (r := (some a0)) rfl rfl dX1_init_83 ?_
  refine r_nO hC cls_0 q_42 q_43 q_15 ⟨by omega, by omega⟩ dX1_init_84 (fun σ20 r21 => ?_)
  refine r_dup hC (cat_rf _) dX1_init_87 ?_
  refine call_IN hC (av := []) (st := [va_rf r21, va_rf (some a0)]) (r := r21) (ci := 0) (fun h9 => ct_X0_init hC.hl G h9 σ20) z_44 q_45 q_15 q_46 rfl yd_X0_init rfl ⟨Nat.le_of_ble_eq_true rfl, Nat.le_of_ble_eq_true rfl⟩ ⟨by omega, by omega⟩ rfl (by simp [cat_rf, cat_i, cat_j, cat_d, cat_a]) dX1_init_88 (fun σ23 => ?_)
  refine r_pR hC (k := 15) (r := (some a0)) (v := r21) cls_1 (by decide) rfl (Or.inl ⟨_, rfl⟩) q_94 (Or.inl rfl) (Or.inr ⟨rfl, hin, rfl⟩) dX1_init_91 (fun σ25 => ?_)
  exact e_U hC ⟨by omega, by omega⟩ dX1_init_94

set_option maxRecDepth 100000 in
set_option maxHeartbeats 4000000 in
theorem ct_X1_init {l : Launch} (hl : l.stackTraces = false) (G : Glb) (a0 : Nat) (σ : Mem) : Ct rvU l yX1_init (Cond.code yX1_init cX1_init 1 none :: uW) { frames := 2, cells := 5, slots := 19, locals := 32 } 5 19 G [.ref a0] σ (f_X1_init a0 σ) := by
  refine Ct.of hl (by decide +kernel) (Nat.le_of_ble_eq_true rfl) (fun C hC hin => ?_)
  have e : lv_args 0 [.ref a0] = [(0, .ref a0)] := rfl
  rw [e]
  exact t_X1_init_0 hC hin a0 σ 0 0 ⟨Nat.le_of_ble_eq_true rfl, Nat.le_of_ble_eq_true rfl⟩

noncomputable def b_X1_isFreeMade_23 (y23_0 : Int32) (σ : Mem) : Option ((Int32) × Mem) :=
bo y23_0 (some (y23_0, σ))

noncomputable def b_X1_isFreeMade_22 (σ : Mem) : Option ((Int32) × Mem) :=
b_X1_isFreeMade_23 0 σ

noncomputable def b_X1_isFreeMade_0 (a0 : Nat) (σ : Mem) : Option ((Int32) × Mem) :=
gI 1 0 σ (some a0) fun v1 =>
if v1 = 2 then
gR 1 15 σ (some a0) fun r2 =>
ob 0 σ r2 fun h5 => cl1 (f_X0_isOpen h5 σ) fun v3 σ4 =>
if v3 = 0 then
b_X1_isFreeMade_23 1 σ4
else
b_X1_isFreeMade_22 σ4
else
b_X1_isFreeMade_22 σ

noncomputable def f_X1_isFreeMade (a0 : Nat) (σ : Mem) : Option ((Int32) × Mem) := b_X1_isFreeMade_0 a0 σ
set_option maxRecDepth 100000 in
set_option maxHeartbeats 4000000 in
theorem t_X1_isFreeMade_23 {C : Cxt} {G : Glb} (hC : CX C G RX1 cX1_isFreeMade 1 (some .boolean) 1 0 0 20) (y23_0 : Int32) (σ : Mem) : Wo C G 1 (QP C G rvI 0 0) (b_X1_isFreeMade_23  y23_0 σ) σ 0 0 23 [] [.int y23_0] := by
  unfold b_X1_isFreeMade_23
  exact e_B hC ⟨Nat.zero_le _, Nat.zero_le _⟩ dX1_isFreeMade_23

set_option maxRecDepth 100000 in
set_option maxHeartbeats 4000000 in
theorem t_X1_isFreeMade_22 {C : Cxt} {G : Glb} (hC : CX C G RX1 cX1_isFreeMade 1 (some .boolean) 1 0 0 20) (σ : Mem) : Wo C G 1 (QP C G rvI 0 0) (b_X1_isFreeMade_22   σ) σ 0 0 22 [] [] := by
  unfold b_X1_isFreeMade_22
  refine r_iconst hC (0) rfl dX1_isFreeMade_22 ?_
  exact t_X1_isFreeMade_23 hC 0 σ

set_option maxRecDepth 100000 in
set_option maxHeartbeats 4000000 in
theorem t_X1_isFreeMade_0 {C : Cxt} {G : Glb} (hC : CX C G RX1 cX1_isFreeMade 1 (some .boolean) 1 0 0 20) (a0 : Nat) (σ : Mem) : Wo C G 1 (QP C G rvI 0 0) (b_X1_isFreeMade_0  a0 σ) σ 0 0 0 [(0, va_rf (some a0))] [] := by
  unfold b_X1_isFreeMade_0
  refine r_aloadn hC 0 (r := (some a0)) rfl rfl dX1_isFreeMade_0 ?_
  refine r_gI hC (k := 0) (r := (some a0)) cls_1 (by decide) rfl q_64 (Or.inl rfl) dX1_isFreeMade_1 (fun v1 => ?_)
  refine r_iconst hC (2) rfl dX1_isFreeMade_4 ?_
  refine r_icmp_ne hC 22 dX1_isFreeMade_5 (by decide) ?_ ?_
  · refine Wo.sub [] rfl ?_
    exact t_X1_isFreeMade_22 hC  σ
  · refine r_aloadn hC 0 (r := (some a0)) rfl rfl dX1_isFreeMade_8 ?_
    refine r_gR hC (k := 15) (r := (some a0)) cls_1 (by decide) rfl q_94 (Or.inl rfl) dX1_isFreeMade_9 (fun r2 => ?_)
    refine call_V hC (av := []) (st := []) (r := r2) (ci := 0) rfl rfl (fun h9 => ct_X0_isOpen hC.hl G h9 σ) q_459 q_362 q_363 q_15 q_364 yd_X0_isOpen rfl ⟨Nat.le_of_ble_eq_true rfl, Nat.le_of_ble_eq_true rfl⟩ ⟨Nat.zero_le _, Nat.zero_le _⟩ rfl (Nat.le_of_ble_eq_true rfl) dX1_isFreeMade_12 (fun v3 σ4 => ?_)
    show Wo _ _ _ _ _ _ _ _ _ _ [.int v3]
    refine r_if_ne hC 22 dX1_isFreeMade_15 (by decide) ?_ ?_
    · refine Wo.sub [] rfl ?_
      exact t_X1_isFreeMade_22 hC  σ4
    · refine r_iconst hC (1) rfl dX1_isFreeMade_18 ?_
      refine r_goto hC 23 dX1_isFreeMade_19 (by decide) ?_
      refine Wo.sub [] rfl ?_
      exact t_X1_isFreeMade_23 hC 1 σ4

set_option maxRecDepth 100000 in
set_option maxHeartbeats 4000000 in
theorem ct_X1_isFreeMade {l : Launch} (hl : l.stackTraces = false) (G : Glb) (a0 : Nat) (σ : Mem) : Ct rvI l yX1_isFreeMade (Cond.code yX1_isFreeMade cX1_isFreeMade 1 (some .boolean) :: uW) { frames := 1, cells := 0, slots := 0, locals := 20 } 0 0 G [.ref a0] σ (f_X1_isFreeMade a0 σ) := by
  refine Ct.of hl (by decide +kernel) (Nat.le_of_ble_eq_true rfl) (fun C hC hin => ?_)
  have e : lv_args 0 [.ref a0] = [(0, .ref a0)] := rfl
  rw [e]
  exact t_X1_isFreeMade_0 hC a0 σ

noncomputable def b_X1_isDried_19 (y19_0 : Int32) (σ : Mem) : Option ((Int32) × Mem) :=
bo y19_0 (some (y19_0, σ))

noncomputable def b_X1_isDried_0 (a0 : Nat) (σ : Mem) : Option ((Int32) × Mem) :=
gI 1 3 σ (some a0) fun v1 =>
nm (20 * v1) fun v2 =>
gI 1 1 σ (some a0) fun v3 =>
if v3 < v2 then
b_X1_isDried_19 0 σ
else
b_X1_isDried_19 1 σ

noncomputable def f_X1_isDried (a0 : Nat) (σ : Mem) : Option ((Int32) × Mem) := b_X1_isDried_0 a0 σ
set_option maxRecDepth 100000 in
set_option maxHeartbeats 4000000 in
theorem t_X1_isDried_19 {C : Cxt} {G : Glb} (hC : CX C G RX1 cX1_isDried 1 (some .boolean) 0 0 0 0) (y19_0 : Int32) (σ : Mem) : Wo C G 1 (QP C G rvI 0 0) (b_X1_isDried_19  y19_0 σ) σ 0 0 19 [] [.int y19_0] := by
  unfold b_X1_isDried_19
  exact e_B hC ⟨Nat.zero_le _, Nat.zero_le _⟩ dX1_isDried_19

set_option maxRecDepth 100000 in
set_option maxHeartbeats 4000000 in
theorem t_X1_isDried_0 {C : Cxt} {G : Glb} (hC : CX C G RX1 cX1_isDried 1 (some .boolean) 0 0 0 0) (a0 : Nat) (σ : Mem) : Wo C G 1 (QP C G rvI 0 0) (b_X1_isDried_0  a0 σ) σ 0 0 0 [(0, va_rf (some a0))] [] := by
  unfold b_X1_isDried_0
  refine r_bipush hC (20) (by decide) dX1_isDried_0 ?_
  refine r_aloadn hC 0 (r := (some a0)) rfl rfl dX1_isDried_2 ?_
  refine r_gI hC (k := 3) (r := (some a0)) cls_1 (by decide) rfl q_70 (Or.inl rfl) dX1_isDried_3 (fun v1 => ?_)
  refine r_imul hC dX1_isDried_6 (fun v2 => ?_)
  refine r_aloadn hC 0 (r := (some a0)) rfl rfl dX1_isDried_7 ?_
  refine r_gI hC (k := 1) (r := (some a0)) cls_1 (by decide) rfl q_66 (Or.inl rfl) dX1_isDried_8 (fun v3 => ?_)
  refine r_icmp_gt hC 18 dX1_isDried_11 (by decide) ?_ ?_
  · refine r_iconst hC (0) rfl dX1_isDried_18 ?_
    refine Wo.sub [] rfl ?_
    exact t_X1_isDried_19 hC 0 σ
  · refine r_iconst hC (1) rfl dX1_isDried_14 ?_
    refine r_goto hC 19 dX1_isDried_15 (by decide) ?_
    refine Wo.sub [] rfl ?_
    exact t_X1_isDried_19 hC 1 σ

set_option maxRecDepth 100000 in
set_option maxHeartbeats 4000000 in
theorem ct_X1_isDried {l : Launch} (hl : l.stackTraces = false) (G : Glb) (a0 : Nat) (σ : Mem) : Ct rvI l yX1_isDried (Cond.code yX1_isDried cX1_isDried 1 (some .boolean) :: uW) { frames := 0, cells := 0, slots := 0, locals := 0 } 0 0 G [.ref a0] σ (f_X1_isDried a0 σ) := by
  refine Ct.of hl (by decide +kernel) (Nat.le_of_ble_eq_true rfl) (fun C hC hin => ?_)
  have e : lv_args 0 [.ref a0] = [(0, .ref a0)] := rfl
  rw [e]
  exact t_X1_isDried_0 hC a0 σ

noncomputable def b_X1_vanish_12 (k12 : Nat → Int32 → Mem → Option ((Unit) × Mem)) (a0 : Nat) (x12_1 : Int32) (σ : Mem) : Option ((Unit) × Mem) :=
gR 1 13 σ (some a0) fun r3 =>
aL σ r3 fun v4 =>
if v4 ≤ x12_1 then
some ((), σ)
else
gR 1 13 σ (some a0) fun r5 =>
wI σ r5 x12_1 0 fun σ6 =>
nm (x12_1 + 1) fun v7 =>
k12 a0 v7 σ6

noncomputable def l_X1_vanish_12 (n : Nat) : Nat → Int32 → Mem → Option ((Unit) × Mem) := itr (fun _ _ _ => none) (fun k => b_X1_vanish_12  k) n

noncomputable def b_X1_vanish_0 (a0 : Nat) (σ : Mem) : Option ((Unit) × Mem) :=
pI 1 0 σ (some a0) 3 fun σ1 =>
pI 1 1 σ1 (some a0) 0 fun σ2 =>
l_X1_vanish_12 40 a0 0 σ2

noncomputable def f_X1_vanish (a0 : Nat) (σ : Mem) : Option ((Unit) × Mem) := b_X1_vanish_0 a0 σ
set_option maxRecDepth 100000 in
set_option maxHeartbeats 4000000 in
theorem t_X1_vanish_12 {C : Cxt} {G : Glb} (hC : CX C G RX1 cX1_vanish 2 none 0 0 0 0) (k12 : Nat → Int32 → Mem → Option ((Unit) × Mem)) (hk12 : ∀ (a0 : Nat) (x12_1 : Int32) (σ : Mem), Wo C G 2 (QP C G rvU 0 0) (k12 a0 x12_1 σ) σ 0 0 12 [(0, va_rf (some a0)), (1, .int x12_1)] []) (a0 : Nat) (x12_1 : Int32) (σ : Mem) : Wo C G 2 (QP C G rvU 0 0) (b_X1_vanish_12 k12 a0 x12_1 σ) σ 0 0 12 [(0, va_rf (some a0)), (1, .int x12_1)] [] := by
  unfold b_X1_vanish_12
  refine r_iloadn hC 1 rfl rfl dX1_vanish_12 ?_
  refine r_aloadn hC 0 (r := (some a0)) rfl rfl dX1_vanish_13 ?_
  refine r_gR hC (k := 13) (r := (some a0)) cls_1 (by decide) rfl q_90 (Or.inl rfl) dX1_vanish_14 (fun r3 => ?_)
  refine r_aL hC (r := r3) dX1_vanish_17 (fun v4 => ?_)
  refine r_icmp_ge hC 34 dX1_vanish_18 (by decide) ?_ ?_
  · exact e_U hC ⟨Nat.zero_le _, Nat.zero_le _⟩ dX1_vanish_34
  · refine r_aloadn hC 0 (r := (some a0)) rfl rfl dX1_vanish_21 ?_
    refine r_gR hC (k := 13) (r := (some a0)) cls_1 (by decide) rfl q_90 (Or.inl rfl) dX1_vanish_22 (fun r5 => ?_)
    refine r_iloadn hC 1 rfl rfl dX1_vanish_25 ?_
    refine r_iconst hC (0) rfl dX1_vanish_26 ?_
    refine r_wI hC (r := r5) dX1_vanish_27 (fun σ6 => ?_)
    refine r_iinc hC 1 (fun w => [(1, .int w), (0, va_rf (some a0))]) 1 rfl (by decide) rfl (fun w => rfl) dX1_vanish_28 (fun v7 => ?_)
    refine r_goto hC 12 dX1_vanish_31 (by decide) ?_
    refine Wo.sub [1, 0] rfl ?_
    exact hk12 a0 v7 σ6

set_option maxRecDepth 100000 in
set_option maxHeartbeats 4000000 in
theorem u_X1_vanish_12 {C : Cxt} {G : Glb} (hC : CX C G RX1 cX1_vanish 2 none 0 0 0 0) : ∀ (n : Nat) (a0 : Nat) (x12_1 : Int32) (σ : Mem), Wo C G 2 (QP C G rvU 0 0) (l_X1_vanish_12  n a0 x12_1 σ) σ 0 0 12 [(0, va_rf (some a0)), (1, .int x12_1)] [] := by
  intro n
  induction n with
  | zero => intro a0 x12_1 σ; exact Wo.none
  | succ n ih => intro a0 x12_1 σ; exact t_X1_vanish_12 hC (l_X1_vanish_12  n) ih a0 x12_1 σ

set_option maxRecDepth 100000 in
set_option maxHeartbeats 4000000 in
theorem t_X1_vanish_0 {C : Cxt} {G : Glb} (hC : CX C G RX1 cX1_vanish 2 none 0 0 0 0) (a0 : Nat) (σ : Mem) : Wo C G 2 (QP C G rvU 0 0) (b_X1_vanish_0  a0 σ) σ 0 0 0 [(0, va_rf (some a0))] [] := by
  unfold b_X1_vanish_0
  refine r_aloadn hC 0 (r := (some a0)) rfl rfl dX1_vanish_0 ?_
  refine r_iconst hC (3) rfl dX1_vanish_1 ?_
  refine r_pI hC (k := 0) (r := (some a0)) cls_1 (by decide) rfl q_64 (Or.inl rfl) (Or.inl rfl) dX1_vanish_2 (fun σ1 => ?_)
  refine r_aloadn hC 0 (r := (some a0)) rfl rfl dX1_vanish_5 ?_
  refine r_iconst hC (0) rfl dX1_vanish_6 ?_
  refine r_pI hC (k := 1) (r := (some a0)) cls_1 (by decide) rfl q_66 (Or.inl rfl) (Or.inl rfl) dX1_vanish_7 (fun σ2 => ?_)
  refine r_iconst hC (0) rfl dX1_vanish_10 ?_
  refine r_istoren hC [(1, .int 0), (0, va_rf (some a0))] (i := 1) rfl (by decide) rfl dX1_vanish_11 ?_
  refine Wo.sub [1, 0] rfl ?_
  exact u_X1_vanish_12 hC 40 a0 0 σ2

set_option maxRecDepth 100000 in
set_option maxHeartbeats 4000000 in
theorem ct_X1_vanish {l : Launch} (hl : l.stackTraces = false) (G : Glb) (a0 : Nat) (σ : Mem) : Ct rvU l yX1_vanish (Cond.code yX1_vanish cX1_vanish 2 none :: uW) { frames := 0, cells := 0, slots := 0, locals := 0 } 0 0 G [.ref a0] σ (f_X1_vanish a0 σ) := by
  refine Ct.of hl (by decide +kernel) (Nat.le_of_ble_eq_true rfl) (fun C hC hin => ?_)
  have e : lv_args 0 [.ref a0] = [(0, .ref a0)] := rfl
  rw [e]
  exact t_X1_vanish_0 hC a0 σ

noncomputable def b_X1_copyLeaf_0 (a0 : Nat) (p0 : (Option Nat)) (σ : Mem) : Option ((Unit) × Mem) :=
gI 1 1 σ p0 fun v1 =>
pI 1 1 σ (some a0) v1 fun σ2 =>
gI 1 2 σ2 p0 fun v3 =>
pI 1 2 σ2 (some a0) v3 fun σ4 =>
gI 1 3 σ4 p0 fun v5 =>
pI 1 3 σ4 (some a0) v5 fun σ6 =>
gI 1 4 σ6 p0 fun v7 =>
pI 1 4 σ6 (some a0) v7 fun σ8 =>
gI 1 5 σ8 p0 fun v9 =>
pI 1 5 σ8 (some a0) v9 fun σ10 =>
gI 1 6 σ10 p0 fun v11 =>
pI 1 6 σ10 (some a0) v11 fun σ12 =>
gI 1 7 σ12 p0 fun v13 =>
pI 1 7 σ12 (some a0) v13 fun σ14 =>
gI 1 8 σ14 p0 fun v15 =>
pI 1 8 σ14 (some a0) v15 fun σ16 =>
gI 1 10 σ16 p0 fun v17 =>
pB 1 10 σ16 (some a0) v17 fun σ18 =>
gI 1 11 σ18 p0 fun v19 =>
pB 1 11 σ18 (some a0) v19 fun σ20 =>
some ((), σ20)

noncomputable def f_X1_copyLeaf (a0 : Nat) (p0 : (Option Nat)) (σ : Mem) : Option ((Unit) × Mem) := b_X1_copyLeaf_0 a0 p0 σ
set_option maxRecDepth 100000 in
set_option maxHeartbeats 4000000 in
theorem t_X1_copyLeaf_0 {C : Cxt} {G : Glb} (hC : CX C G RX1 cX1_copyLeaf 2 none 0 0 0 0) (a0 : Nat) (p0 : (Option Nat)) (σ : Mem) : Wo C G 2 (QP C G rvU 0 0) (b_X1_copyLeaf_0  a0 p0 σ) σ 0 0 0 [(0, va_rf (some a0)), (1, va_rf p0)] [] := by
  unfold b_X1_copyLeaf_0
  refine r_aloadn hC 0 (r := (some a0)) rfl rfl dX1_copyLeaf_0 ?_
  refine r_aloadn hC 1 (r := p0) rfl rfl dX1_copyLeaf_1 ?_
  refine r_gI hC (k := 1) (r := p0) cls_1 (by decide) rfl q_66 (Or.inl rfl) dX1_copyLeaf_2 (fun v1 => ?_)
  refine r_pI hC (k := 1) (r := (some a0)) cls_1 (by decide) rfl q_66 (Or.inl rfl) (Or.inl rfl) dX1_copyLeaf_5 (fun σ2 => ?_)
  refine r_aloadn hC 0 (r := (some a0)) rfl rfl dX1_copyLeaf_8 ?_
  refine r_aloadn hC 1 (r := p0) rfl rfl dX1_copyLeaf_9 ?_
  refine r_gI hC (k := 2) (r := p0) cls_1 (by decide) rfl q_68 (Or.inl rfl) dX1_copyLeaf_10 (fun v3 => ?_)
  refine r_pI hC (k := 2) (r := (some a0)) cls_1 (by decide) rfl q_68 (Or.inl rfl) (Or.inl rfl) dX1_copyLeaf_13 (fun σ4 => ?_)
  refine r_aloadn hC 0 (r := (some a0)) rfl rfl dX1_copyLeaf_16 ?_
  refine r_aloadn hC 1 (r := p0) rfl rfl dX1_copyLeaf_17 ?_
  refine r_gI hC (k := 3) (r := p0) cls_1 (by decide) rfl q_70 (Or.inl rfl) dX1_copyLeaf_18 (fun v5 => ?_)
  refine r_pI hC (k := 3) (r := (some a0)) cls_1 (by decide) rfl q_70 (Or.inl rfl) (Or.inl rfl) dX1_copyLeaf_21 (fun σ6 => ?_)
  refine r_aloadn hC 0 (r := (some a0)) rfl rfl dX1_copyLeaf_24 ?_
  refine r_aloadn hC 1 (r := p0) rfl rfl dX1_copyLeaf_25 ?_
  refine r_gI hC (k := 4) (r := p0) cls_1 (by decide) rfl q_72 (Or.inl rfl) dX1_copyLeaf_26 (fun v7 => ?_)
  refine r_pI hC (k := 4) (r := (some a0)) cls_1 (by decide) rfl q_72 (Or.inl rfl) (Or.inl rfl) dX1_copyLeaf_29 (fun σ8 => ?_)
  refine r_aloadn hC 0 (r := (some a0)) rfl rfl dX1_copyLeaf_32 ?_
  refine r_aloadn hC 1 (r := p0) rfl rfl dX1_copyLeaf_33 ?_
  refine r_gI hC (k := 5) (r := p0) cls_1 (by decide) rfl q_74 (Or.inl rfl) dX1_copyLeaf_34 (fun v9 => ?_)
  refine r_pI hC (k := 5) (r := (some a0)) cls_1 (by decide) rfl q_74 (Or.inl rfl) (Or.inl rfl) dX1_copyLeaf_37 (fun σ10 => ?_)
  refine r_aloadn hC 0 (r := (some a0)) rfl rfl dX1_copyLeaf_40 ?_
  refine r_aloadn hC 1 (r := p0) rfl rfl dX1_copyLeaf_41 ?_
  refine r_gI hC (k := 6) (r := p0) cls_1 (by decide) rfl q_76 (Or.inl rfl) dX1_copyLeaf_42 (fun v11 => ?_)
  refine r_pI hC (k := 6) (r := (some a0)) cls_1 (by decide) rfl q_76 (Or.inl rfl) (Or.inl rfl) dX1_copyLeaf_45 (fun σ12 => ?_)
  refine r_aloadn hC 0 (r := (some a0)) rfl rfl dX1_copyLeaf_48 ?_
  refine r_aloadn hC 1 (r := p0) rfl rfl dX1_copyLeaf_49 ?_
  refine r_gI hC (k := 7) (r := p0) cls_1 (by decide) rfl q_78 (Or.inl rfl) dX1_copyLeaf_50 (fun v13 => ?_)
  refine r_pI hC (k := 7) (r := (some a0)) cls_1 (by decide) rfl q_78 (Or.inl rfl) (Or.inl rfl) dX1_copyLeaf_53 (fun σ14 => ?_)
  refine r_aloadn hC 0 (r := (some a0)) rfl rfl dX1_copyLeaf_56 ?_
  refine r_aloadn hC 1 (r := p0) rfl rfl dX1_copyLeaf_57 ?_
  refine r_gI hC (k := 8) (r := p0) cls_1 (by decide) rfl q_80 (Or.inl rfl) dX1_copyLeaf_58 (fun v15 => ?_)
  refine r_pI hC (k := 8) (r := (some a0)) cls_1 (by decide) rfl q_80 (Or.inl rfl) (Or.inl rfl) dX1_copyLeaf_61 (fun σ16 => ?_)
  refine r_aloadn hC 0 (r := (some a0)) rfl rfl dX1_copyLeaf_64 ?_
  refine r_aloadn hC 1 (r := p0) rfl rfl dX1_copyLeaf_65 ?_
  refine r_gI hC (k := 10) (r := p0) cls_1 (by decide) rfl q_84 (Or.inl rfl) dX1_copyLeaf_66 (fun v17 => ?_)
  refine r_pB hC (k := 10) (r := (some a0)) cls_1 (by decide) rfl q_84 (Or.inl rfl) (Or.inl rfl) dX1_copyLeaf_69 (fun σ18 => ?_)
  refine r_aloadn hC 0 (r := (some a0)) rfl rfl dX1_copyLeaf_72 ?_
  refine r_aloadn hC 1 (r := p0) rfl rfl dX1_copyLeaf_73 ?_
  refine r_gI hC (k := 11) (r := p0) cls_1 (by decide) rfl q_86 (Or.inl rfl) dX1_copyLeaf_74 (fun v19 => ?_)
  refine r_pB hC (k := 11) (r := (some a0)) cls_1 (by decide) rfl q_86 (Or.inl rfl) (Or.inl rfl) dX1_copyLeaf_77 (fun σ20 => ?_)
  exact e_U hC ⟨Nat.zero_le _, Nat.zero_le _⟩ dX1_copyLeaf_80

set_option maxRecDepth 100000 in
set_option maxHeartbeats 4000000 in
theorem ct_X1_copyLeaf {l : Launch} (hl : l.stackTraces = false) (G : Glb) (a0 : Nat) (p0 : (Option Nat)) (σ : Mem) : Ct rvU l yX1_copyLeaf (Cond.code yX1_copyLeaf cX1_copyLeaf 2 none :: uW) { frames := 0, cells := 0, slots := 0, locals := 0 } 0 0 G [.ref a0, va_rf p0] σ (f_X1_copyLeaf a0 p0 σ) := by
  refine Ct.of hl (by decide +kernel) (by simp [lg_sl, cat_rf, cat_i, cat_j, cat_d, cat_a]) (fun C hC hin => ?_)
  have e : lv_args 0 [.ref a0, va_rf p0] = [(0, .ref a0), (1, va_rf p0)] := by simp [lv_args, cat_rf, cat_i, cat_j, cat_d, cat_a]
  rw [e]
  exact t_X1_copyLeaf_0 hC a0 p0 σ

noncomputable def b_X1_heatMinute_46 (a0 : Nat) (x46_1 : Int32) (σ : Mem) : Option ((Unit) × Mem) :=
gI 1 3 σ (some a0) fun v4 =>
nm (v4 - x46_1) fun v5 =>
gI 1 1 σ (some a0) fun v6 =>
dv v6 20 fun v7 =>
nm (v5 - v7) fun v8 =>
nm (if 0 < v8 then v8 else 0) fun v9 =>
pI 1 3 σ (some a0) v9 fun σ10 =>
some ((), σ10)

noncomputable def b_X1_heatMinute_0 (a0 : Nat) (p0 : Int32) (σ : Mem) : Option ((Unit) × Mem) :=
ob 1 σ (some a0) fun h3 => cl1 (f_X1_isDried h3 σ) fun v1 σ2 =>
if v1 = 0 then
if p0 < 4 then
b_X1_heatMinute_46 a0 p0 σ2
else
gI 1 3 σ2 (some a0) fun v11 =>
gI 1 1 σ2 (some a0) fun v12 =>
if v11 ≤ v12 then
b_X1_heatMinute_46 a0 p0 σ2
else
gI 1 7 σ2 (some a0) fun v13 =>
nm (v13 + 1) fun v14 =>
pI 1 7 σ2 (some a0) v14 fun σ15 =>
b_X1_heatMinute_46 a0 p0 σ15
else
gI 1 8 σ2 (some a0) fun v16 =>
nm (v16 + p0) fun v17 =>
pI 1 8 σ2 (some a0) v17 fun σ18 =>
b_X1_heatMinute_46 a0 p0 σ18

noncomputable def f_X1_heatMinute (a0 : Nat) (p0 : Int32) (σ : Mem) : Option ((Unit) × Mem) := b_X1_heatMinute_0 a0 p0 σ
set_option maxRecDepth 100000 in
set_option maxHeartbeats 4000000 in
theorem t_X1_heatMinute_46 {C : Cxt} {G : Glb} (hC : CX C G RX1 cX1_heatMinute 2 none 1 0 0 20) (a0 : Nat) (x46_1 : Int32) (σ : Mem) : Wo C G 2 (QP C G rvU 0 0) (b_X1_heatMinute_46  a0 x46_1 σ) σ 0 0 46 [(0, va_rf (some a0)), (1, .int x46_1)] [] := by
  unfold b_X1_heatMinute_46
  refine r_aloadn hC 0 (r := (some a0)) rfl rfl dX1_heatMinute_46 ?_
  refine r_iconst hC (0) rfl dX1_heatMinute_47 ?_
  refine r_aloadn hC 0 (r := (some a0)) rfl rfl dX1_heatMinute_48 ?_
  refine r_gI hC (k := 3) (r := (some a0)) cls_1 (by decide) rfl q_70 (Or.inl rfl) dX1_heatMinute_49 (fun v4 => ?_)
  refine r_iloadn hC 1 rfl rfl dX1_heatMinute_52 ?_
  refine r_isub hC dX1_heatMinute_53 (fun v5 => ?_)
  refine r_aloadn hC 0 (r := (some a0)) rfl rfl dX1_heatMinute_54 ?_
  refine r_gI hC (k := 1) (r := (some a0)) cls_1 (by decide) rfl q_66 (Or.inl rfl) dX1_heatMinute_55 (fun v6 => ?_)
  refine r_bipush hC (20) (by decide) dX1_heatMinute_58 ?_
  refine r_idiv hC dX1_heatMinute_60 (fun v7 => ?_)
  refine r_isub hC dX1_heatMinute_61 (fun v8 => ?_)
  refine r_max hC q_514 q_426 q_24 q_427 (Nat.le_of_ble_eq_true rfl) (by simp [cat_rf, cat_i, cat_j, cat_d, cat_a]) ⟨Nat.zero_le _, Nat.zero_le _⟩ dX1_heatMinute_62 (fun v9 => ?_)
  refine r_pI hC (k := 3) (r := (some a0)) cls_1 (by decide) rfl q_70 (Or.inl rfl) (Or.inl rfl) dX1_heatMinute_65 (fun σ10 => ?_)
  exact e_U hC ⟨Nat.zero_le _, Nat.zero_le _⟩ dX1_heatMinute_68

set_option maxRecDepth 100000 in
set_option maxHeartbeats 4000000 in
theorem t_X1_heatMinute_0 {C : Cxt} {G : Glb} (hC : CX C G RX1 cX1_heatMinute 2 none 1 0 0 20) (a0 : Nat) (p0 : Int32) (σ : Mem) : Wo C G 2 (QP C G rvU 0 0) (b_X1_heatMinute_0  a0 p0 σ) σ 0 0 0 [(0, va_rf (some a0)), (1, .int p0)] [] := by
  unfold b_X1_heatMinute_0
  refine r_aloadn hC 0 (r := (some a0)) rfl rfl dX1_heatMinute_0 ?_
  refine call_V hC (av := []) (st := []) (r := (some a0)) (ci := 1) rfl rfl (fun h9 => ct_X1_isDried hC.hl G h9 σ) q_510 q_511 q_512 q_14 q_513 yd_X1_isDried rfl ⟨Nat.le_of_ble_eq_true rfl, Nat.le_of_ble_eq_true rfl⟩ ⟨Nat.zero_le _, Nat.zero_le _⟩ rfl (Nat.le_of_ble_eq_true rfl) dX1_heatMinute_1 (fun v1 σ2 => ?_)
  show Wo _ _ _ _ _ _ _ _ _ _ [.int v1]
  refine r_if_eq hC 20 dX1_heatMinute_4 (by decide) ?_ ?_
  · refine r_iloadn hC 1 rfl rfl dX1_heatMinute_20 ?_
    refine r_iconst hC (4) rfl dX1_heatMinute_21 ?_
    refine r_icmp_lt hC 46 dX1_heatMinute_22 (by decide) ?_ ?_
    · exact t_X1_heatMinute_46 hC a0 p0 σ2
    · refine r_aloadn hC 0 (r := (some a0)) rfl rfl dX1_heatMinute_25 ?_
      refine r_gI hC (k := 3) (r := (some a0)) cls_1 (by decide) rfl q_70 (Or.inl rfl) dX1_heatMinute_26 (fun v11 => ?_)
      refine r_aloadn hC 0 (r := (some a0)) rfl rfl dX1_heatMinute_29 ?_
      refine r_gI hC (k := 1) (r := (some a0)) cls_1 (by decide) rfl q_66 (Or.inl rfl) dX1_heatMinute_30 (fun v12 => ?_)
      refine r_icmp_le hC 46 dX1_heatMinute_33 (by decide) ?_ ?_
      · exact t_X1_heatMinute_46 hC a0 p0 σ2
      · refine r_aloadn hC 0 (r := (some a0)) rfl rfl dX1_heatMinute_36 ?_
        refine r_dup hC (cat_rf _) dX1_heatMinute_37 ?_
        refine r_gI hC (k := 7) (r := (some a0)) cls_1 (by decide) rfl q_78 (Or.inl rfl) dX1_heatMinute_38 (fun v13 => ?_)
        refine r_iconst hC (1) rfl dX1_heatMinute_41 ?_
        refine r_iadd hC dX1_heatMinute_42 (fun v14 => ?_)
        refine r_pI hC (k := 7) (r := (some a0)) cls_1 (by decide) rfl q_78 (Or.inl rfl) (Or.inl rfl) dX1_heatMinute_43 (fun σ15 => ?_)
        exact t_X1_heatMinute_46 hC a0 p0 σ15
  · refine r_aloadn hC 0 (r := (some a0)) rfl rfl dX1_heatMinute_7 ?_
    refine r_dup hC (cat_rf _) dX1_heatMinute_8 ?_
    refine r_gI hC (k := 8) (r := (some a0)) cls_1 (by decide) rfl q_80 (Or.inl rfl) dX1_heatMinute_9 (fun v16 => ?_)
    refine r_iloadn hC 1 rfl rfl dX1_heatMinute_12 ?_
    refine r_iadd hC dX1_heatMinute_13 (fun v17 => ?_)
    refine r_pI hC (k := 8) (r := (some a0)) cls_1 (by decide) rfl q_80 (Or.inl rfl) (Or.inl rfl) dX1_heatMinute_14 (fun σ18 => ?_)
    refine r_goto hC 46 dX1_heatMinute_17 (by decide) ?_
    exact t_X1_heatMinute_46 hC a0 p0 σ18

set_option maxRecDepth 100000 in
set_option maxHeartbeats 4000000 in
theorem ct_X1_heatMinute {l : Launch} (hl : l.stackTraces = false) (G : Glb) (a0 : Nat) (p0 : Int32) (σ : Mem) : Ct rvU l yX1_heatMinute (Cond.code yX1_heatMinute cX1_heatMinute 2 none :: uW) { frames := 1, cells := 0, slots := 0, locals := 20 } 0 0 G [.ref a0, .int p0] σ (f_X1_heatMinute a0 p0 σ) := by
  refine Ct.of hl (by decide +kernel) (Nat.le_of_ble_eq_true rfl) (fun C hC hin => ?_)
  have e : lv_args 0 [.ref a0, .int p0] = [(0, .ref a0), (1, .int p0)] := rfl
  rw [e]
  exact t_X1_heatMinute_0 hC a0 p0 σ

noncomputable def b_X1_shareOfGrade_51 (y51_0 : Int32) (σ : Mem) : Option ((Int32) × Mem) :=
some (y51_0, σ)

noncomputable def b_X1_shareOfGrade_0 (a0 : Nat) (p0 : Int32) (p1 : Int32) (σ : Mem) : Option ((Int32) × Mem) :=
gI 1 5 σ (some a0) fun v1 =>
nm (if v1 < 10 then v1 else 10) fun v2 =>
nm (p0 * v2) fun v3 =>
dv v3 40 fun v4 =>
nm (p0 * v2) fun v5 =>
dv v5 20 fun v6 =>
if p1 = 2 then
some (v4, σ)
else
if p1 = 1 then
b_X1_shareOfGrade_51 v6 σ
else
nm (p0 - v6) fun v7 =>
nm (v7 - v4) fun v8 =>
b_X1_shareOfGrade_51 v8 σ

noncomputable def f_X1_shareOfGrade (a0 : Nat) (p0 : Int32) (p1 : Int32) (σ : Mem) : Option ((Int32) × Mem) := b_X1_shareOfGrade_0 a0 p0 p1 σ
set_option maxRecDepth 100000 in
set_option maxHeartbeats 4000000 in
theorem t_X1_shareOfGrade_51 {C : Cxt} {G : Glb} (hC : CX C G RX1 cX1_shareOfGrade 6 (some .int) 1 0 0 13) (y51_0 : Int32) (σ : Mem) : Wo C G 6 (QP C G rvI 0 0) (b_X1_shareOfGrade_51  y51_0 σ) σ 0 0 51 [] [.int y51_0] := by
  unfold b_X1_shareOfGrade_51
  exact e_I hC ⟨Nat.zero_le _, Nat.zero_le _⟩ dX1_shareOfGrade_51

set_option maxRecDepth 100000 in
set_option maxHeartbeats 4000000 in
theorem t_X1_shareOfGrade_0 {C : Cxt} {G : Glb} (hC : CX C G RX1 cX1_shareOfGrade 6 (some .int) 1 0 0 13) (a0 : Nat) (p0 : Int32) (p1 : Int32) (σ : Mem) : Wo C G 6 (QP C G rvI 0 0) (b_X1_shareOfGrade_0  a0 p0 p1 σ) σ 0 0 0 [(0, va_rf (some a0)), (1, .int p0), (2, .int p1)] [] := by
  unfold b_X1_shareOfGrade_0
  refine r_bipush hC (10) (by decide) dX1_shareOfGrade_0 ?_
  refine r_aloadn hC 0 (r := (some a0)) rfl rfl dX1_shareOfGrade_2 ?_
  refine r_gI hC (k := 5) (r := (some a0)) cls_1 (by decide) rfl q_74 (Or.inl rfl) dX1_shareOfGrade_3 (fun v1 => ?_)
  refine r_min hC q_439 q_343 q_24 q_344 (Nat.le_of_ble_eq_true rfl) (Nat.le_of_ble_eq_true rfl) ⟨Nat.zero_le _, Nat.zero_le _⟩ dX1_shareOfGrade_6 (fun v2 => ?_)
  refine r_istoren hC [(3, .int v2), (0, va_rf (some a0)), (1, .int p0), (2, .int p1)] (i := 3) rfl (by decide) rfl dX1_shareOfGrade_9 ?_
  refine r_iloadn hC 2 rfl rfl dX1_shareOfGrade_10 ?_
  refine r_iloadn hC 0 rfl rfl dX1_shareOfGrade_11 ?_
  refine r_imul hC dX1_shareOfGrade_12 (fun v3 => ?_)
  refine r_bipush hC (40) (by decide) dX1_shareOfGrade_13 ?_
  refine r_idiv hC dX1_shareOfGrade_15 (fun v4 => ?_)
  refine r_istore hC [(4, .int v4), (3, .int v2), (0, va_rf (some a0)), (1, .int p0), (2, .int p1)] (i := 4) (by decide) rfl dX1_shareOfGrade_16 ?_
  refine r_iloadn hC 3 rfl rfl dX1_shareOfGrade_18 ?_
  refine r_iloadn hC 1 rfl rfl dX1_shareOfGrade_19 ?_
  refine r_imul hC dX1_shareOfGrade_20 (fun v5 => ?_)
  refine r_bipush hC (20) (by decide) dX1_shareOfGrade_21 ?_
  refine r_idiv hC dX1_shareOfGrade_23 (fun v6 => ?_)
  refine r_istore hC [(5, .int v6), (4, .int v4), (3, .int v2), (0, va_rf (some a0)), (1, .int p0), (2, .int p1)] (i := 5) (by decide) rfl dX1_shareOfGrade_24 ?_
  refine r_iloadn hC 5 rfl rfl dX1_shareOfGrade_26 ?_
  refine r_iconst hC (2) rfl dX1_shareOfGrade_27 ?_
  refine r_icmp_ne hC 34 dX1_shareOfGrade_28 (by decide) ?_ ?_
  · refine r_iloadn hC 5 rfl rfl dX1_shareOfGrade_34 ?_
    refine r_iconst hC (1) rfl dX1_shareOfGrade_35 ?_
    refine r_icmp_ne hC 44 dX1_shareOfGrade_36 (by decide) ?_ ?_
    · refine r_iloadn hC 4 rfl rfl dX1_shareOfGrade_44 ?_
      refine r_iload hC 0 rfl dX1_shareOfGrade_45 ?_
      refine r_isub hC dX1_shareOfGrade_47 (fun v7 => ?_)
      refine r_iload hC 1 rfl dX1_shareOfGrade_48 ?_
      refine r_isub hC dX1_shareOfGrade_50 (fun v8 => ?_)
      refine Wo.sub [] rfl ?_
      exact t_X1_shareOfGrade_51 hC v8 σ
    · refine r_iload hC 0 rfl dX1_shareOfGrade_39 ?_
      refine r_goto hC 51 dX1_shareOfGrade_41 (by decide) ?_
      refine Wo.sub [] rfl ?_
      exact t_X1_shareOfGrade_51 hC v6 σ
  · refine r_iload hC 1 rfl dX1_shareOfGrade_31 ?_
    exact e_I hC ⟨Nat.zero_le _, Nat.zero_le _⟩ dX1_shareOfGrade_33

set_option maxRecDepth 100000 in
set_option maxHeartbeats 4000000 in
theorem ct_X1_shareOfGrade {l : Launch} (hl : l.stackTraces = false) (G : Glb) (a0 : Nat) (p0 : Int32) (p1 : Int32) (σ : Mem) : Ct rvI l yX1_shareOfGrade (Cond.code yX1_shareOfGrade cX1_shareOfGrade 6 (some .int) :: uW) { frames := 1, cells := 0, slots := 0, locals := 13 } 0 0 G [.ref a0, .int p0, .int p1] σ (f_X1_shareOfGrade a0 p0 p1 σ) := by
  refine Ct.of hl (by decide +kernel) (Nat.le_of_ble_eq_true rfl) (fun C hC hin => ?_)
  have e : lv_args 0 [.ref a0, .int p0, .int p1] = [(0, .ref a0), (1, .int p0), (2, .int p1)] := rfl
  rw [e]
  exact t_X1_shareOfGrade_0 hC a0 p0 p1 σ

noncomputable def b_X1_dryOfGrade_4 (k4 : Nat → Int32 → Int32 → Int32 → Mem → Option ((Int32) × Mem)) (a0 : Nat) (x4_1 : Int32) (x4_2 : Int32) (x4_3 : Int32) (σ : Mem) : Option ((Int32) × Mem) :=
gR 1 13 σ (some a0) fun r1 =>
aL σ r1 fun v2 =>
if v2 ≤ x4_3 then
some (x4_2, σ)
else
gR 1 13 σ (some a0) fun r3 =>
aI σ r3 x4_3 fun v4 =>
ob 1 σ (some a0) fun h7 => cl1 (f_X1_shareOfGrade h7 v4 x4_1 σ) fun v5 σ6 =>
nm (x4_2 + v5) fun v8 =>
nm (x4_3 + 1) fun v9 =>
k4 a0 x4_1 v8 v9 σ6

noncomputable def l_X1_dryOfGrade_4 (n : Nat) : Nat → Int32 → Int32 → Int32 → Mem → Option ((Int32) × Mem) := itr (fun _ _ _ _ _ => none) (fun k => b_X1_dryOfGrade_4  k) n

noncomputable def b_X1_dryOfGrade_0 (a0 : Nat) (p0 : Int32) (σ : Mem) : Option ((Int32) × Mem) :=
l_X1_dryOfGrade_4 40 a0 p0 0 0 σ

noncomputable def f_X1_dryOfGrade (a0 : Nat) (p0 : Int32) (σ : Mem) : Option ((Int32) × Mem) := b_X1_dryOfGrade_0 a0 p0 σ
set_option maxRecDepth 100000 in
set_option maxHeartbeats 4000000 in
theorem t_X1_dryOfGrade_4 {C : Cxt} {G : Glb} (hC : CX C G RX1 cX1_dryOfGrade 4 (some .int) 2 0 0 38) (k4 : Nat → Int32 → Int32 → Int32 → Mem → Option ((Int32) × Mem)) (hk4 : ∀ (a0 : Nat) (x4_1 : Int32) (x4_2 : Int32) (x4_3 : Int32) (σ : Mem), Wo C G 4 (QP C G rvI 0 0) (k4 a0 x4_1 x4_2 x4_3 σ) σ 0 0 4 [(0, va_rf (some a0)), (1, .int x4_1), (2, .int x4_2), (3, .int x4_3)] []) (a0 : Nat) (x4_1 : Int32) (x4_2 : Int32) (x4_3 : Int32) (σ : Mem) : Wo C G 4 (QP C G rvI 0 0) (b_X1_dryOfGrade_4 k4 a0 x4_1 x4_2 x4_3 σ) σ 0 0 4 [(0, va_rf (some a0)), (1, .int x4_1), (2, .int x4_2), (3, .int x4_3)] [] := by
  unfold b_X1_dryOfGrade_4
  refine r_iloadn hC 3 rfl rfl dX1_dryOfGrade_4 ?_
  refine r_aloadn hC 0 (r := (some a0)) rfl rfl dX1_dryOfGrade_5 ?_
  refine r_gR hC (k := 13) (r := (some a0)) cls_1 (by decide) rfl q_90 (Or.inl rfl) dX1_dryOfGrade_6 (fun r1 => ?_)
  refine r_aL hC (r := r1) dX1_dryOfGrade_9 (fun v2 => ?_)
  refine r_icmp_ge hC 33 dX1_dryOfGrade_10 (by decide) ?_ ?_
  · refine r_iloadn hC 2 rfl rfl dX1_dryOfGrade_33 ?_
    exact e_I hC ⟨Nat.zero_le _, Nat.zero_le _⟩ dX1_dryOfGrade_34
  · refine r_iloadn hC 2 rfl rfl dX1_dryOfGrade_13 ?_
    refine r_aloadn hC 0 (r := (some a0)) rfl rfl dX1_dryOfGrade_14 ?_
    refine r_aloadn hC 0 (r := (some a0)) rfl rfl dX1_dryOfGrade_15 ?_
    refine r_gR hC (k := 13) (r := (some a0)) cls_1 (by decide) rfl q_90 (Or.inl rfl) dX1_dryOfGrade_16 (fun r3 => ?_)
    refine r_iloadn hC 3 rfl rfl dX1_dryOfGrade_19 ?_
    refine r_aI hC (r := r3) dX1_dryOfGrade_20 (fun v4 => ?_)
    refine r_iloadn hC 1 rfl rfl dX1_dryOfGrade_21 ?_
    refine call_V hC (av := [.int v4, .int x4_1]) (st := [.int x4_2]) (r := (some a0)) (ci := 1) rfl rfl (fun h9 => ct_X1_shareOfGrade hC.hl G h9 v4 x4_1 σ) q_640 q_641 q_642 q_14 q_643 yd_X1_shareOfGrade rfl ⟨Nat.le_of_ble_eq_true rfl, Nat.le_of_ble_eq_true rfl⟩ ⟨Nat.zero_le _, Nat.zero_le _⟩ rfl (by simp [cat_rf, cat_i, cat_j, cat_d, cat_a]) dX1_dryOfGrade_22 (fun v5 σ6 => ?_)
    show Wo _ _ _ _ _ _ _ _ _ _ [.int v5, .int x4_2]
    refine r_iadd hC dX1_dryOfGrade_25 (fun v8 => ?_)
    refine r_istoren hC [(2, .int v8), (0, va_rf (some a0)), (1, .int x4_1), (3, .int x4_3)] (i := 2) rfl (by decide) rfl dX1_dryOfGrade_26 ?_
    refine r_iinc hC 3 (fun w => [(3, .int w), (2, .int v8), (0, va_rf (some a0)), (1, .int x4_1)]) 1 rfl (by decide) rfl (fun w => rfl) dX1_dryOfGrade_27 (fun v9 => ?_)
    refine r_goto hC 4 dX1_dryOfGrade_30 (by decide) ?_
    refine Wo.sub [2, 3, 1, 0] rfl ?_
    exact hk4 a0 x4_1 v8 v9 σ6

set_option maxRecDepth 100000 in
set_option maxHeartbeats 4000000 in
theorem u_X1_dryOfGrade_4 {C : Cxt} {G : Glb} (hC : CX C G RX1 cX1_dryOfGrade 4 (some .int) 2 0 0 38) : ∀ (n : Nat) (a0 : Nat) (x4_1 : Int32) (x4_2 : Int32) (x4_3 : Int32) (σ : Mem), Wo C G 4 (QP C G rvI 0 0) (l_X1_dryOfGrade_4  n a0 x4_1 x4_2 x4_3 σ) σ 0 0 4 [(0, va_rf (some a0)), (1, .int x4_1), (2, .int x4_2), (3, .int x4_3)] [] := by
  intro n
  induction n with
  | zero => intro a0 x4_1 x4_2 x4_3 σ; exact Wo.none
  | succ n ih => intro a0 x4_1 x4_2 x4_3 σ; exact t_X1_dryOfGrade_4 hC (l_X1_dryOfGrade_4  n) ih a0 x4_1 x4_2 x4_3 σ

set_option maxRecDepth 100000 in
set_option maxHeartbeats 4000000 in
theorem t_X1_dryOfGrade_0 {C : Cxt} {G : Glb} (hC : CX C G RX1 cX1_dryOfGrade 4 (some .int) 2 0 0 38) (a0 : Nat) (p0 : Int32) (σ : Mem) : Wo C G 4 (QP C G rvI 0 0) (b_X1_dryOfGrade_0  a0 p0 σ) σ 0 0 0 [(0, va_rf (some a0)), (1, .int p0)] [] := by
  unfold b_X1_dryOfGrade_0
  refine r_iconst hC (0) rfl dX1_dryOfGrade_0 ?_
  refine r_istoren hC [(2, .int 0), (0, va_rf (some a0)), (1, .int p0)] (i := 2) rfl (by decide) rfl dX1_dryOfGrade_1 ?_
  refine r_iconst hC (0) rfl dX1_dryOfGrade_2 ?_
  refine r_istoren hC [(3, .int 0), (2, .int 0), (0, va_rf (some a0)), (1, .int p0)] (i := 3) rfl (by decide) rfl dX1_dryOfGrade_3 ?_
  refine Wo.sub [2, 3, 1, 0] rfl ?_
  exact u_X1_dryOfGrade_4 hC 40 a0 p0 0 0 σ

set_option maxRecDepth 100000 in
set_option maxHeartbeats 4000000 in
theorem ct_X1_dryOfGrade {l : Launch} (hl : l.stackTraces = false) (G : Glb) (a0 : Nat) (p0 : Int32) (σ : Mem) : Ct rvI l yX1_dryOfGrade (Cond.code yX1_dryOfGrade cX1_dryOfGrade 4 (some .int) :: uW) { frames := 2, cells := 0, slots := 0, locals := 38 } 0 0 G [.ref a0, .int p0] σ (f_X1_dryOfGrade a0 p0 σ) := by
  refine Ct.of hl (by decide +kernel) (Nat.le_of_ble_eq_true rfl) (fun C hC hin => ?_)
  have e : lv_args 0 [.ref a0, .int p0] = [(0, .ref a0), (1, .int p0)] := rfl
  rw [e]
  exact t_X1_dryOfGrade_0 hC a0 p0 σ

noncomputable def b_X1_becomeGrade_22 (k22 : Nat → (Option Nat) → Int32 → Int32 → Mem → Option ((Unit) × Mem)) (a0 : Nat) (x22_1 : (Option Nat)) (x22_2 : Int32) (x22_3 : Int32) (σ : Mem) : Option ((Unit) × Mem) :=
gR 1 13 σ (some a0) fun r7 =>
aL σ r7 fun v8 =>
if v8 ≤ x22_3 then
ob 1 σ x22_1 fun h11 => cl1 (f_X1_dryOfGrade h11 x22_2 σ) fun v9 σ10 =>
pI 1 1 σ10 (some a0) v9 fun σ12 =>
gI 1 1 σ12 (some a0) fun v13 =>
gI 1 2 σ12 x22_1 fun v14 =>
ob 1 σ12 x22_1 fun h17 => cl1 (f_X1_shareOfGrade h17 v14 x22_2 σ12) fun v15 σ16 =>
nm (if v15 < v13 then v15 else v13) fun v18 =>
pI 1 2 σ16 (some a0) v18 fun σ19 =>
some ((), σ19)
else
gR 1 13 σ (some a0) fun r20 =>
gR 1 13 σ x22_1 fun r21 =>
aI σ r21 x22_3 fun v22 =>
ob 1 σ x22_1 fun h25 => cl1 (f_X1_shareOfGrade h25 v22 x22_2 σ) fun v23 σ24 =>
wI σ24 r20 x22_3 v23 fun σ26 =>
nm (x22_3 + 1) fun v27 =>
k22 a0 x22_1 x22_2 v27 σ26

noncomputable def l_X1_becomeGrade_22 (n : Nat) : Nat → (Option Nat) → Int32 → Int32 → Mem → Option ((Unit) × Mem) := itr (fun _ _ _ _ _ => none) (fun k => b_X1_becomeGrade_22  k) n

noncomputable def b_X1_becomeGrade_0 (a0 : Nat) (p0 : (Option Nat)) (p1 : Int32) (σ : Mem) : Option ((Unit) × Mem) :=
ob 1 σ (some a0) fun h3 => cl1 (f_X1_copyLeaf h3 p0 σ) fun u1 σ2 =>
pI 1 0 σ2 (some a0) 2 fun σ4 =>
pI 1 9 σ4 (some a0) p1 fun σ5 =>
pI 1 3 σ5 (some a0) 0 fun σ6 =>
l_X1_becomeGrade_22 40 a0 p0 p1 0 σ6

noncomputable def f_X1_becomeGrade (a0 : Nat) (p0 : (Option Nat)) (p1 : Int32) (σ : Mem) : Option ((Unit) × Mem) := b_X1_becomeGrade_0 a0 p0 p1 σ
set_option maxRecDepth 100000 in
set_option maxHeartbeats 4000000 in
theorem t_X1_becomeGrade_22 {C : Cxt} {G : Glb} (hC : CX C G RX1 cX1_becomeGrade 4 none 3 0 0 61) (k22 : Nat → (Option Nat) → Int32 → Int32 → Mem → Option ((Unit) × Mem)) (hk22 : ∀ (a0 : Nat) (x22_1 : (Option Nat)) (x22_2 : Int32) (x22_3 : Int32) (σ : Mem), Wo C G 4 (QP C G rvU 0 0) (k22 a0 x22_1 x22_2 x22_3 σ) σ 0 0 22 [(0, va_rf (some a0)), (1, va_rf x22_1), (2, .int x22_2), (3, .int x22_3)] []) (a0 : Nat) (x22_1 : (Option Nat)) (x22_2 : Int32) (x22_3 : Int32) (σ : Mem) : Wo C G 4 (QP C G rvU 0 0) (b_X1_becomeGrade_22 k22 a0 x22_1 x22_2 x22_3 σ) σ 0 0 22 [(0, va_rf (some a0)), (1, va_rf x22_1), (2, .int x22_2), (3, .int x22_3)] [] := by
  unfold b_X1_becomeGrade_22
  refine r_iloadn hC 3 rfl rfl dX1_becomeGrade_22 ?_
  refine r_aloadn hC 0 (r := (some a0)) rfl rfl dX1_becomeGrade_23 ?_
  refine r_gR hC (k := 13) (r := (some a0)) cls_1 (by decide) rfl q_90 (Or.inl rfl) dX1_becomeGrade_24 (fun r7 => ?_)
  refine r_aL hC (r := r7) dX1_becomeGrade_27 (fun v8 => ?_)
  refine r_icmp_ge hC 54 dX1_becomeGrade_28 (by decide) ?_ ?_
  · refine r_aloadn hC 0 (r := (some a0)) rfl rfl dX1_becomeGrade_54 ?_
    refine r_aloadn hC 1 (r := x22_1) rfl rfl dX1_becomeGrade_55 ?_
    refine r_iloadn hC 2 rfl rfl dX1_becomeGrade_56 ?_
    refine call_V hC (av := [.int x22_2]) (st := [va_rf (some a0)]) (r := x22_1) (ci := 1) rfl rfl (fun h9 => ct_X1_dryOfGrade hC.hl G h9 x22_2 σ) q_649 q_637 q_638 q_14 q_639 yd_X1_dryOfGrade rfl ⟨Nat.le_of_ble_eq_true rfl, Nat.le_of_ble_eq_true rfl⟩ ⟨Nat.zero_le _, Nat.zero_le _⟩ rfl (by simp [cat_rf, cat_i, cat_j, cat_d, cat_a]) dX1_becomeGrade_57 (fun v9 σ10 => ?_)
    show Wo _ _ _ _ _ _ _ _ _ _ [.int v9, va_rf (some a0)]
    refine r_pI hC (k := 1) (r := (some a0)) cls_1 (by decide) rfl q_66 (Or.inl rfl) (Or.inl rfl) dX1_becomeGrade_60 (fun σ12 => ?_)
    refine r_aloadn hC 0 (r := (some a0)) rfl rfl dX1_becomeGrade_63 ?_
    refine r_aloadn hC 0 (r := (some a0)) rfl rfl dX1_becomeGrade_64 ?_
    refine r_gI hC (k := 1) (r := (some a0)) cls_1 (by decide) rfl q_66 (Or.inl rfl) dX1_becomeGrade_65 (fun v13 => ?_)
    refine r_aloadn hC 1 (r := x22_1) rfl rfl dX1_becomeGrade_68 ?_
    refine r_aloadn hC 1 (r := x22_1) rfl rfl dX1_becomeGrade_69 ?_
    refine r_gI hC (k := 2) (r := x22_1) cls_1 (by decide) rfl q_68 (Or.inl rfl) dX1_becomeGrade_70 (fun v14 => ?_)
    refine r_iloadn hC 2 rfl rfl dX1_becomeGrade_73 ?_
    refine call_V hC (av := [.int v14, .int x22_2]) (st := [.int v13, va_rf (some a0)]) (r := x22_1) (ci := 1) rfl rfl (fun h9 => ct_X1_shareOfGrade hC.hl G h9 v14 x22_2 σ12) q_640 q_641 q_642 q_14 q_643 yd_X1_shareOfGrade rfl ⟨Nat.le_of_ble_eq_true rfl, Nat.le_of_ble_eq_true rfl⟩ ⟨Nat.zero_le _, Nat.zero_le _⟩ rfl (by simp [cat_rf, cat_i, cat_j, cat_d, cat_a]) dX1_becomeGrade_74 (fun v15 σ16 => ?_)
    show Wo _ _ _ _ _ _ _ _ _ _ [.int v15, .int v13, va_rf (some a0)]
    refine r_min hC q_439 q_343 q_24 q_344 (Nat.le_of_ble_eq_true rfl) (by simp [cat_rf, cat_i, cat_j, cat_d, cat_a]) ⟨Nat.zero_le _, Nat.zero_le _⟩ dX1_becomeGrade_77 (fun v18 => ?_)
    refine r_pI hC (k := 2) (r := (some a0)) cls_1 (by decide) rfl q_68 (Or.inl rfl) (Or.inl rfl) dX1_becomeGrade_80 (fun σ19 => ?_)
    exact e_U hC ⟨Nat.zero_le _, Nat.zero_le _⟩ dX1_becomeGrade_83
  · refine r_aloadn hC 0 (r := (some a0)) rfl rfl dX1_becomeGrade_31 ?_
    refine r_gR hC (k := 13) (r := (some a0)) cls_1 (by decide) rfl q_90 (Or.inl rfl) dX1_becomeGrade_32 (fun r20 => ?_)
    refine r_iloadn hC 3 rfl rfl dX1_becomeGrade_35 ?_
    refine r_aloadn hC 1 (r := x22_1) rfl rfl dX1_becomeGrade_36 ?_
    refine r_aloadn hC 1 (r := x22_1) rfl rfl dX1_becomeGrade_37 ?_
    refine r_gR hC (k := 13) (r := x22_1) cls_1 (by decide) rfl q_90 (Or.inl rfl) dX1_becomeGrade_38 (fun r21 => ?_)
    refine r_iloadn hC 3 rfl rfl dX1_becomeGrade_41 ?_
    refine r_aI hC (r := r21) dX1_becomeGrade_42 (fun v22 => ?_)
    refine r_iloadn hC 2 rfl rfl dX1_becomeGrade_43 ?_
    refine call_V hC (av := [.int v22, .int x22_2]) (st := [.int x22_3, va_rf r20]) (r := x22_1) (ci := 1) rfl rfl (fun h9 => ct_X1_shareOfGrade hC.hl G h9 v22 x22_2 σ) q_640 q_641 q_642 q_14 q_643 yd_X1_shareOfGrade rfl ⟨Nat.le_of_ble_eq_true rfl, Nat.le_of_ble_eq_true rfl⟩ ⟨Nat.zero_le _, Nat.zero_le _⟩ rfl (by simp [cat_rf, cat_i, cat_j, cat_d, cat_a]) dX1_becomeGrade_44 (fun v23 σ24 => ?_)
    show Wo _ _ _ _ _ _ _ _ _ _ [.int v23, .int x22_3, va_rf r20]
    refine r_wI hC (r := r20) dX1_becomeGrade_47 (fun σ26 => ?_)
    refine r_iinc hC 3 (fun w => [(3, .int w), (0, va_rf (some a0)), (1, va_rf x22_1), (2, .int x22_2)]) 1 rfl (by decide) rfl (fun w => rfl) dX1_becomeGrade_48 (fun v27 => ?_)
    refine r_goto hC 22 dX1_becomeGrade_51 (by decide) ?_
    refine Wo.sub [1, 2, 3, 0] rfl ?_
    exact hk22 a0 x22_1 x22_2 v27 σ26

set_option maxRecDepth 100000 in
set_option maxHeartbeats 4000000 in
theorem u_X1_becomeGrade_22 {C : Cxt} {G : Glb} (hC : CX C G RX1 cX1_becomeGrade 4 none 3 0 0 61) : ∀ (n : Nat) (a0 : Nat) (x22_1 : (Option Nat)) (x22_2 : Int32) (x22_3 : Int32) (σ : Mem), Wo C G 4 (QP C G rvU 0 0) (l_X1_becomeGrade_22  n a0 x22_1 x22_2 x22_3 σ) σ 0 0 22 [(0, va_rf (some a0)), (1, va_rf x22_1), (2, .int x22_2), (3, .int x22_3)] [] := by
  intro n
  induction n with
  | zero => intro a0 x22_1 x22_2 x22_3 σ; exact Wo.none
  | succ n ih => intro a0 x22_1 x22_2 x22_3 σ; exact t_X1_becomeGrade_22 hC (l_X1_becomeGrade_22  n) ih a0 x22_1 x22_2 x22_3 σ

set_option maxRecDepth 100000 in
set_option maxHeartbeats 4000000 in
theorem t_X1_becomeGrade_0 {C : Cxt} {G : Glb} (hC : CX C G RX1 cX1_becomeGrade 4 none 3 0 0 61) (a0 : Nat) (p0 : (Option Nat)) (p1 : Int32) (σ : Mem) : Wo C G 4 (QP C G rvU 0 0) (b_X1_becomeGrade_0  a0 p0 p1 σ) σ 0 0 0 [(0, va_rf (some a0)), (1, va_rf p0), (2, .int p1)] [] := by
  unfold b_X1_becomeGrade_0
  refine r_aloadn hC 0 (r := (some a0)) rfl rfl dX1_becomeGrade_0 ?_
  refine r_aloadn hC 1 (r := p0) rfl rfl dX1_becomeGrade_1 ?_
  refine call_V hC (av := [va_rf p0]) (st := []) (r := (some a0)) (ci := 1) rfl rfl (fun h9 => ct_X1_copyLeaf hC.hl G h9 p0 σ) q_648 q_503 q_504 q_14 q_505 yd_X1_copyLeaf rfl ⟨Nat.le_of_ble_eq_true rfl, Nat.le_of_ble_eq_true rfl⟩ ⟨Nat.zero_le _, Nat.zero_le _⟩ rfl (Nat.le_of_ble_eq_true rfl) dX1_becomeGrade_2 (fun u1 σ2 => ?_)
  show Wo _ _ _ _ _ _ _ _ _ _ []
  refine r_aloadn hC 0 (r := (some a0)) rfl rfl dX1_becomeGrade_5 ?_
  refine r_iconst hC (2) rfl dX1_becomeGrade_6 ?_
  refine r_pI hC (k := 0) (r := (some a0)) cls_1 (by decide) rfl q_64 (Or.inl rfl) (Or.inl rfl) dX1_becomeGrade_7 (fun σ4 => ?_)
  refine r_aloadn hC 0 (r := (some a0)) rfl rfl dX1_becomeGrade_10 ?_
  refine r_iloadn hC 2 rfl rfl dX1_becomeGrade_11 ?_
  refine r_pI hC (k := 9) (r := (some a0)) cls_1 (by decide) rfl q_82 (Or.inl rfl) (Or.inl rfl) dX1_becomeGrade_12 (fun σ5 => ?_)
  refine r_aloadn hC 0 (r := (some a0)) rfl rfl dX1_becomeGrade_15 ?_
  refine r_iconst hC (0) rfl dX1_becomeGrade_16 ?_
  refine r_pI hC (k := 3) (r := (some a0)) cls_1 (by decide) rfl q_70 (Or.inl rfl) (Or.inl rfl) dX1_becomeGrade_17 (fun σ6 => ?_)
  refine r_iconst hC (0) rfl dX1_becomeGrade_20 ?_
  refine r_istoren hC [(3, .int 0), (0, va_rf (some a0)), (1, va_rf p0), (2, .int p1)] (i := 3) rfl (by decide) rfl dX1_becomeGrade_21 ?_
  refine Wo.sub [1, 2, 3, 0] rfl ?_
  exact u_X1_becomeGrade_22 hC 40 a0 p0 p1 0 σ6

set_option maxRecDepth 100000 in
set_option maxHeartbeats 4000000 in
theorem ct_X1_becomeGrade {l : Launch} (hl : l.stackTraces = false) (G : Glb) (a0 : Nat) (p0 : (Option Nat)) (p1 : Int32) (σ : Mem) : Ct rvU l yX1_becomeGrade (Cond.code yX1_becomeGrade cX1_becomeGrade 4 none :: uW) { frames := 3, cells := 0, slots := 0, locals := 61 } 0 0 G [.ref a0, va_rf p0, .int p1] σ (f_X1_becomeGrade a0 p0 p1 σ) := by
  refine Ct.of hl (by decide +kernel) (by simp [lg_sl, cat_rf, cat_i, cat_j, cat_d, cat_a]) (fun C hC hin => ?_)
  have e : lv_args 0 [.ref a0, va_rf p0, .int p1] = [(0, .ref a0), (1, va_rf p0), (2, .int p1)] := by simp [lv_args, cat_rf, cat_i, cat_j, cat_d, cat_a]
  rw [e]
  exact t_X1_becomeGrade_0 hC a0 p0 p1 σ

noncomputable def b_X1_takeUnits_109 (σ : Mem) : Option ((Unit) × Mem) :=
some ((), σ)

noncomputable def b_X1_takeUnits_5 (k5 : Nat → (Option Nat) → Int32 → Int32 → Int32 → Mem → Option ((Unit) × Mem)) (a0 : Nat) (x5_1 : (Option Nat)) (x5_2 : Int32) (x5_3 : Int32) (x5_4 : Int32) (σ : Mem) : Option ((Unit) × Mem) :=
gR 1 13 σ (some a0) fun r1 =>
aL σ r1 fun v2 =>
if v2 ≤ x5_4 then
gI 1 1 σ (some a0) fun v3 =>
nm (v3 + x5_2) fun v4 =>
pI 1 1 σ (some a0) v4 fun σ5 =>
gI 1 1 σ5 x5_1 fun v6 =>
nm (v6 - x5_2) fun v7 =>
pI 1 1 σ5 x5_1 v7 fun σ8 =>
gI 1 2 σ8 x5_1 fun v9 =>
gI 1 1 σ8 x5_1 fun v10 =>
nm (if v10 < v9 then v10 else v9) fun v11 =>
pI 1 2 σ8 x5_1 v11 fun σ12 =>
gI 1 1 σ12 x5_1 fun v13 =>
if 0 < v13 then
b_X1_takeUnits_109 σ12
else
ob 1 σ12 x5_1 fun h16 => cl1 (f_X1_vanish h16 σ12) fun u14 σ15 =>
b_X1_takeUnits_109 σ15
else
gR 1 13 σ x5_1 fun r17 =>
aI σ r17 x5_4 fun v18 =>
nm (if v18 < x5_3 then v18 else x5_3) fun v19 =>
gR 1 13 σ (some a0) fun r20 =>
aI σ r20 x5_4 fun v21 =>
nm (v21 + v19) fun v22 =>
wI σ r20 x5_4 v22 fun σ23 =>
gR 1 13 σ23 x5_1 fun r24 =>
aI σ23 r24 x5_4 fun v25 =>
nm (v25 - v19) fun v26 =>
wI σ23 r24 x5_4 v26 fun σ27 =>
nm (x5_3 - v19) fun v28 =>
nm (x5_4 + 1) fun v29 =>
k5 a0 x5_1 x5_2 v28 v29 σ27

noncomputable def l_X1_takeUnits_5 (n : Nat) : Nat → (Option Nat) → Int32 → Int32 → Int32 → Mem → Option ((Unit) × Mem) := itr (fun _ _ _ _ _ _ => none) (fun k => b_X1_takeUnits_5  k) n

noncomputable def b_X1_takeUnits_0 (a0 : Nat) (p0 : (Option Nat)) (p1 : Int32) (σ : Mem) : Option ((Unit) × Mem) :=
l_X1_takeUnits_5 40 a0 p0 p1 p1 0 σ

noncomputable def f_X1_takeUnits (a0 : Nat) (p0 : (Option Nat)) (p1 : Int32) (σ : Mem) : Option ((Unit) × Mem) := b_X1_takeUnits_0 a0 p0 p1 σ
set_option maxRecDepth 100000 in
set_option maxHeartbeats 4000000 in
theorem t_X1_takeUnits_109 {C : Cxt} {G : Glb} (hC : CX C G RX1 cX1_takeUnits 6 none 1 0 0 21) (σ : Mem) : Wo C G 6 (QP C G rvU 0 0) (b_X1_takeUnits_109   σ) σ 0 0 109 [] [] := by
  unfold b_X1_takeUnits_109
  exact e_U hC ⟨Nat.zero_le _, Nat.zero_le _⟩ dX1_takeUnits_109

set_option maxRecDepth 100000 in
set_option maxHeartbeats 4000000 in
theorem t_X1_takeUnits_5 {C : Cxt} {G : Glb} (hC : CX C G RX1 cX1_takeUnits 6 none 1 0 0 21) (k5 : Nat → (Option Nat) → Int32 → Int32 → Int32 → Mem → Option ((Unit) × Mem)) (hk5 : ∀ (a0 : Nat) (x5_1 : (Option Nat)) (x5_2 : Int32) (x5_3 : Int32) (x5_4 : Int32) (σ : Mem), Wo C G 6 (QP C G rvU 0 0) (k5 a0 x5_1 x5_2 x5_3 x5_4 σ) σ 0 0 5 [(0, va_rf (some a0)), (1, va_rf x5_1), (2, .int x5_2), (3, .int x5_3), (4, .int x5_4)] []) (a0 : Nat) (x5_1 : (Option Nat)) (x5_2 : Int32) (x5_3 : Int32) (x5_4 : Int32) (σ : Mem) : Wo C G 6 (QP C G rvU 0 0) (b_X1_takeUnits_5 k5 a0 x5_1 x5_2 x5_3 x5_4 σ) σ 0 0 5 [(0, va_rf (some a0)), (1, va_rf x5_1), (2, .int x5_2), (3, .int x5_3), (4, .int x5_4)] [] := by
  unfold b_X1_takeUnits_5
  refine r_iload hC 4 rfl dX1_takeUnits_5 ?_
  refine r_aloadn hC 0 (r := (some a0)) rfl rfl dX1_takeUnits_7 ?_
  refine r_gR hC (k := 13) (r := (some a0)) cls_1 (by decide) rfl q_90 (Or.inl rfl) dX1_takeUnits_8 (fun r1 => ?_)
  refine r_aL hC (r := r1) dX1_takeUnits_11 (fun v2 => ?_)
  refine r_icmp_ge hC 63 dX1_takeUnits_12 (by decide) ?_ ?_
  · refine r_aloadn hC 0 (r := (some a0)) rfl rfl dX1_takeUnits_63 ?_
    refine r_dup hC (cat_rf _) dX1_takeUnits_64 ?_
    refine r_gI hC (k := 1) (r := (some a0)) cls_1 (by decide) rfl q_66 (Or.inl rfl) dX1_takeUnits_65 (fun v3 => ?_)
    refine r_iloadn hC 2 rfl rfl dX1_takeUnits_68 ?_
    refine r_iadd hC dX1_takeUnits_69 (fun v4 => ?_)
    refine r_pI hC (k := 1) (r := (some a0)) cls_1 (by decide) rfl q_66 (Or.inl rfl) (Or.inl rfl) dX1_takeUnits_70 (fun σ5 => ?_)
    refine r_aloadn hC 1 (r := x5_1) rfl rfl dX1_takeUnits_73 ?_
    refine r_dup hC (cat_rf _) dX1_takeUnits_74 ?_
    refine r_gI hC (k := 1) (r := x5_1) cls_1 (by decide) rfl q_66 (Or.inl rfl) dX1_takeUnits_75 (fun v6 => ?_)
    refine r_iloadn hC 2 rfl rfl dX1_takeUnits_78 ?_
    refine r_isub hC dX1_takeUnits_79 (fun v7 => ?_)
    refine r_pI hC (k := 1) (r := x5_1) cls_1 (by decide) rfl q_66 (Or.inl rfl) (Or.inl rfl) dX1_takeUnits_80 (fun σ8 => ?_)
    refine r_aloadn hC 1 (r := x5_1) rfl rfl dX1_takeUnits_83 ?_
    refine r_aloadn hC 1 (r := x5_1) rfl rfl dX1_takeUnits_84 ?_
    refine r_gI hC (k := 2) (r := x5_1) cls_1 (by decide) rfl q_68 (Or.inl rfl) dX1_takeUnits_85 (fun v9 => ?_)
    refine r_aloadn hC 1 (r := x5_1) rfl rfl dX1_takeUnits_88 ?_
    refine r_gI hC (k := 1) (r := x5_1) cls_1 (by decide) rfl q_66 (Or.inl rfl) dX1_takeUnits_89 (fun v10 => ?_)
    refine r_min hC q_439 q_343 q_24 q_344 (Nat.le_of_ble_eq_true rfl) (by simp [cat_rf, cat_i, cat_j, cat_d, cat_a]) ⟨Nat.zero_le _, Nat.zero_le _⟩ dX1_takeUnits_92 (fun v11 => ?_)
    refine r_pI hC (k := 2) (r := x5_1) cls_1 (by decide) rfl q_68 (Or.inl rfl) (Or.inl rfl) dX1_takeUnits_95 (fun σ12 => ?_)
    refine r_aloadn hC 1 (r := x5_1) rfl rfl dX1_takeUnits_98 ?_
    refine r_gI hC (k := 1) (r := x5_1) cls_1 (by decide) rfl q_66 (Or.inl rfl) dX1_takeUnits_99 (fun v13 => ?_)
    refine r_if_gt hC 109 dX1_takeUnits_102 (by decide) ?_ ?_
    · refine Wo.sub [] rfl ?_
      exact t_X1_takeUnits_109 hC  σ12
    · refine r_aloadn hC 1 (r := x5_1) rfl rfl dX1_takeUnits_105 ?_
      refine call_V hC (av := []) (st := []) (r := x5_1) (ci := 1) rfl rfl (fun h9 => ct_X1_vanish hC.hl G h9 σ12) q_663 q_582 q_583 q_14 q_584 yd_X1_vanish rfl ⟨Nat.le_of_ble_eq_true rfl, Nat.le_of_ble_eq_true rfl⟩ ⟨Nat.zero_le _, Nat.zero_le _⟩ rfl (Nat.le_of_ble_eq_true rfl) dX1_takeUnits_106 (fun u14 σ15 => ?_)
      show Wo _ _ _ _ _ _ _ _ _ _ []
      refine Wo.sub [] rfl ?_
      exact t_X1_takeUnits_109 hC  σ15
  · refine r_iloadn hC 3 rfl rfl dX1_takeUnits_15 ?_
    refine r_aloadn hC 1 (r := x5_1) rfl rfl dX1_takeUnits_16 ?_
    refine r_gR hC (k := 13) (r := x5_1) cls_1 (by decide) rfl q_90 (Or.inl rfl) dX1_takeUnits_17 (fun r17 => ?_)
    refine r_iload hC 4 rfl dX1_takeUnits_20 ?_
    refine r_aI hC (r := r17) dX1_takeUnits_22 (fun v18 => ?_)
    refine r_min hC q_439 q_343 q_24 q_344 (Nat.le_of_ble_eq_true rfl) (Nat.le_of_ble_eq_true rfl) ⟨Nat.zero_le _, Nat.zero_le _⟩ dX1_takeUnits_23 (fun v19 => ?_)
    refine r_istore hC [(5, .int v19), (0, va_rf (some a0)), (1, va_rf x5_1), (2, .int x5_2), (3, .int x5_3), (4, .int x5_4)] (i := 5) (by decide) rfl dX1_takeUnits_26 ?_
    refine r_aloadn hC 1 (r := (some a0)) rfl rfl dX1_takeUnits_28 ?_
    refine r_gR hC (k := 13) (r := (some a0)) cls_1 (by decide) rfl q_90 (Or.inl rfl) dX1_takeUnits_29 (fun r20 => ?_)
    refine r_iload hC 5 rfl dX1_takeUnits_32 ?_
    refine r_dup2 hC rfl (cat_rf _) dX1_takeUnits_34 ?_
    refine r_aI hC (r := r20) dX1_takeUnits_35 (fun v21 => ?_)
    refine r_iload hC 0 rfl dX1_takeUnits_36 ?_
    refine r_iadd hC dX1_takeUnits_38 (fun v22 => ?_)
    refine r_wI hC (r := r20) dX1_takeUnits_39 (fun σ23 => ?_)
    refine r_aloadn hC 2 (r := x5_1) rfl rfl dX1_takeUnits_40 ?_
    refine r_gR hC (k := 13) (r := x5_1) cls_1 (by decide) rfl q_90 (Or.inl rfl) dX1_takeUnits_41 (fun r24 => ?_)
    refine r_iload hC 5 rfl dX1_takeUnits_44 ?_
    refine r_dup2 hC rfl (cat_rf _) dX1_takeUnits_46 ?_
    refine r_aI hC (r := r24) dX1_takeUnits_47 (fun v25 => ?_)
    refine r_iload hC 0 rfl dX1_takeUnits_48 ?_
    refine r_isub hC dX1_takeUnits_50 (fun v26 => ?_)
    refine r_wI hC (r := r24) dX1_takeUnits_51 (fun σ27 => ?_)
    refine r_iloadn hC 4 rfl rfl dX1_takeUnits_52 ?_
    refine r_iload hC 0 rfl dX1_takeUnits_53 ?_
    refine r_isub hC dX1_takeUnits_55 (fun v28 => ?_)
    refine r_istoren hC [(3, .int v28), (5, .int v19), (0, va_rf (some a0)), (1, va_rf x5_1), (2, .int x5_2), (4, .int x5_4)] (i := 3) rfl (by decide) rfl dX1_takeUnits_56 ?_
    refine r_iinc hC 5 (fun w => [(4, .int w), (3, .int v28), (5, .int v19), (0, va_rf (some a0)), (1, va_rf x5_1), (2, .int x5_2)]) 1 rfl (by decide) rfl (fun w => rfl) dX1_takeUnits_57 (fun v29 => ?_)
    refine r_goto hC 5 dX1_takeUnits_60 (by decide) ?_
    refine Wo.sub [3, 4, 5, 1, 0] rfl ?_
    exact hk5 a0 x5_1 x5_2 v28 v29 σ27

set_option maxRecDepth 100000 in
set_option maxHeartbeats 4000000 in
theorem u_X1_takeUnits_5 {C : Cxt} {G : Glb} (hC : CX C G RX1 cX1_takeUnits 6 none 1 0 0 21) : ∀ (n : Nat) (a0 : Nat) (x5_1 : (Option Nat)) (x5_2 : Int32) (x5_3 : Int32) (x5_4 : Int32) (σ : Mem), Wo C G 6 (QP C G rvU 0 0) (l_X1_takeUnits_5  n a0 x5_1 x5_2 x5_3 x5_4 σ) σ 0 0 5 [(0, va_rf (some a0)), (1, va_rf x5_1), (2, .int x5_2), (3, .int x5_3), (4, .int x5_4)] [] := by
  intro n
  induction n with
  | zero => intro a0 x5_1 x5_2 x5_3 x5_4 σ; exact Wo.none
  | succ n ih => intro a0 x5_1 x5_2 x5_3 x5_4 σ; exact t_X1_takeUnits_5 hC (l_X1_takeUnits_5  n) ih a0 x5_1 x5_2 x5_3 x5_4 σ

set_option maxRecDepth 100000 in
set_option maxHeartbeats 4000000 in
theorem t_X1_takeUnits_0 {C : Cxt} {G : Glb} (hC : CX C G RX1 cX1_takeUnits 6 none 1 0 0 21) (a0 : Nat) (p0 : (Option Nat)) (p1 : Int32) (σ : Mem) : Wo C G 6 (QP C G rvU 0 0) (b_X1_takeUnits_0  a0 p0 p1 σ) σ 0 0 0 [(0, va_rf (some a0)), (1, va_rf p0), (2, .int p1)] [] := by
  unfold b_X1_takeUnits_0
  refine r_iloadn hC 2 rfl rfl dX1_takeUnits_0 ?_
  refine r_istoren hC [(3, .int p1), (0, va_rf (some a0)), (1, va_rf p0), (2, .int p1)] (i := 3) rfl (by decide) rfl dX1_takeUnits_1 ?_
  refine r_iconst hC (0) rfl dX1_takeUnits_2 ?_
  refine r_istore hC [(4, .int 0), (3, .int p1), (0, va_rf (some a0)), (1, va_rf p0), (2, .int p1)] (i := 4) (by decide) rfl dX1_takeUnits_3 ?_
  refine Wo.sub [2, 3, 4, 1, 0] rfl ?_
  exact u_X1_takeUnits_5 hC 40 a0 p0 p1 p1 0 σ

set_option maxRecDepth 100000 in
set_option maxHeartbeats 4000000 in
theorem ct_X1_takeUnits {l : Launch} (hl : l.stackTraces = false) (G : Glb) (a0 : Nat) (p0 : (Option Nat)) (p1 : Int32) (σ : Mem) : Ct rvU l yX1_takeUnits (Cond.code yX1_takeUnits cX1_takeUnits 6 none :: uW) { frames := 1, cells := 0, slots := 0, locals := 21 } 0 0 G [.ref a0, va_rf p0, .int p1] σ (f_X1_takeUnits a0 p0 p1 σ) := by
  refine Ct.of hl (by decide +kernel) (by simp [lg_sl, cat_rf, cat_i, cat_j, cat_d, cat_a]) (fun C hC hin => ?_)
  have e : lv_args 0 [.ref a0, va_rf p0, .int p1] = [(0, .ref a0), (1, va_rf p0), (2, .int p1)] := by simp [lv_args, cat_rf, cat_i, cat_j, cat_d, cat_a]
  rw [e]
  exact t_X1_takeUnits_0 hC a0 p0 p1 σ

noncomputable def b_X1_bodyOfLeaf_27 (a0 : Nat) (y27_0 : Int32) (y27_1 : Int32) (σ : Mem) : Option ((Int32) × Mem) :=
nm (y27_1 + y27_0) fun v7 =>
gI 1 7 σ (some a0) fun v8 =>
nm (v7 - v8) fun v9 =>
some (v9, σ)

noncomputable def b_X1_bodyOfLeaf_0 (a0 : Nat) (σ : Mem) : Option ((Int32) × Mem) :=
gI 1 6 σ (some a0) fun v1 =>
dv v1 8 fun v2 =>
gI 1 5 σ (some a0) fun v3 =>
dv v3 3 fun v4 =>
nm (v2 + v4) fun v5 =>
gI 1 9 σ (some a0) fun v6 =>
if v6 = 2 then
b_X1_bodyOfLeaf_27 a0 2 v5 σ
else
b_X1_bodyOfLeaf_27 a0 0 v5 σ

noncomputable def f_X1_bodyOfLeaf (a0 : Nat) (σ : Mem) : Option ((Int32) × Mem) := b_X1_bodyOfLeaf_0 a0 σ
set_option maxRecDepth 100000 in
set_option maxHeartbeats 4000000 in
theorem t_X1_bodyOfLeaf_27 {C : Cxt} {G : Glb} (hC : CX C G RX1 cX1_bodyOfLeaf 1 (some .int) 0 0 0 0) (a0 : Nat) (y27_0 : Int32) (y27_1 : Int32) (σ : Mem) : Wo C G 1 (QP C G rvI 0 0) (b_X1_bodyOfLeaf_27  a0 y27_0 y27_1 σ) σ 0 0 27 [(0, va_rf (some a0))] [.int y27_0, .int y27_1] := by
  unfold b_X1_bodyOfLeaf_27
  refine r_iadd hC dX1_bodyOfLeaf_27 (fun v7 => ?_)
  refine r_aloadn hC 0 (r := (some a0)) rfl rfl dX1_bodyOfLeaf_28 ?_
  refine r_gI hC (k := 7) (r := (some a0)) cls_1 (by decide) rfl q_78 (Or.inl rfl) dX1_bodyOfLeaf_29 (fun v8 => ?_)
  refine r_isub hC dX1_bodyOfLeaf_32 (fun v9 => ?_)
  exact e_I hC ⟨Nat.zero_le _, Nat.zero_le _⟩ dX1_bodyOfLeaf_33

set_option maxRecDepth 100000 in
set_option maxHeartbeats 4000000 in
theorem t_X1_bodyOfLeaf_0 {C : Cxt} {G : Glb} (hC : CX C G RX1 cX1_bodyOfLeaf 1 (some .int) 0 0 0 0) (a0 : Nat) (σ : Mem) : Wo C G 1 (QP C G rvI 0 0) (b_X1_bodyOfLeaf_0  a0 σ) σ 0 0 0 [(0, va_rf (some a0))] [] := by
  unfold b_X1_bodyOfLeaf_0
  refine r_aloadn hC 0 (r := (some a0)) rfl rfl dX1_bodyOfLeaf_0 ?_
  refine r_gI hC (k := 6) (r := (some a0)) cls_1 (by decide) rfl q_76 (Or.inl rfl) dX1_bodyOfLeaf_1 (fun v1 => ?_)
  refine r_bipush hC (8) (by decide) dX1_bodyOfLeaf_4 ?_
  refine r_idiv hC dX1_bodyOfLeaf_6 (fun v2 => ?_)
  refine r_aloadn hC 0 (r := (some a0)) rfl rfl dX1_bodyOfLeaf_7 ?_
  refine r_gI hC (k := 5) (r := (some a0)) cls_1 (by decide) rfl q_74 (Or.inl rfl) dX1_bodyOfLeaf_8 (fun v3 => ?_)
  refine r_iconst hC (3) rfl dX1_bodyOfLeaf_11 ?_
  refine r_idiv hC dX1_bodyOfLeaf_12 (fun v4 => ?_)
  refine r_iadd hC dX1_bodyOfLeaf_13 (fun v5 => ?_)
  refine r_aloadn hC 0 (r := (some a0)) rfl rfl dX1_bodyOfLeaf_14 ?_
  refine r_gI hC (k := 9) (r := (some a0)) cls_1 (by decide) rfl q_82 (Or.inl rfl) dX1_bodyOfLeaf_15 (fun v6 => ?_)
  refine r_iconst hC (2) rfl dX1_bodyOfLeaf_18 ?_
  refine r_icmp_ne hC 26 dX1_bodyOfLeaf_19 (by decide) ?_ ?_
  · refine r_iconst hC (0) rfl dX1_bodyOfLeaf_26 ?_
    exact t_X1_bodyOfLeaf_27 hC a0 0 v5 σ
  · refine r_iconst hC (2) rfl dX1_bodyOfLeaf_22 ?_
    refine r_goto hC 27 dX1_bodyOfLeaf_23 (by decide) ?_
    exact t_X1_bodyOfLeaf_27 hC a0 2 v5 σ

set_option maxRecDepth 100000 in
set_option maxHeartbeats 4000000 in
theorem ct_X1_bodyOfLeaf {l : Launch} (hl : l.stackTraces = false) (G : Glb) (a0 : Nat) (σ : Mem) : Ct rvI l yX1_bodyOfLeaf (Cond.code yX1_bodyOfLeaf cX1_bodyOfLeaf 1 (some .int) :: uW) { frames := 0, cells := 0, slots := 0, locals := 0 } 0 0 G [.ref a0] σ (f_X1_bodyOfLeaf a0 σ) := by
  refine Ct.of hl (by decide +kernel) (Nat.le_of_ble_eq_true rfl) (fun C hC hin => ?_)
  have e : lv_args 0 [.ref a0] = [(0, .ref a0)] := rfl
  rw [e]
  exact t_X1_bodyOfLeaf_0 hC a0 σ

noncomputable def b_X1_briskOfLeaf_26 (a0 : Nat) (x26_1 : Int32) (y26_0 : Int32) (σ : Mem) : Option ((Int32) × Mem) :=
dv x26_1 2 fun v7 =>
nm (v7 + y26_0) fun v8 =>
gI 1 8 σ (some a0) fun v9 =>
dv v9 4 fun v10 =>
nm (v8 - v10) fun v11 =>
some (v11, σ)

noncomputable def b_X1_briskOfLeaf_0 (a0 : Nat) (p0 : Int32) (σ : Mem) : Option ((Int32) × Mem) :=
gI 1 10 σ (some a0) fun v1 =>
if v1 = 0 then
gI 1 6 σ (some a0) fun v2 =>
nm (v2 - 30) fun v3 =>
nm (if 0 ≤ v3 then v3 else 0 - v3) fun v4 =>
dv v4 8 fun v5 =>
nm (4 - v5) fun v6 =>
b_X1_briskOfLeaf_26 a0 p0 v6 σ
else
b_X1_briskOfLeaf_26 a0 p0 3 σ

noncomputable def f_X1_briskOfLeaf (a0 : Nat) (p0 : Int32) (σ : Mem) : Option ((Int32) × Mem) := b_X1_briskOfLeaf_0 a0 p0 σ
set_option maxRecDepth 100000 in
set_option maxHeartbeats 4000000 in
theorem t_X1_briskOfLeaf_26 {C : Cxt} {G : Glb} (hC : CX C G RX1 cX1_briskOfLeaf 3 (some .int) 1 0 0 14) (a0 : Nat) (x26_1 : Int32) (y26_0 : Int32) (σ : Mem) : Wo C G 3 (QP C G rvI 0 0) (b_X1_briskOfLeaf_26  a0 x26_1 y26_0 σ) σ 0 0 26 [(0, va_rf (some a0)), (1, .int x26_1)] [.int y26_0] := by
  unfold b_X1_briskOfLeaf_26
  refine r_istoren hC [(2, .int y26_0), (0, va_rf (some a0)), (1, .int x26_1)] (i := 2) rfl (by decide) rfl dX1_briskOfLeaf_26 ?_
  refine r_iloadn hC 2 rfl rfl dX1_briskOfLeaf_27 ?_
  refine r_iconst hC (2) rfl dX1_briskOfLeaf_28 ?_
  refine r_idiv hC dX1_briskOfLeaf_29 (fun v7 => ?_)
  refine r_iloadn hC 0 rfl rfl dX1_briskOfLeaf_30 ?_
  refine r_iadd hC dX1_briskOfLeaf_31 (fun v8 => ?_)
  refine r_aloadn hC 1 (r := (some a0)) rfl rfl dX1_briskOfLeaf_32 ?_
  refine r_gI hC (k := 8) (r := (some a0)) cls_1 (by decide) rfl q_80 (Or.inl rfl) dX1_briskOfLeaf_33 (fun v9 => ?_)
  refine r_iconst hC (4) rfl dX1_briskOfLeaf_36 ?_
  refine r_idiv hC dX1_briskOfLeaf_37 (fun v10 => ?_)
  refine r_isub hC dX1_briskOfLeaf_38 (fun v11 => ?_)
  exact e_I hC ⟨Nat.zero_le _, Nat.zero_le _⟩ dX1_briskOfLeaf_39

set_option maxRecDepth 100000 in
set_option maxHeartbeats 4000000 in
theorem t_X1_briskOfLeaf_0 {C : Cxt} {G : Glb} (hC : CX C G RX1 cX1_briskOfLeaf 3 (some .int) 1 0 0 14) (a0 : Nat) (p0 : Int32) (σ : Mem) : Wo C G 3 (QP C G rvI 0 0) (b_X1_briskOfLeaf_0  a0 p0 σ) σ 0 0 0 [(0, va_rf (some a0)), (1, .int p0)] [] := by
  unfold b_X1_briskOfLeaf_0
  refine r_aloadn hC 0 (r := (some a0)) rfl rfl dX1_briskOfLeaf_0 ?_
  refine r_gI hC (k := 10) (r := (some a0)) cls_1 (by decide) rfl q_84 (Or.inl rfl) dX1_briskOfLeaf_1 (fun v1 => ?_)
  refine r_if_eq hC 11 dX1_briskOfLeaf_4 (by decide) ?_ ?_
  · refine r_iconst hC (4) rfl dX1_briskOfLeaf_11 ?_
    refine r_aloadn hC 0 (r := (some a0)) rfl rfl dX1_briskOfLeaf_12 ?_
    refine r_gI hC (k := 6) (r := (some a0)) cls_1 (by decide) rfl q_76 (Or.inl rfl) dX1_briskOfLeaf_13 (fun v2 => ?_)
    refine r_bipush hC (30) (by decide) dX1_briskOfLeaf_16 ?_
    refine r_isub hC dX1_briskOfLeaf_18 (fun v3 => ?_)
    refine r_abs hC q_432 q_433 q_24 q_434 (Nat.le_of_ble_eq_true rfl) (by simp [cat_rf, cat_i, cat_j, cat_d, cat_a]) ⟨Nat.zero_le _, Nat.zero_le _⟩ dX1_briskOfLeaf_19 (fun v4 => ?_)
    refine r_bipush hC (8) (by decide) dX1_briskOfLeaf_22 ?_
    refine r_idiv hC dX1_briskOfLeaf_24 (fun v5 => ?_)
    refine r_isub hC dX1_briskOfLeaf_25 (fun v6 => ?_)
    exact t_X1_briskOfLeaf_26 hC a0 p0 v6 σ
  · refine r_iconst hC (3) rfl dX1_briskOfLeaf_7 ?_
    refine r_goto hC 26 dX1_briskOfLeaf_8 (by decide) ?_
    exact t_X1_briskOfLeaf_26 hC a0 p0 3 σ

set_option maxRecDepth 100000 in
set_option maxHeartbeats 4000000 in
theorem ct_X1_briskOfLeaf {l : Launch} (hl : l.stackTraces = false) (G : Glb) (a0 : Nat) (p0 : Int32) (σ : Mem) : Ct rvI l yX1_briskOfLeaf (Cond.code yX1_briskOfLeaf cX1_briskOfLeaf 3 (some .int) :: uW) { frames := 1, cells := 0, slots := 0, locals := 14 } 0 0 G [.ref a0, .int p0] σ (f_X1_briskOfLeaf a0 p0 σ) := by
  refine Ct.of hl (by decide +kernel) (Nat.le_of_ble_eq_true rfl) (fun C hC hin => ?_)
  have e : lv_args 0 [.ref a0, .int p0] = [(0, .ref a0), (1, .int p0)] := rfl
  rw [e]
  exact t_X1_briskOfLeaf_0 hC a0 p0 σ

noncomputable def b_X1_aromaOfLeaf_41 (y41_0 : Int32) (y41_1 : Int32) (σ : Mem) : Option ((Int32) × Mem) :=
nm (y41_1 - y41_0) fun v12 =>
some (v12, σ)

noncomputable def b_X1_aromaOfLeaf_0 (a0 : Nat) (p0 : Int32) (σ : Mem) : Option ((Int32) × Mem) :=
gI 1 4 σ (some a0) fun v1 =>
nm (if v1 < 12 then v1 else 12) fun v2 =>
dv v2 2 fun v3 =>
dv p0 3 fun v4 =>
nm (v3 + v4) fun v5 =>
gI 1 7 σ (some a0) fun v6 =>
nm (v5 - v6) fun v7 =>
gI 1 8 σ (some a0) fun v8 =>
dv v8 5 fun v9 =>
nm (v7 - v9) fun v10 =>
gI 1 11 σ (some a0) fun v11 =>
if v11 = 0 then
b_X1_aromaOfLeaf_41 0 v10 σ
else
b_X1_aromaOfLeaf_41 5 v10 σ

noncomputable def f_X1_aromaOfLeaf (a0 : Nat) (p0 : Int32) (σ : Mem) : Option ((Int32) × Mem) := b_X1_aromaOfLeaf_0 a0 p0 σ
set_option maxRecDepth 100000 in
set_option maxHeartbeats 4000000 in
theorem t_X1_aromaOfLeaf_41 {C : Cxt} {G : Glb} (hC : CX C G RX1 cX1_aromaOfLeaf 3 (some .int) 1 0 0 13) (y41_0 : Int32) (y41_1 : Int32) (σ : Mem) : Wo C G 3 (QP C G rvI 0 0) (b_X1_aromaOfLeaf_41  y41_0 y41_1 σ) σ 0 0 41 [] [.int y41_0, .int y41_1] := by
  unfold b_X1_aromaOfLeaf_41
  refine r_isub hC dX1_aromaOfLeaf_41 (fun v12 => ?_)
  exact e_I hC ⟨Nat.zero_le _, Nat.zero_le _⟩ dX1_aromaOfLeaf_42

set_option maxRecDepth 100000 in
set_option maxHeartbeats 4000000 in
theorem t_X1_aromaOfLeaf_0 {C : Cxt} {G : Glb} (hC : CX C G RX1 cX1_aromaOfLeaf 3 (some .int) 1 0 0 13) (a0 : Nat) (p0 : Int32) (σ : Mem) : Wo C G 3 (QP C G rvI 0 0) (b_X1_aromaOfLeaf_0  a0 p0 σ) σ 0 0 0 [(0, va_rf (some a0)), (1, .int p0)] [] := by
  unfold b_X1_aromaOfLeaf_0
  refine r_bipush hC (12) (by decide) dX1_aromaOfLeaf_0 ?_
  refine r_aloadn hC 0 (r := (some a0)) rfl rfl dX1_aromaOfLeaf_2 ?_
  refine r_gI hC (k := 4) (r := (some a0)) cls_1 (by decide) rfl q_72 (Or.inl rfl) dX1_aromaOfLeaf_3 (fun v1 => ?_)
  refine r_min hC q_439 q_343 q_24 q_344 (Nat.le_of_ble_eq_true rfl) (Nat.le_of_ble_eq_true rfl) ⟨Nat.zero_le _, Nat.zero_le _⟩ dX1_aromaOfLeaf_6 (fun v2 => ?_)
  refine r_iconst hC (2) rfl dX1_aromaOfLeaf_9 ?_
  refine r_idiv hC dX1_aromaOfLeaf_10 (fun v3 => ?_)
  refine r_istoren hC [(2, .int v3), (0, va_rf (some a0)), (1, .int p0)] (i := 2) rfl (by decide) rfl dX1_aromaOfLeaf_11 ?_
  refine r_iloadn hC 0 rfl rfl dX1_aromaOfLeaf_12 ?_
  refine r_iloadn hC 2 rfl rfl dX1_aromaOfLeaf_13 ?_
  refine r_iconst hC (3) rfl dX1_aromaOfLeaf_14 ?_
  refine r_idiv hC dX1_aromaOfLeaf_15 (fun v4 => ?_)
  refine r_iadd hC dX1_aromaOfLeaf_16 (fun v5 => ?_)
  refine r_aloadn hC 1 (r := (some a0)) rfl rfl dX1_aromaOfLeaf_17 ?_
  refine r_gI hC (k := 7) (r := (some a0)) cls_1 (by decide) rfl q_78 (Or.inl rfl) dX1_aromaOfLeaf_18 (fun v6 => ?_)
  refine r_isub hC dX1_aromaOfLeaf_21 (fun v7 => ?_)
  refine r_aloadn hC 1 (r := (some a0)) rfl rfl dX1_aromaOfLeaf_22 ?_
  refine r_gI hC (k := 8) (r := (some a0)) cls_1 (by decide) rfl q_80 (Or.inl rfl) dX1_aromaOfLeaf_23 (fun v8 => ?_)
  refine r_iconst hC (5) rfl dX1_aromaOfLeaf_26 ?_
  refine r_idiv hC dX1_aromaOfLeaf_27 (fun v9 => ?_)
  refine r_isub hC dX1_aromaOfLeaf_28 (fun v10 => ?_)
  refine r_aloadn hC 1 (r := (some a0)) rfl rfl dX1_aromaOfLeaf_29 ?_
  refine r_gI hC (k := 11) (r := (some a0)) cls_1 (by decide) rfl q_86 (Or.inl rfl) dX1_aromaOfLeaf_30 (fun v11 => ?_)
  refine r_if_eq hC 40 dX1_aromaOfLeaf_33 (by decide) ?_ ?_
  · refine r_iconst hC (0) rfl dX1_aromaOfLeaf_40 ?_
    refine Wo.sub [] rfl ?_
    exact t_X1_aromaOfLeaf_41 hC 0 v10 σ
  · refine r_iconst hC (5) rfl dX1_aromaOfLeaf_36 ?_
    refine r_goto hC 41 dX1_aromaOfLeaf_37 (by decide) ?_
    refine Wo.sub [] rfl ?_
    exact t_X1_aromaOfLeaf_41 hC 5 v10 σ

set_option maxRecDepth 100000 in
set_option maxHeartbeats 4000000 in
theorem ct_X1_aromaOfLeaf {l : Launch} (hl : l.stackTraces = false) (G : Glb) (a0 : Nat) (p0 : Int32) (σ : Mem) : Ct rvI l yX1_aromaOfLeaf (Cond.code yX1_aromaOfLeaf cX1_aromaOfLeaf 3 (some .int) :: uW) { frames := 1, cells := 0, slots := 0, locals := 13 } 0 0 G [.ref a0, .int p0] σ (f_X1_aromaOfLeaf a0 p0 σ) := by
  refine Ct.of hl (by decide +kernel) (Nat.le_of_ble_eq_true rfl) (fun C hC hin => ?_)
  have e : lv_args 0 [.ref a0, .int p0] = [(0, .ref a0), (1, .int p0)] := rfl
  rw [e]
  exact t_X1_aromaOfLeaf_0 hC a0 p0 σ

noncomputable def b_X1_noteOf_68 (y68_0 : Int32) (σ : Mem) : Option ((Int32) × Mem) :=
cl1 (f_X4_heldNote y68_0 σ) fun v6 σ7 =>
some (v6, σ7)

noncomputable def b_X1_noteOf_37 (a0 : Nat) (x37_1 : Int32) (y37_0 : Int32) (σ : Mem) : Option ((Int32) × Mem) :=
if x37_1 = 0 then
ob 1 σ (some a0) fun h13 => cl1 (f_X1_bodyOfLeaf h13 σ) fun v11 σ12 =>
cl1 (f_X4_heldNote v11 σ12) fun v14 σ15 =>
some (v14, σ15)
else
if x37_1 = 1 then
ob 1 σ (some a0) fun h10 => cl1 (f_X1_briskOfLeaf h10 y37_0 σ) fun v8 σ9 =>
b_X1_noteOf_68 v8 σ9
else
ob 1 σ (some a0) fun h5 => cl1 (f_X1_aromaOfLeaf h5 y37_0 σ) fun v3 σ4 =>
b_X1_noteOf_68 v3 σ4

noncomputable def b_X1_noteOf_0 (a0 : Nat) (p0 : Int32) (σ : Mem) : Option ((Int32) × Mem) :=
gI 1 12 σ (some a0) fun v1 =>
if v1 = 0 then
gI 1 1 σ (some a0) fun v2 =>
if v2 ≤ 0 then
b_X1_noteOf_37 a0 p0 0 σ
else
gI 1 2 σ (some a0) fun v16 =>
nm (10 * v16) fun v17 =>
gI 1 1 σ (some a0) fun v18 =>
dv v17 v18 fun v19 =>
b_X1_noteOf_37 a0 p0 v19 σ
else
gR 1 14 σ (some a0) fun r20 =>
aI σ r20 p0 fun v21 =>
some (v21, σ)

noncomputable def f_X1_noteOf (a0 : Nat) (p0 : Int32) (σ : Mem) : Option ((Int32) × Mem) := b_X1_noteOf_0 a0 p0 σ
set_option maxRecDepth 100000 in
set_option maxHeartbeats 4000000 in
theorem t_X1_noteOf_68 {C : Cxt} {G : Glb} (hC : CX C G RX1 cX1_noteOf 3 (some .int) 2 0 0 36) (y68_0 : Int32) (σ : Mem) : Wo C G 3 (QP C G rvI 0 0) (b_X1_noteOf_68  y68_0 σ) σ 0 0 68 [] [.int y68_0] := by
  unfold b_X1_noteOf_68
  refine call_SN hC (av := [.int y68_0]) (st := []) (ct_X4_heldNote hC.hl G y68_0 σ) z_422 q_423 q_13 q_424 yd_X4_heldNote rfl ⟨Nat.le_of_ble_eq_true rfl, Nat.le_of_ble_eq_true rfl⟩ ⟨Nat.zero_le _, Nat.zero_le _⟩ rfl (Nat.le_of_ble_eq_true rfl) dX1_noteOf_68 (fun v6 σ7 => ?_)
  show Wo _ _ _ _ _ _ _ _ _ _ [.int v6]
  exact e_I hC ⟨Nat.zero_le _, Nat.zero_le _⟩ dX1_noteOf_71

set_option maxRecDepth 100000 in
set_option maxHeartbeats 4000000 in
theorem t_X1_noteOf_37 {C : Cxt} {G : Glb} (hC : CX C G RX1 cX1_noteOf 3 (some .int) 2 0 0 36) (a0 : Nat) (x37_1 : Int32) (y37_0 : Int32) (σ : Mem) : Wo C G 3 (QP C G rvI 0 0) (b_X1_noteOf_37  a0 x37_1 y37_0 σ) σ 0 0 37 [(0, va_rf (some a0)), (1, .int x37_1)] [.int y37_0] := by
  unfold b_X1_noteOf_37
  refine r_istoren hC [(2, .int y37_0), (0, va_rf (some a0)), (1, .int x37_1)] (i := 2) rfl (by decide) rfl dX1_noteOf_37 ?_
  refine r_iloadn hC 2 rfl rfl dX1_noteOf_38 ?_
  refine r_if_ne hC 50 dX1_noteOf_39 (by decide) ?_ ?_
  · refine r_iloadn hC 2 rfl rfl dX1_noteOf_50 ?_
    refine r_iconst hC (1) rfl dX1_noteOf_51 ?_
    refine r_icmp_ne hC 63 dX1_noteOf_52 (by decide) ?_ ?_
    · refine r_aloadn hC 1 (r := (some a0)) rfl rfl dX1_noteOf_63 ?_
      refine r_iloadn hC 0 rfl rfl dX1_noteOf_64 ?_
      refine call_V hC (av := [.int y37_0]) (st := []) (r := (some a0)) (ci := 1) rfl rfl (fun h9 => ct_X1_aromaOfLeaf hC.hl G h9 y37_0 σ) q_435 q_436 q_437 q_14 q_438 yd_X1_aromaOfLeaf rfl ⟨Nat.le_of_ble_eq_true rfl, Nat.le_of_ble_eq_true rfl⟩ ⟨Nat.zero_le _, Nat.zero_le _⟩ rfl (Nat.le_of_ble_eq_true rfl) dX1_noteOf_65 (fun v3 σ4 => ?_)
      show Wo _ _ _ _ _ _ _ _ _ _ [.int v3]
      refine Wo.sub [] rfl ?_
      exact t_X1_noteOf_68 hC v3 σ4
    · refine r_aloadn hC 1 (r := (some a0)) rfl rfl dX1_noteOf_55 ?_
      refine r_iloadn hC 0 rfl rfl dX1_noteOf_56 ?_
      refine call_V hC (av := [.int y37_0]) (st := []) (r := (some a0)) (ci := 1) rfl rfl (fun h9 => ct_X1_briskOfLeaf hC.hl G h9 y37_0 σ) q_428 q_429 q_430 q_14 q_431 yd_X1_briskOfLeaf rfl ⟨Nat.le_of_ble_eq_true rfl, Nat.le_of_ble_eq_true rfl⟩ ⟨Nat.zero_le _, Nat.zero_le _⟩ rfl (Nat.le_of_ble_eq_true rfl) dX1_noteOf_57 (fun v8 σ9 => ?_)
      show Wo _ _ _ _ _ _ _ _ _ _ [.int v8]
      refine r_goto hC 68 dX1_noteOf_60 (by decide) ?_
      refine Wo.sub [] rfl ?_
      exact t_X1_noteOf_68 hC v8 σ9
  · refine r_aloadn hC 1 (r := (some a0)) rfl rfl dX1_noteOf_42 ?_
    refine call_V hC (av := []) (st := []) (r := (some a0)) (ci := 1) rfl rfl (fun h9 => ct_X1_bodyOfLeaf hC.hl G h9 σ) q_418 q_419 q_420 q_14 q_421 yd_X1_bodyOfLeaf rfl ⟨Nat.le_of_ble_eq_true rfl, Nat.le_of_ble_eq_true rfl⟩ ⟨Nat.zero_le _, Nat.zero_le _⟩ rfl (Nat.le_of_ble_eq_true rfl) dX1_noteOf_43 (fun v11 σ12 => ?_)
    show Wo _ _ _ _ _ _ _ _ _ _ [.int v11]
    refine call_SN hC (av := [.int v11]) (st := []) (ct_X4_heldNote hC.hl G v11 σ12) z_422 q_423 q_13 q_424 yd_X4_heldNote rfl ⟨Nat.le_of_ble_eq_true rfl, Nat.le_of_ble_eq_true rfl⟩ ⟨Nat.zero_le _, Nat.zero_le _⟩ rfl (Nat.le_of_ble_eq_true rfl) dX1_noteOf_46 (fun v14 σ15 => ?_)
    show Wo _ _ _ _ _ _ _ _ _ _ [.int v14]
    exact e_I hC ⟨Nat.zero_le _, Nat.zero_le _⟩ dX1_noteOf_49

set_option maxRecDepth 100000 in
set_option maxHeartbeats 4000000 in
theorem t_X1_noteOf_0 {C : Cxt} {G : Glb} (hC : CX C G RX1 cX1_noteOf 3 (some .int) 2 0 0 36) (a0 : Nat) (p0 : Int32) (σ : Mem) : Wo C G 3 (QP C G rvI 0 0) (b_X1_noteOf_0  a0 p0 σ) σ 0 0 0 [(0, va_rf (some a0)), (1, .int p0)] [] := by
  unfold b_X1_noteOf_0
  refine r_aloadn hC 0 (r := (some a0)) rfl rfl dX1_noteOf_0 ?_
  refine r_gI hC (k := 12) (r := (some a0)) cls_1 (by decide) rfl q_88 (Or.inl rfl) dX1_noteOf_1 (fun v1 => ?_)
  refine r_if_eq hC 14 dX1_noteOf_4 (by decide) ?_ ?_
  · refine r_aloadn hC 0 (r := (some a0)) rfl rfl dX1_noteOf_14 ?_
    refine r_gI hC (k := 1) (r := (some a0)) cls_1 (by decide) rfl q_66 (Or.inl rfl) dX1_noteOf_15 (fun v2 => ?_)
    refine r_if_le hC 36 dX1_noteOf_18 (by decide) ?_ ?_
    · refine r_iconst hC (0) rfl dX1_noteOf_36 ?_
      exact t_X1_noteOf_37 hC a0 p0 0 σ
    · refine r_bipush hC (10) (by decide) dX1_noteOf_21 ?_
      refine r_aloadn hC 0 (r := (some a0)) rfl rfl dX1_noteOf_23 ?_
      refine r_gI hC (k := 2) (r := (some a0)) cls_1 (by decide) rfl q_68 (Or.inl rfl) dX1_noteOf_24 (fun v16 => ?_)
      refine r_imul hC dX1_noteOf_27 (fun v17 => ?_)
      refine r_aloadn hC 0 (r := (some a0)) rfl rfl dX1_noteOf_28 ?_
      refine r_gI hC (k := 1) (r := (some a0)) cls_1 (by decide) rfl q_66 (Or.inl rfl) dX1_noteOf_29 (fun v18 => ?_)
      refine r_idiv hC dX1_noteOf_32 (fun v19 => ?_)
      refine r_goto hC 37 dX1_noteOf_33 (by decide) ?_
      exact t_X1_noteOf_37 hC a0 p0 v19 σ
  · refine r_aloadn hC 0 (r := (some a0)) rfl rfl dX1_noteOf_7 ?_
    refine r_gR hC (k := 14) (r := (some a0)) cls_1 (by decide) rfl q_92 (Or.inl rfl) dX1_noteOf_8 (fun r20 => ?_)
    refine r_iloadn hC 1 rfl rfl dX1_noteOf_11 ?_
    refine r_aI hC (r := r20) dX1_noteOf_12 (fun v21 => ?_)
    exact e_I hC ⟨Nat.zero_le _, Nat.zero_le _⟩ dX1_noteOf_13

set_option maxRecDepth 100000 in
set_option maxHeartbeats 4000000 in
theorem ct_X1_noteOf {l : Launch} (hl : l.stackTraces = false) (G : Glb) (a0 : Nat) (p0 : Int32) (σ : Mem) : Ct rvI l yX1_noteOf (Cond.code yX1_noteOf cX1_noteOf 3 (some .int) :: uW) { frames := 2, cells := 0, slots := 0, locals := 36 } 0 0 G [.ref a0, .int p0] σ (f_X1_noteOf a0 p0 σ) := by
  refine Ct.of hl (by decide +kernel) (Nat.le_of_ble_eq_true rfl) (fun C hC hin => ?_)
  have e : lv_args 0 [.ref a0, .int p0] = [(0, .ref a0), (1, .int p0)] := rfl
  rw [e]
  exact t_X1_noteOf_0 hC a0 p0 σ

noncomputable def b_X1_sumOfNotes_4 (k4 : Nat → Int32 → Int32 → Mem → Option ((Int32) × Mem)) (a0 : Nat) (x4_1 : Int32) (x4_2 : Int32) (σ : Mem) : Option ((Int32) × Mem) :=
if 3 ≤ x4_2 then
some (x4_1, σ)
else
ob 1 σ (some a0) fun h3 => cl1 (f_X1_noteOf h3 x4_2 σ) fun v1 σ2 =>
nm (x4_1 + v1) fun v4 =>
nm (x4_2 + 1) fun v5 =>
k4 a0 v4 v5 σ2

noncomputable def l_X1_sumOfNotes_4 (n : Nat) : Nat → Int32 → Int32 → Mem → Option ((Int32) × Mem) := itr (fun _ _ _ _ => none) (fun k => b_X1_sumOfNotes_4  k) n

noncomputable def b_X1_sumOfNotes_0 (a0 : Nat) (σ : Mem) : Option ((Int32) × Mem) :=
l_X1_sumOfNotes_4 40 a0 0 0 σ

noncomputable def f_X1_sumOfNotes (a0 : Nat) (σ : Mem) : Option ((Int32) × Mem) := b_X1_sumOfNotes_0 a0 σ
set_option maxRecDepth 100000 in
set_option maxHeartbeats 4000000 in
theorem t_X1_sumOfNotes_4 {C : Cxt} {G : Glb} (hC : CX C G RX1 cX1_sumOfNotes 3 (some .int) 3 0 0 58) (k4 : Nat → Int32 → Int32 → Mem → Option ((Int32) × Mem)) (hk4 : ∀ (a0 : Nat) (x4_1 : Int32) (x4_2 : Int32) (σ : Mem), Wo C G 3 (QP C G rvI 0 0) (k4 a0 x4_1 x4_2 σ) σ 0 0 4 [(0, va_rf (some a0)), (1, .int x4_1), (2, .int x4_2)] []) (a0 : Nat) (x4_1 : Int32) (x4_2 : Int32) (σ : Mem) : Wo C G 3 (QP C G rvI 0 0) (b_X1_sumOfNotes_4 k4 a0 x4_1 x4_2 σ) σ 0 0 4 [(0, va_rf (some a0)), (1, .int x4_1), (2, .int x4_2)] [] := by
  unfold b_X1_sumOfNotes_4
  refine r_iloadn hC 2 rfl rfl dX1_sumOfNotes_4 ?_
  refine r_iconst hC (3) rfl dX1_sumOfNotes_5 ?_
  refine r_icmp_ge hC 23 dX1_sumOfNotes_6 (by decide) ?_ ?_
  · refine r_iloadn hC 1 rfl rfl dX1_sumOfNotes_23 ?_
    exact e_I hC ⟨Nat.zero_le _, Nat.zero_le _⟩ dX1_sumOfNotes_24
  · refine r_iloadn hC 1 rfl rfl dX1_sumOfNotes_9 ?_
    refine r_aloadn hC 0 (r := (some a0)) rfl rfl dX1_sumOfNotes_10 ?_
    refine r_iloadn hC 2 rfl rfl dX1_sumOfNotes_11 ?_
    refine call_V hC (av := [.int x4_2]) (st := [.int x4_1]) (r := (some a0)) (ci := 1) rfl rfl (fun h9 => ct_X1_noteOf hC.hl G h9 x4_2 σ) q_414 q_415 q_416 q_14 q_417 yd_X1_noteOf rfl ⟨Nat.le_of_ble_eq_true rfl, Nat.le_of_ble_eq_true rfl⟩ ⟨Nat.zero_le _, Nat.zero_le _⟩ rfl (by simp [cat_rf, cat_i, cat_j, cat_d, cat_a]) dX1_sumOfNotes_12 (fun v1 σ2 => ?_)
    show Wo _ _ _ _ _ _ _ _ _ _ [.int v1, .int x4_1]
    refine r_iadd hC dX1_sumOfNotes_15 (fun v4 => ?_)
    refine r_istoren hC [(1, .int v4), (0, va_rf (some a0)), (2, .int x4_2)] (i := 1) rfl (by decide) rfl dX1_sumOfNotes_16 ?_
    refine r_iinc hC 2 (fun w => [(2, .int w), (1, .int v4), (0, va_rf (some a0))]) 1 rfl (by decide) rfl (fun w => rfl) dX1_sumOfNotes_17 (fun v5 => ?_)
    refine r_goto hC 4 dX1_sumOfNotes_20 (by decide) ?_
    refine Wo.sub [2, 1, 0] rfl ?_
    exact hk4 a0 v4 v5 σ2

set_option maxRecDepth 100000 in
set_option maxHeartbeats 4000000 in
theorem u_X1_sumOfNotes_4 {C : Cxt} {G : Glb} (hC : CX C G RX1 cX1_sumOfNotes 3 (some .int) 3 0 0 58) : ∀ (n : Nat) (a0 : Nat) (x4_1 : Int32) (x4_2 : Int32) (σ : Mem), Wo C G 3 (QP C G rvI 0 0) (l_X1_sumOfNotes_4  n a0 x4_1 x4_2 σ) σ 0 0 4 [(0, va_rf (some a0)), (1, .int x4_1), (2, .int x4_2)] [] := by
  intro n
  induction n with
  | zero => intro a0 x4_1 x4_2 σ; exact Wo.none
  | succ n ih => intro a0 x4_1 x4_2 σ; exact t_X1_sumOfNotes_4 hC (l_X1_sumOfNotes_4  n) ih a0 x4_1 x4_2 σ

set_option maxRecDepth 100000 in
set_option maxHeartbeats 4000000 in
theorem t_X1_sumOfNotes_0 {C : Cxt} {G : Glb} (hC : CX C G RX1 cX1_sumOfNotes 3 (some .int) 3 0 0 58) (a0 : Nat) (σ : Mem) : Wo C G 3 (QP C G rvI 0 0) (b_X1_sumOfNotes_0  a0 σ) σ 0 0 0 [(0, va_rf (some a0))] [] := by
  unfold b_X1_sumOfNotes_0
  refine r_iconst hC (0) rfl dX1_sumOfNotes_0 ?_
  refine r_istoren hC [(1, .int 0), (0, va_rf (some a0))] (i := 1) rfl (by decide) rfl dX1_sumOfNotes_1 ?_
  refine r_iconst hC (0) rfl dX1_sumOfNotes_2 ?_
  refine r_istoren hC [(2, .int 0), (1, .int 0), (0, va_rf (some a0))] (i := 2) rfl (by decide) rfl dX1_sumOfNotes_3 ?_
  refine Wo.sub [2, 1, 0] rfl ?_
  exact u_X1_sumOfNotes_4 hC 40 a0 0 0 σ

set_option maxRecDepth 100000 in
set_option maxHeartbeats 4000000 in
theorem ct_X1_sumOfNotes {l : Launch} (hl : l.stackTraces = false) (G : Glb) (a0 : Nat) (σ : Mem) : Ct rvI l yX1_sumOfNotes (Cond.code yX1_sumOfNotes cX1_sumOfNotes 3 (some .int) :: uW) { frames := 3, cells := 0, slots := 0, locals := 58 } 0 0 G [.ref a0] σ (f_X1_sumOfNotes a0 σ) := by
  refine Ct.of hl (by decide +kernel) (Nat.le_of_ble_eq_true rfl) (fun C hC hin => ?_)
  have e : lv_args 0 [.ref a0] = [(0, .ref a0)] := rfl
  rw [e]
  exact t_X1_sumOfNotes_0 hC a0 σ
