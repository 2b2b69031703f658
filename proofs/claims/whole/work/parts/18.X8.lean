noncomputable def b_X8_isIn_15 (y15_0 : Int32) (σ : Mem) : Option ((Int32) × Mem) :=
bo y15_0 (some (y15_0, σ))

noncomputable def b_X8_isIn_14 (σ : Mem) : Option ((Int32) × Mem) :=
b_X8_isIn_15 0 σ

noncomputable def b_X8_isIn_0 (p0 : Int32) (p1 : Int32) (p2 : Int32) (σ : Mem) : Option ((Int32) × Mem) :=
if p0 < p1 then
b_X8_isIn_14 σ
else
if p2 < p0 then
b_X8_isIn_14 σ
else
b_X8_isIn_15 1 σ

noncomputable def f_X8_isIn (p0 : Int32) (p1 : Int32) (p2 : Int32) (σ : Mem) : Option ((Int32) × Mem) := b_X8_isIn_0 p0 p1 p2 σ
set_option maxRecDepth 100000 in
set_option maxHeartbeats 4000000 in
theorem t_X8_isIn_15 {C : Cxt} {G : Glb} (hC : CX C G RX8 cX8_isIn 3 (some .boolean) 0 0 0 0) (y15_0 : Int32) (σ : Mem) : Wo C G 3 (QP C G rvI 0 0) (b_X8_isIn_15  y15_0 σ) σ 0 0 15 [] [.int y15_0] := by
  unfold b_X8_isIn_15
  exact e_B hC ⟨Nat.zero_le _, Nat.zero_le _⟩ dX8_isIn_15

set_option maxRecDepth 100000 in
set_option maxHeartbeats 4000000 in
theorem t_X8_isIn_14 {C : Cxt} {G : Glb} (hC : CX C G RX8 cX8_isIn 3 (some .boolean) 0 0 0 0) (σ : Mem) : Wo C G 3 (QP C G rvI 0 0) (b_X8_isIn_14   σ) σ 0 0 14 [] [] := by
  unfold b_X8_isIn_14
  refine r_iconst hC (0) rfl dX8_isIn_14 ?_
  exact t_X8_isIn_15 hC 0 σ

set_option maxRecDepth 100000 in
set_option maxHeartbeats 4000000 in
theorem t_X8_isIn_0 {C : Cxt} {G : Glb} (hC : CX C G RX8 cX8_isIn 3 (some .boolean) 0 0 0 0) (p0 : Int32) (p1 : Int32) (p2 : Int32) (σ : Mem) : Wo C G 3 (QP C G rvI 0 0) (b_X8_isIn_0  p0 p1 p2 σ) σ 0 0 0 [(0, .int p0), (1, .int p1), (2, .int p2)] [] := by
  unfold b_X8_isIn_0
  refine r_iloadn hC 0 rfl rfl dX8_isIn_0 ?_
  refine r_iloadn hC 1 rfl rfl dX8_isIn_1 ?_
  refine r_icmp_lt hC 14 dX8_isIn_2 (by decide) ?_ ?_
  · refine Wo.sub [] rfl ?_
    exact t_X8_isIn_14 hC  σ
  · refine r_iloadn hC 0 rfl rfl dX8_isIn_5 ?_
    refine r_iloadn hC 2 rfl rfl dX8_isIn_6 ?_
    refine r_icmp_gt hC 14 dX8_isIn_7 (by decide) ?_ ?_
    · refine Wo.sub [] rfl ?_
      exact t_X8_isIn_14 hC  σ
    · refine r_iconst hC (1) rfl dX8_isIn_10 ?_
      refine r_goto hC 15 dX8_isIn_11 (by decide) ?_
      refine Wo.sub [] rfl ?_
      exact t_X8_isIn_15 hC 1 σ

set_option maxRecDepth 100000 in
set_option maxHeartbeats 4000000 in
theorem ct_X8_isIn {l : Launch} (hl : l.stackTraces = false) (G : Glb) (p0 : Int32) (p1 : Int32) (p2 : Int32) (σ : Mem) : Ct rvI l yX8_isIn (Cond.code yX8_isIn cX8_isIn 3 (some .boolean) :: uW) { frames := 0, cells := 0, slots := 0, locals := 0 } 0 0 G [.int p0, .int p1, .int p2] σ (f_X8_isIn p0 p1 p2 σ) := by
  refine Ct.of hl (by decide +kernel) (Nat.le_of_ble_eq_true rfl) (fun C hC hin => ?_)
  have e : lv_args 0 [.int p0, .int p1, .int p2] = [(0, .int p0), (1, .int p1), (2, .int p2)] := rfl
  rw [e]
  exact t_X8_isIn_0 hC p0 p1 p2 σ

noncomputable def b_X8_init_0 (e0 mi : Nat) (a0 : Nat) (σ : Mem) : Option ((Unit) × Mem) :=
ob 10 σ (some a0) fun _ =>
nO 1 σ fun σ1 r2 =>
ob 1 σ1 r2 fun h5 => cl1 (f_Jx4a65c_init_da8c8 e0 mi h5 σ1) fun _ σ4 =>
pR 10 6 σ4 (some a0) r2 fun σ6 =>
nO 1 σ6 fun σ7 r8 =>
ob 1 σ7 r8 fun h11 => cl1 (f_Jx4a65c_init_da8c8 e0 mi h11 σ7) fun _ σ10 =>
pR 10 7 σ10 (some a0) r8 fun σ12 =>
nA 5 3 σ12 3 fun σ13 r14 =>
nO 9 σ13 fun σ15 r16 =>
ob 9 σ15 r16 fun h19 => cl1 (f_X7_init h19 σ15) fun _ σ18 =>
wR 5 σ18 r14 0 r16 fun σ20 =>
nO 9 σ20 fun σ21 r22 =>
ob 9 σ21 r22 fun h25 => cl1 (f_X7_init h25 σ21) fun _ σ24 =>
wR 5 σ24 r14 1 r22 fun σ26 =>
nO 9 σ26 fun σ27 r28 =>
ob 9 σ27 r28 fun h31 => cl1 (f_X7_init h31 σ27) fun _ σ30 =>
wR 5 σ30 r14 2 r28 fun σ32 =>
pR 10 8 σ32 (some a0) r14 fun σ33 =>
nA 0 4 σ33 4 fun σ34 r35 =>
pR 10 9 σ34 (some a0) r35 fun σ36 =>
some ((), σ36)

noncomputable def f_X8_init (e0 mi : Nat) (a0 : Nat) (σ : Mem) : Option ((Unit) × Mem) := b_X8_init_0 e0 mi a0 σ
set_option maxRecDepth 100000 in
set_option maxHeartbeats 4000000 in
theorem t_X8_init_0 {C : Cxt} {G : Glb} (hC : CX C G RX8 cX8_init 1 none 4 7 22 72) (hin : (cF C).name = "<init>") (a0 : Nat) (σ : Mem) (kc ks : Nat) (hN : kc + 7 ≤ 7 ∧ ks + 22 ≤ 22) : Wo C G 1 (QP C G rvU 7 22) (b_X8_init_0 G.2.2.2.1 G.2.2.2.2  a0 σ) σ kc ks 0 [(0, va_rf (some a0))] [] := by
  unfold b_X8_init_0
  refine r_aloadn hC 0 (r := (some a0)) rfl rfl dX8_init_0 ?_
  refine call_O hC (r := (some a0)) q_790 q_70 q_71 (Nat.le_of_ble_eq_true rfl) (Nat.le_of_ble_eq_true rfl) dX8_init_1 ?_
  refine r_aloadn hC 0 (r := (some a0)) rfl rfl dX8_init_4 ?_
  refine r_nO hC cls_1 q_791 q_792 q_47 ⟨by omega, by omega⟩ dX8_init_5 (fun σ1 r2 => ?_)
  refine r_dup hC (cat_rf _) dX8_init_8 ?_
  refine call_I hC (av := []) (st := [va_rf r2, va_rf (some a0)]) (r := r2) (ci := 1) (fun h9 => ct_Jx4a65c_init_da8c8 hC.hl G h9 σ1) q_793 q_794 q_47 q_795 rfl yd_Jx4a65c_init_da8c8 rfl ⟨Nat.le_of_ble_eq_true rfl, Nat.le_of_ble_eq_true rfl⟩ ⟨by omega, by omega⟩ rfl (by simp [cat_rf, cat_i, cat_j, cat_d, cat_a]) dX8_init_9 (fun σ4 => ?_)
  refine r_pR hC (k := 6) (r := (some a0)) (v := r2) cls_10 (by decide) rfl (Or.inl ⟨_, rfl⟩) q_846 (Or.inl rfl) (Or.inr ⟨rfl, hin, rfl⟩) dX8_init_12 (fun σ6 => ?_)
  refine r_aloadn hC 0 (r := (some a0)) rfl rfl dX8_init_15 ?_
  refine r_nO hC cls_1 q_791 q_792 q_47 ⟨by omega, by omega⟩ dX8_init_16 (fun σ7 r8 => ?_)
  refine r_dup hC (cat_rf _) dX8_init_19 ?_
  refine call_I hC (av := []) (st := [va_rf r8, va_rf (some a0)]) (r := r8) (ci := 1) (fun h9 => ct_Jx4a65c_init_da8c8 hC.hl G h9 σ7) q_793 q_794 q_47 q_795 rfl yd_Jx4a65c_init_da8c8 rfl ⟨Nat.le_of_ble_eq_true rfl, Nat.le_of_ble_eq_true rfl⟩ ⟨by omega, by omega⟩ rfl (by simp [cat_rf, cat_i, cat_j, cat_d, cat_a]) dX8_init_20 (fun σ10 => ?_)
  refine r_pR hC (k := 7) (r := (some a0)) (v := r8) cls_10 (by decide) rfl (Or.inl ⟨_, rfl⟩) q_847 (Or.inl rfl) (Or.inr ⟨rfl, hin, rfl⟩) dX8_init_23 (fun σ12 => ?_)
  refine r_aloadn hC 0 (r := (some a0)) rfl rfl dX8_init_26 ?_
  refine r_iconst hC (3) rfl dX8_init_27 ?_
  refine r_nQ hC (t := 5) (b := 3) rfl rfl q_820 hC.hK.1.2.2.1.2.2.2.1 (Nat.le_of_ble_eq_true rfl) ⟨by omega, by omega⟩ dX8_init_28 (fun σ13 r14 => ?_)
  refine r_dup hC (cat_rf _) dX8_init_31 ?_
  refine r_iconst hC (0) rfl dX8_init_32 ?_
  refine r_nO hC cls_9 q_820 q_822 q_48 ⟨by omega, by omega⟩ dX8_init_33 (fun σ15 r16 => ?_)
  refine r_dup hC (cat_rf _) dX8_init_36 ?_
  refine call_IN hC (av := []) (st := [va_rf r16, .int 0, va_rf r14, va_rf r14, va_rf (some a0)]) (r := r16) (ci := 9) (fun h9 => ct_X7_init hC.hl G h9 σ15) z_823 q_824 q_48 q_825 rfl yd_X7_init rfl ⟨Nat.le_of_ble_eq_true rfl, Nat.le_of_ble_eq_true rfl⟩ ⟨by omega, by omega⟩ rfl (by simp [cat_rf, cat_i, cat_j, cat_d, cat_a]) dX8_init_37 (fun σ18 => ?_)
  refine r_wR hC (t := 5) (r := r14) (v := r16) rfl rfl dX8_init_40 (fun σ20 => ?_)
  refine r_dup hC (cat_rf _) dX8_init_41 ?_
  refine r_iconst hC (1) rfl dX8_init_42 ?_
  refine r_nO hC cls_9 q_820 q_822 q_48 ⟨by omega, by omega⟩ dX8_init_43 (fun σ21 r22 => ?_)
  refine r_dup hC (cat_rf _) dX8_init_46 ?_
  refine call_IN hC (av := []) (st := [va_rf r22, .int 1, va_rf r14, va_rf r14, va_rf (some a0)]) (r := r22) (ci := 9) (fun h9 => ct_X7_init hC.hl G h9 σ21) z_823 q_824 q_48 q_825 rfl yd_X7_init rfl ⟨Nat.le_of_ble_eq_true rfl, Nat.le_of_ble_eq_true rfl⟩ ⟨by omega, by omega⟩ rfl (by simp [cat_rf, cat_i, cat_j, cat_d, cat_a]) dX8_init_47 (fun σ24 => ?_)
  refine r_wR hC (t := 5) (r := r14) (v := r22) rfl rfl dX8_init_50 (fun σ26 => ?_)
  refine r_dup hC (cat_rf _) dX8_init_51 ?_
  refine r_iconst hC (2) rfl dX8_init_52 ?_
  refine r_nO hC cls_9 q_820 q_822 q_48 ⟨by omega, by omega⟩ dX8_init_53 (fun σ27 r28 => ?_)
  refine r_dup hC (cat_rf _) dX8_init_56 ?_
  refine call_IN hC (av := []) (st := [va_rf r28, .int 2, va_rf r14, va_rf r14, va_rf (some a0)]) (r := r28) (ci := 9) (fun h9 => ct_X7_init hC.hl G h9 σ27) z_823 q_824 q_48 q_825 rfl yd_X7_init rfl ⟨Nat.le_of_ble_eq_true rfl, Nat.le_of_ble_eq_true rfl⟩ ⟨by omega, by omega⟩ rfl (by simp [cat_rf, cat_i, cat_j, cat_d, cat_a]) dX8_init_57 (fun σ30 => ?_)
  refine r_wR hC (t := 5) (r := r14) (v := r28) rfl rfl dX8_init_60 (fun σ32 => ?_)
  refine r_pR hC (k := 8) (r := (some a0)) (v := r14) cls_10 (by decide) rfl (Or.inr ⟨_, rfl⟩) q_848 (Or.inl rfl) (Or.inr ⟨rfl, hin, rfl⟩) dX8_init_61 (fun σ33 => ?_)
  refine r_aloadn hC 0 (r := (some a0)) rfl rfl dX8_init_64 ?_
  refine r_iconst hC (4) rfl dX8_init_65 ?_
  refine r_nA hC (t := 0) (b := 4) (ty := .int) rfl rfl rfl (fun _ h => va_nm_int h) q_102 (Nat.le_of_ble_eq_true rfl) ⟨by omega, by omega⟩ dX8_init_66 (fun σ34 r35 => ?_)
  refine r_pR hC (k := 9) (r := (some a0)) (v := r35) cls_10 (by decide) rfl (Or.inr ⟨_, rfl⟩) q_849 (Or.inl rfl) (Or.inr ⟨rfl, hin, rfl⟩) dX8_init_68 (fun σ36 => ?_)
  exact e_U hC ⟨by omega, by omega⟩ dX8_init_71

set_option maxRecDepth 100000 in
set_option maxHeartbeats 4000000 in
theorem ct_X8_init {l : Launch} (hl : l.stackTraces = false) (G : Glb) (a0 : Nat) (σ : Mem) : Ct rvU l yX8_init (Cond.code yX8_init cX8_init 1 none :: uW) { frames := 4, cells := 7, slots := 22, locals := 72 } 7 22 G [.ref a0] σ (f_X8_init G.2.2.2.1 G.2.2.2.2 a0 σ) := by
  refine Ct.of hl (by decide +kernel) (Nat.le_of_ble_eq_true rfl) (fun C hC hin => ?_)
  have e : lv_args 0 [.ref a0] = [(0, .ref a0)] := rfl
  rw [e]
  exact t_X8_init_0 hC hin a0 σ 0 0 ⟨Nat.le_of_ble_eq_true rfl, Nat.le_of_ble_eq_true rfl⟩

noncomputable def b_X8_thrown_0 (a0 : Nat) (σ : Mem) : Option ((Int32) × Mem) :=
gI 10 0 σ (some a0) fun v1 =>
some (v1, σ)

noncomputable def f_X8_thrown (a0 : Nat) (σ : Mem) : Option ((Int32) × Mem) := b_X8_thrown_0 a0 σ
set_option maxRecDepth 100000 in
set_option maxHeartbeats 4000000 in
theorem t_X8_thrown_0 {C : Cxt} {G : Glb} (hC : CX C G RX8 cX8_thrown 1 (some .int) 0 0 0 0) (a0 : Nat) (σ : Mem) : Wo C G 1 (QP C G rvI 0 0) (b_X8_thrown_0  a0 σ) σ 0 0 0 [(0, va_rf (some a0))] [] := by
  unfold b_X8_thrown_0
  refine r_aloadn hC 0 (r := (some a0)) rfl rfl dX8_thrown_0 ?_
  refine r_gI hC (k := 0) (r := (some a0)) cls_10 (by decide) rfl q_840 (Or.inl rfl) dX8_thrown_1 (fun v1 => ?_)
  exact e_I hC ⟨Nat.zero_le _, Nat.zero_le _⟩ dX8_thrown_4

set_option maxRecDepth 100000 in
set_option maxHeartbeats 4000000 in
theorem ct_X8_thrown {l : Launch} (hl : l.stackTraces = false) (G : Glb) (a0 : Nat) (σ : Mem) : Ct rvI l yX8_thrown (Cond.code yX8_thrown cX8_thrown 1 (some .int) :: uW) { frames := 0, cells := 0, slots := 0, locals := 0 } 0 0 G [.ref a0] σ (f_X8_thrown a0 σ) := by
  refine Ct.of hl (by decide +kernel) (Nat.le_of_ble_eq_true rfl) (fun C hC hin => ?_)
  have e : lv_args 0 [.ref a0] = [(0, .ref a0)] := rfl
  rw [e]
  exact t_X8_thrown_0 hC a0 σ

noncomputable def b_X8_refuse_28 (y28_0 : Int32) (σ : Mem) : Option ((Int32) × Mem) :=
bo y28_0 (some (y28_0, σ))

noncomputable def b_X8_refuse_16 (a0 : Nat) (σ : Mem) : Option ((Int32) × Mem) :=
gI 10 0 σ (some a0) fun v1 =>
if v1 ≤ 0 then
b_X8_refuse_28 0 σ
else
b_X8_refuse_28 1 σ

noncomputable def b_X8_refuse_0 (a0 : Nat) (p0 : Int32) (p1 : Int32) (σ : Mem) : Option ((Int32) × Mem) :=
if p0 = 0 then
b_X8_refuse_16 a0 σ
else
gI 10 0 σ (some a0) fun v2 =>
if v2 = 0 then
pI 10 0 σ (some a0) p1 fun σ3 =>
b_X8_refuse_16 a0 σ3
else
b_X8_refuse_16 a0 σ

noncomputable def f_X8_refuse (a0 : Nat) (p0 : Int32) (p1 : Int32) (σ : Mem) : Option ((Int32) × Mem) := b_X8_refuse_0 a0 p0 p1 σ
set_option maxRecDepth 100000 in
set_option maxHeartbeats 4000000 in
theorem t_X8_refuse_28 {C : Cxt} {G : Glb} (hC : CX C G RX8 cX8_refuse 3 (some .boolean) 0 0 0 0) (y28_0 : Int32) (σ : Mem) : Wo C G 3 (QP C G rvI 0 0) (b_X8_refuse_28  y28_0 σ) σ 0 0 28 [] [.int y28_0] := by
  unfold b_X8_refuse_28
  exact e_B hC ⟨Nat.zero_le _, Nat.zero_le _⟩ dX8_refuse_28

set_option maxRecDepth 100000 in
set_option maxHeartbeats 4000000 in
theorem t_X8_refuse_16 {C : Cxt} {G : Glb} (hC : CX C G RX8 cX8_refuse 3 (some .boolean) 0 0 0 0) (a0 : Nat) (σ : Mem) : Wo C G 3 (QP C G rvI 0 0) (b_X8_refuse_16  a0 σ) σ 0 0 16 [(0, va_rf (some a0))] [] := by
  unfold b_X8_refuse_16
  refine r_aloadn hC 0 (r := (some a0)) rfl rfl dX8_refuse_16 ?_
  refine r_gI hC (k := 0) (r := (some a0)) cls_10 (by decide) rfl q_840 (Or.inl rfl) dX8_refuse_17 (fun v1 => ?_)
  refine r_if_le hC 27 dX8_refuse_20 (by decide) ?_ ?_
  · refine r_iconst hC (0) rfl dX8_refuse_27 ?_
    refine Wo.sub [] rfl ?_
    exact t_X8_refuse_28 hC 0 σ
  · refine r_iconst hC (1) rfl dX8_refuse_23 ?_
    refine r_goto hC 28 dX8_refuse_24 (by decide) ?_
    refine Wo.sub [] rfl ?_
    exact t_X8_refuse_28 hC 1 σ

set_option maxRecDepth 100000 in
set_option maxHeartbeats 4000000 in
theorem t_X8_refuse_0 {C : Cxt} {G : Glb} (hC : CX C G RX8 cX8_refuse 3 (some .boolean) 0 0 0 0) (a0 : Nat) (p0 : Int32) (p1 : Int32) (σ : Mem) : Wo C G 3 (QP C G rvI 0 0) (b_X8_refuse_0  a0 p0 p1 σ) σ 0 0 0 [(0, va_rf (some a0)), (1, .int p0), (2, .int p1)] [] := by
  unfold b_X8_refuse_0
  refine r_iloadn hC 1 rfl rfl dX8_refuse_0 ?_
  refine r_if_eq hC 16 dX8_refuse_1 (by decide) ?_ ?_
  · refine Wo.sub [0] rfl ?_
    exact t_X8_refuse_16 hC a0 σ
  · refine r_aloadn hC 0 (r := (some a0)) rfl rfl dX8_refuse_4 ?_
    refine r_gI hC (k := 0) (r := (some a0)) cls_10 (by decide) rfl q_840 (Or.inl rfl) dX8_refuse_5 (fun v2 => ?_)
    refine r_if_ne hC 16 dX8_refuse_8 (by decide) ?_ ?_
    · refine Wo.sub [0] rfl ?_
      exact t_X8_refuse_16 hC a0 σ
    · refine r_aloadn hC 0 (r := (some a0)) rfl rfl dX8_refuse_11 ?_
      refine r_iloadn hC 2 rfl rfl dX8_refuse_12 ?_
      refine r_pI hC (k := 0) (r := (some a0)) cls_10 (by decide) rfl q_840 (Or.inl rfl) (Or.inl rfl) dX8_refuse_13 (fun σ3 => ?_)
      refine Wo.sub [0] rfl ?_
      exact t_X8_refuse_16 hC a0 σ3

set_option maxRecDepth 100000 in
set_option maxHeartbeats 4000000 in
theorem ct_X8_refuse {l : Launch} (hl : l.stackTraces = false) (G : Glb) (a0 : Nat) (p0 : Int32) (p1 : Int32) (σ : Mem) : Ct rvI l yX8_refuse (Cond.code yX8_refuse cX8_refuse 3 (some .boolean) :: uW) { frames := 0, cells := 0, slots := 0, locals := 0 } 0 0 G [.ref a0, .int p0, .int p1] σ (f_X8_refuse a0 p0 p1 σ) := by
  refine Ct.of hl (by decide +kernel) (Nat.le_of_ble_eq_true rfl) (fun C hC hin => ?_)
  have e : lv_args 0 [.ref a0, .int p0, .int p1] = [(0, .ref a0), (1, .int p0), (2, .int p1)] := rfl
  rw [e]
  exact t_X8_refuse_0 hC a0 p0 p1 σ

noncomputable def b_X8_start_0 (a0 : Nat) (p0 : Int32) (p1 : Int32) (σ : Mem) : Option ((Int32) × Mem) :=
pI 10 0 σ (some a0) 0 fun σ1 =>
ob 10 σ1 (some a0) fun h4 => cl1 (f_X8_refuse h4 p0 p1 σ1) fun v2 σ3 =>
bo v2 (some (v2, σ3))

noncomputable def f_X8_start (a0 : Nat) (p0 : Int32) (p1 : Int32) (σ : Mem) : Option ((Int32) × Mem) := b_X8_start_0 a0 p0 p1 σ
set_option maxRecDepth 100000 in
set_option maxHeartbeats 4000000 in
theorem t_X8_start_0 {C : Cxt} {G : Glb} (hC : CX C G RX8 cX8_start 3 (some .boolean) 1 0 0 22) (a0 : Nat) (p0 : Int32) (p1 : Int32) (σ : Mem) : Wo C G 3 (QP C G rvI 0 0) (b_X8_start_0  a0 p0 p1 σ) σ 0 0 0 [(0, va_rf (some a0)), (1, .int p0), (2, .int p1)] [] := by
  unfold b_X8_start_0
  refine r_aloadn hC 0 (r := (some a0)) rfl rfl dX8_start_0 ?_
  refine r_iconst hC (0) rfl dX8_start_1 ?_
  refine r_pI hC (k := 0) (r := (some a0)) cls_10 (by decide) rfl q_840 (Or.inl rfl) (Or.inl rfl) dX8_start_2 (fun σ1 => ?_)
  refine r_aloadn hC 0 (r := (some a0)) rfl rfl dX8_start_5 ?_
  refine r_iloadn hC 1 rfl rfl dX8_start_6 ?_
  refine r_iloadn hC 2 rfl rfl dX8_start_7 ?_
  refine call_V hC (av := [.int p0, .int p1]) (st := []) (r := (some a0)) (ci := 10) rfl rfl (fun h9 => ct_X8_refuse hC.hl G h9 p0 p1 σ1) q_886 q_888 q_13 q_44 q_889 yd_X8_refuse rfl ⟨Nat.le_of_ble_eq_true rfl, Nat.le_of_ble_eq_true rfl⟩ ⟨Nat.zero_le _, Nat.zero_le _⟩ rfl (Nat.le_of_ble_eq_true rfl) dX8_start_8 (fun v2 σ3 => ?_)
  show Wo _ _ _ _ _ _ _ _ _ _ [.int v2]
  exact e_B hC ⟨Nat.zero_le _, Nat.zero_le _⟩ dX8_start_11

set_option maxRecDepth 100000 in
set_option maxHeartbeats 4000000 in
theorem ct_X8_start {l : Launch} (hl : l.stackTraces = false) (G : Glb) (a0 : Nat) (p0 : Int32) (p1 : Int32) (σ : Mem) : Ct rvI l yX8_start (Cond.code yX8_start cX8_start 3 (some .boolean) :: uW) { frames := 1, cells := 0, slots := 0, locals := 22 } 0 0 G [.ref a0, .int p0, .int p1] σ (f_X8_start a0 p0 p1 σ) := by
  refine Ct.of hl (by decide +kernel) (Nat.le_of_ble_eq_true rfl) (fun C hC hin => ?_)
  have e : lv_args 0 [.ref a0, .int p0, .int p1] = [(0, .ref a0), (1, .int p0), (2, .int p1)] := rfl
  rw [e]
  exact t_X8_start_0 hC a0 p0 p1 σ

noncomputable def b_X8_isNoSection_22 (y22_0 : Int32) (σ : Mem) : Option ((Int32) × Mem) :=
bo y22_0 (some (y22_0, σ))

noncomputable def b_X8_isNoSection_0 (a0 : Nat) (p0 : Int32) (σ : Mem) : Option ((Int32) × Mem) :=
gR 10 6 σ (some a0) fun r1 =>
ob 1 σ r1 fun h4 => cl1 (f_Jx4a65c_size_8abf5 h4 σ) fun v2 σ3 =>
nm (v2 - 1) fun v5 =>
cl1 (f_X8_isIn p0 0 v5 σ3) fun v6 σ7 =>
if v6 = 0 then
b_X8_isNoSection_22 1 σ7
else
b_X8_isNoSection_22 0 σ7

noncomputable def f_X8_isNoSection (a0 : Nat) (p0 : Int32) (σ : Mem) : Option ((Int32) × Mem) := b_X8_isNoSection_0 a0 p0 σ
set_option maxRecDepth 100000 in
set_option maxHeartbeats 4000000 in
theorem t_X8_isNoSection_22 {C : Cxt} {G : Glb} (hC : CX C G RX8 cX8_isNoSection 2 (some .boolean) 1 0 0 22) (y22_0 : Int32) (σ : Mem) : Wo C G 2 (QP C G rvI 0 0) (b_X8_isNoSection_22  y22_0 σ) σ 0 0 22 [] [.int y22_0] := by
  unfold b_X8_isNoSection_22
  exact e_B hC ⟨Nat.zero_le _, Nat.zero_le _⟩ dX8_isNoSection_22

set_option maxRecDepth 100000 in
set_option maxHeartbeats 4000000 in
theorem t_X8_isNoSection_0 {C : Cxt} {G : Glb} (hC : CX C G RX8 cX8_isNoSection 2 (some .boolean) 1 0 0 22) (a0 : Nat) (p0 : Int32) (σ : Mem) : Wo C G 2 (QP C G rvI 0 0) (b_X8_isNoSection_0  a0 p0 σ) σ 0 0 0 [(0, va_rf (some a0)), (1, .int p0)] [] := by
  unfold b_X8_isNoSection_0
  refine r_iloadn hC 1 rfl rfl dX8_isNoSection_0 ?_
  refine r_iconst hC (0) rfl dX8_isNoSection_1 ?_
  refine r_aloadn hC 0 (r := (some a0)) rfl rfl dX8_isNoSection_2 ?_
  refine r_gR hC (k := 6) (r := (some a0)) cls_10 (by decide) rfl q_846 (Or.inl rfl) dX8_isNoSection_3 (fun r1 => ?_)
  refine call_V hC (av := []) (st := [.int 0, .int p0]) (r := r1) (ci := 1) rfl rfl (fun h9 => ct_Jx4a65c_size_8abf5 hC.hl G h9 σ) q_890 q_891 q_892 q_47 q_893 yd_Jx4a65c_size_8abf5 rfl ⟨Nat.le_of_ble_eq_true rfl, Nat.le_of_ble_eq_true rfl⟩ ⟨Nat.zero_le _, Nat.zero_le _⟩ rfl (by simp [cat_rf, cat_i, cat_j, cat_d, cat_a]) dX8_isNoSection_6 (fun v2 σ3 => ?_)
  show Wo _ _ _ _ _ _ _ _ _ _ [.int v2, .int 0, .int p0]
  refine r_iconst hC (1) rfl dX8_isNoSection_9 ?_
  refine r_isub hC dX8_isNoSection_10 (fun v5 => ?_)
  refine call_S hC (av := [.int p0, .int 0, .int v5]) (st := []) (ct_X8_isIn hC.hl G p0 0 v5 σ3) q_879 q_880 q_44 q_881 yd_X8_isIn rfl ⟨Nat.le_of_ble_eq_true rfl, Nat.le_of_ble_eq_true rfl⟩ ⟨Nat.zero_le _, Nat.zero_le _⟩ rfl (Nat.le_of_ble_eq_true rfl) dX8_isNoSection_11 (fun v6 σ7 => ?_)
  show Wo _ _ _ _ _ _ _ _ _ _ [.int v6]
  refine r_if_ne hC 21 dX8_isNoSection_14 (by decide) ?_ ?_
  · refine r_iconst hC (0) rfl dX8_isNoSection_21 ?_
    refine Wo.sub [] rfl ?_
    exact t_X8_isNoSection_22 hC 0 σ7
  · refine r_iconst hC (1) rfl dX8_isNoSection_17 ?_
    refine r_goto hC 22 dX8_isNoSection_18 (by decide) ?_
    refine Wo.sub [] rfl ?_
    exact t_X8_isNoSection_22 hC 1 σ7

set_option maxRecDepth 100000 in
set_option maxHeartbeats 4000000 in
theorem ct_X8_isNoSection {l : Launch} (hl : l.stackTraces = false) (G : Glb) (a0 : Nat) (p0 : Int32) (σ : Mem) : Ct rvI l yX8_isNoSection (Cond.code yX8_isNoSection cX8_isNoSection 2 (some .boolean) :: uW) { frames := 1, cells := 0, slots := 0, locals := 22 } 0 0 G [.ref a0, .int p0] σ (f_X8_isNoSection a0 p0 σ) := by
  refine Ct.of hl (by decide +kernel) (Nat.le_of_ble_eq_true rfl) (fun C hC hin => ?_)
  have e : lv_args 0 [.ref a0, .int p0] = [(0, .ref a0), (1, .int p0)] := rfl
  rw [e]
  exact t_X8_isNoSection_0 hC a0 p0 σ

noncomputable def b_X8_isNoLot_22 (y22_0 : Int32) (σ : Mem) : Option ((Int32) × Mem) :=
bo y22_0 (some (y22_0, σ))

noncomputable def b_X8_isNoLot_0 (a0 : Nat) (p0 : Int32) (σ : Mem) : Option ((Int32) × Mem) :=
gR 10 7 σ (some a0) fun r1 =>
ob 1 σ r1 fun h4 => cl1 (f_Jx4a65c_size_8abf5 h4 σ) fun v2 σ3 =>
nm (v2 - 1) fun v5 =>
cl1 (f_X8_isIn p0 0 v5 σ3) fun v6 σ7 =>
if v6 = 0 then
b_X8_isNoLot_22 1 σ7
else
b_X8_isNoLot_22 0 σ7

noncomputable def f_X8_isNoLot (a0 : Nat) (p0 : Int32) (σ : Mem) : Option ((Int32) × Mem) := b_X8_isNoLot_0 a0 p0 σ
set_option maxRecDepth 100000 in
set_option maxHeartbeats 4000000 in
theorem t_X8_isNoLot_22 {C : Cxt} {G : Glb} (hC : CX C G RX8 cX8_isNoLot 2 (some .boolean) 1 0 0 22) (y22_0 : Int32) (σ : Mem) : Wo C G 2 (QP C G rvI 0 0) (b_X8_isNoLot_22  y22_0 σ) σ 0 0 22 [] [.int y22_0] := by
  unfold b_X8_isNoLot_22
  exact e_B hC ⟨Nat.zero_le _, Nat.zero_le _⟩ dX8_isNoLot_22

set_option maxRecDepth 100000 in
set_option maxHeartbeats 4000000 in
theorem t_X8_isNoLot_0 {C : Cxt} {G : Glb} (hC : CX C G RX8 cX8_isNoLot 2 (some .boolean) 1 0 0 22) (a0 : Nat) (p0 : Int32) (σ : Mem) : Wo C G 2 (QP C G rvI 0 0) (b_X8_isNoLot_0  a0 p0 σ) σ 0 0 0 [(0, va_rf (some a0)), (1, .int p0)] [] := by
  unfold b_X8_isNoLot_0
  refine r_iloadn hC 1 rfl rfl dX8_isNoLot_0 ?_
  refine r_iconst hC (0) rfl dX8_isNoLot_1 ?_
  refine r_aloadn hC 0 (r := (some a0)) rfl rfl dX8_isNoLot_2 ?_
  refine r_gR hC (k := 7) (r := (some a0)) cls_10 (by decide) rfl q_847 (Or.inl rfl) dX8_isNoLot_3 (fun r1 => ?_)
  refine call_V hC (av := []) (st := [.int 0, .int p0]) (r := r1) (ci := 1) rfl rfl (fun h9 => ct_Jx4a65c_size_8abf5 hC.hl G h9 σ) q_890 q_891 q_892 q_47 q_893 yd_Jx4a65c_size_8abf5 rfl ⟨Nat.le_of_ble_eq_true rfl, Nat.le_of_ble_eq_true rfl⟩ ⟨Nat.zero_le _, Nat.zero_le _⟩ rfl (by simp [cat_rf, cat_i, cat_j, cat_d, cat_a]) dX8_isNoLot_6 (fun v2 σ3 => ?_)
  show Wo _ _ _ _ _ _ _ _ _ _ [.int v2, .int 0, .int p0]
  refine r_iconst hC (1) rfl dX8_isNoLot_9 ?_
  refine r_isub hC dX8_isNoLot_10 (fun v5 => ?_)
  refine call_S hC (av := [.int p0, .int 0, .int v5]) (st := []) (ct_X8_isIn hC.hl G p0 0 v5 σ3) q_879 q_880 q_44 q_881 yd_X8_isIn rfl ⟨Nat.le_of_ble_eq_true rfl, Nat.le_of_ble_eq_true rfl⟩ ⟨Nat.zero_le _, Nat.zero_le _⟩ rfl (Nat.le_of_ble_eq_true rfl) dX8_isNoLot_11 (fun v6 σ7 => ?_)
  show Wo _ _ _ _ _ _ _ _ _ _ [.int v6]
  refine r_if_ne hC 21 dX8_isNoLot_14 (by decide) ?_ ?_
  · refine r_iconst hC (0) rfl dX8_isNoLot_21 ?_
    refine Wo.sub [] rfl ?_
    exact t_X8_isNoLot_22 hC 0 σ7
  · refine r_iconst hC (1) rfl dX8_isNoLot_17 ?_
    refine r_goto hC 22 dX8_isNoLot_18 (by decide) ?_
    refine Wo.sub [] rfl ?_
    exact t_X8_isNoLot_22 hC 1 σ7

set_option maxRecDepth 100000 in
set_option maxHeartbeats 4000000 in
theorem ct_X8_isNoLot {l : Launch} (hl : l.stackTraces = false) (G : Glb) (a0 : Nat) (p0 : Int32) (σ : Mem) : Ct rvI l yX8_isNoLot (Cond.code yX8_isNoLot cX8_isNoLot 2 (some .boolean) :: uW) { frames := 1, cells := 0, slots := 0, locals := 22 } 0 0 G [.ref a0, .int p0] σ (f_X8_isNoLot a0 p0 σ) := by
  refine Ct.of hl (by decide +kernel) (Nat.le_of_ble_eq_true rfl) (fun C hC hin => ?_)
  have e : lv_args 0 [.ref a0, .int p0] = [(0, .ref a0), (1, .int p0)] := rfl
  rw [e]
  exact t_X8_isNoLot_0 hC a0 p0 σ

noncomputable def b_X8_isState_23 (y23_0 : Int32) (σ : Mem) : Option ((Int32) × Mem) :=
bo y23_0 (some (y23_0, σ))

noncomputable def b_X8_isState_0 (a0 : Nat) (p0 : Int32) (p1 : Int32) (σ : Mem) : Option ((Int32) × Mem) :=
gR 10 7 σ (some a0) fun r1 =>
ob 1 σ r1 fun h4 => cl1 (f_Jx4a65c_get_915e3 h4 p0 σ) fun r2 σ3 =>
ck 8 σ3 r2 <|
gI 7 0 σ3 r2 fun v5 =>
if v5 = p1 then
b_X8_isState_23 1 σ3
else
b_X8_isState_23 0 σ3

noncomputable def f_X8_isState (a0 : Nat) (p0 : Int32) (p1 : Int32) (σ : Mem) : Option ((Int32) × Mem) := b_X8_isState_0 a0 p0 p1 σ
set_option maxRecDepth 100000 in
set_option maxHeartbeats 4000000 in
theorem t_X8_isState_23 {C : Cxt} {G : Glb} (hC : CX C G RX8 cX8_isState 3 (some .boolean) 3 0 0 64) (y23_0 : Int32) (σ : Mem) : Wo C G 3 (QP C G rvI 0 0) (b_X8_isState_23  y23_0 σ) σ 0 0 23 [] [.int y23_0] := by
  unfold b_X8_isState_23
  exact e_B hC ⟨Nat.zero_le _, Nat.zero_le _⟩ dX8_isState_23

set_option maxRecDepth 100000 in
set_option maxHeartbeats 4000000 in
theorem t_X8_isState_0 {C : Cxt} {G : Glb} (hC : CX C G RX8 cX8_isState 3 (some .boolean) 3 0 0 64) (a0 : Nat) (p0 : Int32) (p1 : Int32) (σ : Mem) : Wo C G 3 (QP C G rvI 0 0) (b_X8_isState_0  a0 p0 p1 σ) σ 0 0 0 [(0, va_rf (some a0)), (1, .int p0), (2, .int p1)] [] := by
  unfold b_X8_isState_0
  refine r_aloadn hC 0 (r := (some a0)) rfl rfl dX8_isState_0 ?_
  refine r_gR hC (k := 7) (r := (some a0)) cls_10 (by decide) rfl q_847 (Or.inl rfl) dX8_isState_1 (fun r1 => ?_)
  refine r_iloadn hC 1 rfl rfl dX8_isState_4 ?_
  refine call_V hC (av := [.int p0]) (st := []) (r := r1) (ci := 1) rfl rfl (fun h9 => ct_Jx4a65c_get_915e3 hC.hl G h9 p0 σ) q_1057 q_1058 q_1059 q_47 q_1060 yd_Jx4a65c_get_915e3 rfl ⟨Nat.le_of_ble_eq_true rfl, Nat.le_of_ble_eq_true rfl⟩ ⟨Nat.zero_le _, Nat.zero_le _⟩ rfl (Nat.le_of_ble_eq_true rfl) dX8_isState_5 (fun r2 σ3 => ?_)
  show Wo _ _ _ _ _ _ _ _ _ _ [va_rf r2]
  refine r_ckO hC (r := r2) cls_7 q_1087 dX8_isState_8 ?_
  refine r_gI hC (k := 0) (r := r2) cls_7 (by decide) rfl q_1096 (Or.inl rfl) dX8_isState_11 (fun v5 => ?_)
  refine r_iloadn hC 2 rfl rfl dX8_isState_14 ?_
  refine r_icmp_ne hC 22 dX8_isState_15 (by decide) ?_ ?_
  · refine r_iconst hC (0) rfl dX8_isState_22 ?_
    refine Wo.sub [] rfl ?_
    exact t_X8_isState_23 hC 0 σ3
  · refine r_iconst hC (1) rfl dX8_isState_18 ?_
    refine r_goto hC 23 dX8_isState_19 (by decide) ?_
    refine Wo.sub [] rfl ?_
    exact t_X8_isState_23 hC 1 σ3

set_option maxRecDepth 100000 in
set_option maxHeartbeats 4000000 in
theorem ct_X8_isState {l : Launch} (hl : l.stackTraces = false) (G : Glb) (a0 : Nat) (p0 : Int32) (p1 : Int32) (σ : Mem) : Ct rvI l yX8_isState (Cond.code yX8_isState cX8_isState 3 (some .boolean) :: uW) { frames := 3, cells := 0, slots := 0, locals := 64 } 0 0 G [.ref a0, .int p0, .int p1] σ (f_X8_isState a0 p0 p1 σ) := by
  refine Ct.of hl (by decide +kernel) (Nat.le_of_ble_eq_true rfl) (fun C hC hin => ?_)
  have e : lv_args 0 [.ref a0, .int p0, .int p1] = [(0, .ref a0), (1, .int p0), (2, .int p1)] := rfl
  rw [e]
  exact t_X8_isState_0 hC a0 p0 p1 σ

noncomputable def b_X8_section_56 (e0 mi : Nat) (σ : Mem) : Option ((Int32) × Mem) :=
some (0, σ)

noncomputable def b_X8_section_49 (e0 mi : Nat) (a0 : Nat) (x49_1 : Int32) (x49_2 : Int32) (y49_0 : Int32) (y49_1 : (Option Nat)) (σ : Mem) : Option ((Int32) × Mem) :=
ob 10 σ y49_1 fun h12 => cl1 (f_X8_refuse h12 y49_0 2 σ) fun v10 σ11 =>
if v10 = 0 then
gR 10 6 σ11 (some a0) fun r13 =>
nO 8 σ11 fun σ14 r15 =>
ob 8 σ14 r15 fun h18 => cl1 (f_X6_init h18 x49_1 x49_2 σ14) fun _ σ17 =>
ob 1 σ17 r13 fun h21 => cl1 (f_Jx4a65c_add_9ea2d e0 mi h21 r15 σ17) fun v19 σ20 =>
gR 10 6 σ20 (some a0) fun r22 =>
ob 1 σ20 r22 fun h25 => cl1 (f_Jx4a65c_size_8abf5 h25 σ20) fun v23 σ24 =>
nm (v23 - 1) fun v26 =>
some (v26, σ24)
else
b_X8_section_56 e0 mi σ11

noncomputable def b_X8_section_25 (e0 mi : Nat) (a0 : Nat) (x25_1 : Int32) (x25_2 : Int32) (y25_0 : Int32) (y25_1 : (Option Nat)) (σ : Mem) : Option ((Int32) × Mem) :=
ob 10 σ y25_1 fun h5 => cl1 (f_X8_start h5 y25_0 1 σ) fun v3 σ4 =>
if v3 = 0 then
gR 10 6 σ4 (some a0) fun r6 =>
ob 1 σ4 r6 fun h9 => cl1 (f_Jx4a65c_size_8abf5 h9 σ4) fun v7 σ8 =>
if v7 = 4 then
b_X8_section_49 e0 mi a0 x25_1 x25_2 1 (some a0) σ8
else
b_X8_section_49 e0 mi a0 x25_1 x25_2 0 (some a0) σ8
else
b_X8_section_56 e0 mi σ4

noncomputable def b_X8_section_20 (e0 mi : Nat) (a0 : Nat) (x20_1 : Int32) (x20_2 : Int32) (y20_0 : (Option Nat)) (σ : Mem) : Option ((Int32) × Mem) :=
b_X8_section_25 e0 mi a0 x20_1 x20_2 1 y20_0 σ

noncomputable def b_X8_section_0 (e0 mi : Nat) (a0 : Nat) (p0 : Int32) (p1 : Int32) (σ : Mem) : Option ((Int32) × Mem) :=
cl1 (f_X8_isIn p0 1 9 σ) fun v1 σ2 =>
if v1 = 0 then
b_X8_section_20 e0 mi a0 p0 p1 (some a0) σ2
else
cl1 (f_X8_isIn p1 0 2 σ2) fun v27 σ28 =>
if v27 = 0 then
b_X8_section_20 e0 mi a0 p0 p1 (some a0) σ28
else
b_X8_section_25 e0 mi a0 p0 p1 0 (some a0) σ28

noncomputable def f_X8_section (e0 mi : Nat) (a0 : Nat) (p0 : Int32) (p1 : Int32) (σ : Mem) : Option ((Int32) × Mem) := b_X8_section_0 e0 mi a0 p0 p1 σ
set_option maxRecDepth 100000 in
set_option maxHeartbeats 4000000 in
theorem t_X8_section_56 {C : Cxt} {G : Glb} (hC : CX C G RX8 cX8_section 3 (some .int) 7 3 34 149) (σ : Mem) (kc ks : Nat) (hN : kc + 0 ≤ 3 ∧ ks + 0 ≤ 34) : Wo C G 3 (QP C G rvI 3 34) (b_X8_section_56 G.2.2.2.1 G.2.2.2.2   σ) σ kc ks 56 [] [] := by
  unfold b_X8_section_56
  refine r_iconst hC (0) rfl dX8_section_56 ?_
  exact e_I hC ⟨by omega, by omega⟩ dX8_section_57

set_option maxRecDepth 100000 in
set_option maxHeartbeats 4000000 in
theorem t_X8_section_49 {C : Cxt} {G : Glb} (hC : CX C G RX8 cX8_section 3 (some .int) 7 3 34 149) (a0 : Nat) (x49_1 : Int32) (x49_2 : Int32) (y49_0 : Int32) (y49_1 : (Option Nat)) (σ : Mem) (kc ks : Nat) (hN : kc + 3 ≤ 3 ∧ ks + 34 ≤ 34) : Wo C G 3 (QP C G rvI 3 34) (b_X8_section_49 G.2.2.2.1 G.2.2.2.2  a0 x49_1 x49_2 y49_0 y49_1 σ) σ kc ks 49 [(0, va_rf (some a0)), (1, .int x49_1), (2, .int x49_2)] [.int y49_0, va_rf y49_1] := by
  unfold b_X8_section_49
  refine r_iconst hC (2) rfl dX8_section_49 ?_
  refine call_V hC (av := [.int y49_0, .int 2]) (st := []) (r := y49_1) (ci := 10) rfl rfl (fun h9 => ct_X8_refuse hC.hl G h9 y49_0 2 σ) q_886 q_888 q_13 q_44 q_889 yd_X8_refuse rfl ⟨Nat.le_of_ble_eq_true rfl, Nat.le_of_ble_eq_true rfl⟩ ⟨by omega, by omega⟩ rfl (Nat.le_of_ble_eq_true rfl) dX8_section_50 (fun v10 σ11 => ?_)
  show Wo _ _ _ _ _ _ _ _ _ _ [.int v10]
  refine r_if_eq hC 58 dX8_section_53 (by decide) ?_ ?_
  · refine r_aloadn hC 0 (r := (some a0)) rfl rfl dX8_section_58 ?_
    refine r_gR hC (k := 6) (r := (some a0)) cls_10 (by decide) rfl q_846 (Or.inl rfl) dX8_section_59 (fun r13 => ?_)
    refine r_nO hC cls_8 q_894 q_895 q_54 ⟨by omega, by omega⟩ dX8_section_62 (fun σ14 r15 => ?_)
    refine r_dup hC (cat_rf _) dX8_section_65 ?_
    refine r_iloadn hC 1 rfl rfl dX8_section_66 ?_
    refine r_iloadn hC 2 rfl rfl dX8_section_67 ?_
    refine call_I hC (av := [.int x49_1, .int x49_2]) (st := [va_rf r15, va_rf r13]) (r := r15) (ci := 8) (fun h9 => ct_X6_init hC.hl G h9 x49_1 x49_2 σ14) q_896 q_897 q_54 q_898 rfl yd_X6_init rfl ⟨Nat.le_of_ble_eq_true rfl, Nat.le_of_ble_eq_true rfl⟩ ⟨by omega, by omega⟩ rfl (by simp [cat_rf, cat_i, cat_j, cat_d, cat_a]) dX8_section_68 (fun σ17 => ?_)
    refine call_V hC (av := [va_rf r15]) (st := []) (r := r13) (ci := 1) rfl rfl (fun h9 => ct_Jx4a65c_add_9ea2d hC.hl G h9 r15 σ17) q_929 q_930 q_931 q_47 q_932 yd_Jx4a65c_add_9ea2d rfl ⟨Nat.le_of_ble_eq_true rfl, Nat.le_of_ble_eq_true rfl⟩ ⟨by omega, by omega⟩ rfl (Nat.le_of_ble_eq_true rfl) dX8_section_71 (fun v19 σ20 => ?_)
    show Wo _ _ _ _ _ _ _ _ _ _ [.int v19]
    refine r_pop hC rfl dX8_section_74 ?_
    refine r_aloadn hC 0 (r := (some a0)) rfl rfl dX8_section_75 ?_
    refine r_gR hC (k := 6) (r := (some a0)) cls_10 (by decide) rfl q_846 (Or.inl rfl) dX8_section_76 (fun r22 => ?_)
    refine call_V hC (av := []) (st := []) (r := r22) (ci := 1) rfl rfl (fun h9 => ct_Jx4a65c_size_8abf5 hC.hl G h9 σ20) q_890 q_891 q_892 q_47 q_893 yd_Jx4a65c_size_8abf5 rfl ⟨Nat.le_of_ble_eq_true rfl, Nat.le_of_ble_eq_true rfl⟩ ⟨by omega, by omega⟩ rfl (Nat.le_of_ble_eq_true rfl) dX8_section_79 (fun v23 σ24 => ?_)
    show Wo _ _ _ _ _ _ _ _ _ _ [.int v23]
    refine r_iconst hC (1) rfl dX8_section_82 ?_
    refine r_isub hC dX8_section_83 (fun v26 => ?_)
    exact e_I hC ⟨by omega, by omega⟩ dX8_section_84
  · refine Wo.sub [] rfl ?_
    exact t_X8_section_56 hC  σ11 _ _ ⟨by omega, by omega⟩

set_option maxRecDepth 100000 in
set_option maxHeartbeats 4000000 in
theorem t_X8_section_25 {C : Cxt} {G : Glb} (hC : CX C G RX8 cX8_section 3 (some .int) 7 3 34 149) (a0 : Nat) (x25_1 : Int32) (x25_2 : Int32) (y25_0 : Int32) (y25_1 : (Option Nat)) (σ : Mem) (kc ks : Nat) (hN : kc + 3 ≤ 3 ∧ ks + 34 ≤ 34) : Wo C G 3 (QP C G rvI 3 34) (b_X8_section_25 G.2.2.2.1 G.2.2.2.2  a0 x25_1 x25_2 y25_0 y25_1 σ) σ kc ks 25 [(0, va_rf (some a0)), (1, .int x25_1), (2, .int x25_2)] [.int y25_0, va_rf y25_1] := by
  unfold b_X8_section_25
  refine r_iconst hC (1) rfl dX8_section_25 ?_
  refine call_V hC (av := [.int y25_0, .int 1]) (st := []) (r := y25_1) (ci := 10) rfl rfl (fun h9 => ct_X8_start hC.hl G h9 y25_0 1 σ) q_882 q_884 q_12 q_44 q_885 yd_X8_start rfl ⟨Nat.le_of_ble_eq_true rfl, Nat.le_of_ble_eq_true rfl⟩ ⟨by omega, by omega⟩ rfl (Nat.le_of_ble_eq_true rfl) dX8_section_26 (fun v3 σ4 => ?_)
  show Wo _ _ _ _ _ _ _ _ _ _ [.int v3]
  refine r_if_ne hC 56 dX8_section_29 (by decide) ?_ ?_
  · refine Wo.sub [] rfl ?_
    exact t_X8_section_56 hC  σ4 _ _ ⟨by omega, by omega⟩
  · refine r_aloadn hC 0 (r := (some a0)) rfl rfl dX8_section_32 ?_
    refine r_aloadn hC 0 (r := (some a0)) rfl rfl dX8_section_33 ?_
    refine r_gR hC (k := 6) (r := (some a0)) cls_10 (by decide) rfl q_846 (Or.inl rfl) dX8_section_34 (fun r6 => ?_)
    refine call_V hC (av := []) (st := [va_rf (some a0)]) (r := r6) (ci := 1) rfl rfl (fun h9 => ct_Jx4a65c_size_8abf5 hC.hl G h9 σ4) q_890 q_891 q_892 q_47 q_893 yd_Jx4a65c_size_8abf5 rfl ⟨Nat.le_of_ble_eq_true rfl, Nat.le_of_ble_eq_true rfl⟩ ⟨by omega, by omega⟩ rfl (by simp [cat_rf, cat_i, cat_j, cat_d, cat_a]) dX8_section_37 (fun v7 σ8 => ?_)
    show Wo _ _ _ _ _ _ _ _ _ _ [.int v7, va_rf (some a0)]
    refine r_iconst hC (4) rfl dX8_section_40 ?_
    refine r_icmp_ne hC 48 dX8_section_41 (by decide) ?_ ?_
    · refine r_iconst hC (0) rfl dX8_section_48 ?_
      exact t_X8_section_49 hC a0 x25_1 x25_2 0 (some a0) σ8 _ _ ⟨by omega, by omega⟩
    · refine r_iconst hC (1) rfl dX8_section_44 ?_
      refine r_goto hC 49 dX8_section_45 (by decide) ?_
      exact t_X8_section_49 hC a0 x25_1 x25_2 1 (some a0) σ8 _ _ ⟨by omega, by omega⟩

set_option maxRecDepth 100000 in
set_option maxHeartbeats 4000000 in
theorem t_X8_section_20 {C : Cxt} {G : Glb} (hC : CX C G RX8 cX8_section 3 (some .int) 7 3 34 149) (a0 : Nat) (x20_1 : Int32) (x20_2 : Int32) (y20_0 : (Option Nat)) (σ : Mem) (kc ks : Nat) (hN : kc + 3 ≤ 3 ∧ ks + 34 ≤ 34) : Wo C G 3 (QP C G rvI 3 34) (b_X8_section_20 G.2.2.2.1 G.2.2.2.2  a0 x20_1 x20_2 y20_0 σ) σ kc ks 20 [(0, va_rf (some a0)), (1, .int x20_1), (2, .int x20_2)] [va_rf y20_0] := by
  unfold b_X8_section_20
  refine r_iconst hC (1) rfl dX8_section_20 ?_
  refine r_goto hC 25 dX8_section_21 (by decide) ?_
  exact t_X8_section_25 hC a0 x20_1 x20_2 1 y20_0 σ _ _ ⟨by omega, by omega⟩

set_option maxRecDepth 100000 in
set_option maxHeartbeats 4000000 in
theorem t_X8_section_0 {C : Cxt} {G : Glb} (hC : CX C G RX8 cX8_section 3 (some .int) 7 3 34 149) (a0 : Nat) (p0 : Int32) (p1 : Int32) (σ : Mem) (kc ks : Nat) (hN : kc + 3 ≤ 3 ∧ ks + 34 ≤ 34) : Wo C G 3 (QP C G rvI 3 34) (b_X8_section_0 G.2.2.2.1 G.2.2.2.2  a0 p0 p1 σ) σ kc ks 0 [(0, va_rf (some a0)), (1, .int p0), (2, .int p1)] [] := by
  unfold b_X8_section_0
  refine r_aloadn hC 0 (r := (some a0)) rfl rfl dX8_section_0 ?_
  refine r_iloadn hC 1 rfl rfl dX8_section_1 ?_
  refine r_iconst hC (1) rfl dX8_section_2 ?_
  refine r_bipush hC (9) (by decide) dX8_section_3 ?_
  refine call_S hC (av := [.int p0, .int 1, .int 9]) (st := [va_rf (some a0)]) (ct_X8_isIn hC.hl G p0 1 9 σ) q_879 q_880 q_44 q_881 yd_X8_isIn rfl ⟨Nat.le_of_ble_eq_true rfl, Nat.le_of_ble_eq_true rfl⟩ ⟨by omega, by omega⟩ rfl (by simp [cat_rf, cat_i, cat_j, cat_d, cat_a]) dX8_section_5 (fun v1 σ2 => ?_)
  show Wo _ _ _ _ _ _ _ _ _ _ [.int v1, va_rf (some a0)]
  refine r_if_eq hC 20 dX8_section_8 (by decide) ?_ ?_
  · exact t_X8_section_20 hC a0 p0 p1 (some a0) σ2 _ _ ⟨by omega, by omega⟩
  · refine r_iloadn hC 2 rfl rfl dX8_section_11 ?_
    refine r_iconst hC (0) rfl dX8_section_12 ?_
    refine r_iconst hC (2) rfl dX8_section_13 ?_
    refine call_S hC (av := [.int p1, .int 0, .int 2]) (st := [va_rf (some a0)]) (ct_X8_isIn hC.hl G p1 0 2 σ2) q_879 q_880 q_44 q_881 yd_X8_isIn rfl ⟨Nat.le_of_ble_eq_true rfl, Nat.le_of_ble_eq_true rfl⟩ ⟨by omega, by omega⟩ rfl (by simp [cat_rf, cat_i, cat_j, cat_d, cat_a]) dX8_section_14 (fun v27 σ28 => ?_)
    show Wo _ _ _ _ _ _ _ _ _ _ [.int v27, va_rf (some a0)]
    refine r_if_ne hC 24 dX8_section_17 (by decide) ?_ ?_
    · refine r_iconst hC (0) rfl dX8_section_24 ?_
      exact t_X8_section_25 hC a0 p0 p1 0 (some a0) σ28 _ _ ⟨by omega, by omega⟩
    · exact t_X8_section_20 hC a0 p0 p1 (some a0) σ28 _ _ ⟨by omega, by omega⟩

set_option maxRecDepth 100000 in
set_option maxHeartbeats 4000000 in
theorem ct_X8_section {l : Launch} (hl : l.stackTraces = false) (G : Glb) (a0 : Nat) (p0 : Int32) (p1 : Int32) (σ : Mem) : Ct rvI l yX8_section (Cond.code yX8_section cX8_section 3 (some .int) :: uW) { frames := 7, cells := 3, slots := 34, locals := 149 } 3 34 G [.ref a0, .int p0, .int p1] σ (f_X8_section G.2.2.2.1 G.2.2.2.2 a0 p0 p1 σ) := by
  refine Ct.of hl (by decide +kernel) (Nat.le_of_ble_eq_true rfl) (fun C hC hin => ?_)
  have e : lv_args 0 [.ref a0, .int p0, .int p1] = [(0, .ref a0), (1, .int p0), (2, .int p1)] := rfl
  rw [e]
  exact t_X8_section_0 hC a0 p0 p1 σ 0 0 ⟨Nat.le_of_ble_eq_true rfl, Nat.le_of_ble_eq_true rfl⟩

noncomputable def b_X8_isNoWeather_25 (y25_0 : Int32) (σ : Mem) : Option ((Int32) × Mem) :=
bo y25_0 (some (y25_0, σ))

noncomputable def b_X8_isNoWeather_20 (σ : Mem) : Option ((Int32) × Mem) :=
b_X8_isNoWeather_25 1 σ

noncomputable def b_X8_isNoWeather_0 (p0 : Int32) (p1 : Int32) (σ : Mem) : Option ((Int32) × Mem) :=
cl1 (f_X8_isIn p0 0 6 σ) fun v1 σ2 =>
if v1 = 0 then
b_X8_isNoWeather_20 σ2
else
cl1 (f_X8_isIn p1 0 6 σ2) fun v3 σ4 =>
if v3 = 0 then
b_X8_isNoWeather_20 σ4
else
b_X8_isNoWeather_25 0 σ4

noncomputable def f_X8_isNoWeather (p0 : Int32) (p1 : Int32) (σ : Mem) : Option ((Int32) × Mem) := b_X8_isNoWeather_0 p0 p1 σ
set_option maxRecDepth 100000 in
set_option maxHeartbeats 4000000 in
theorem t_X8_isNoWeather_25 {C : Cxt} {G : Glb} (hC : CX C G RX8 cX8_isNoWeather 2 (some .boolean) 1 0 0 22) (y25_0 : Int32) (σ : Mem) : Wo C G 2 (QP C G rvI 0 0) (b_X8_isNoWeather_25  y25_0 σ) σ 0 0 25 [] [.int y25_0] := by
  unfold b_X8_isNoWeather_25
  exact e_B hC ⟨Nat.zero_le _, Nat.zero_le _⟩ dX8_isNoWeather_25

set_option maxRecDepth 100000 in
set_option maxHeartbeats 4000000 in
theorem t_X8_isNoWeather_20 {C : Cxt} {G : Glb} (hC : CX C G RX8 cX8_isNoWeather 2 (some .boolean) 1 0 0 22) (σ : Mem) : Wo C G 2 (QP C G rvI 0 0) (b_X8_isNoWeather_20   σ) σ 0 0 20 [] [] := by
  unfold b_X8_isNoWeather_20
  refine r_iconst hC (1) rfl dX8_isNoWeather_20 ?_
  refine r_goto hC 25 dX8_isNoWeather_21 (by decide) ?_
  exact t_X8_isNoWeather_25 hC 1 σ

set_option maxRecDepth 100000 in
set_option maxHeartbeats 4000000 in
theorem t_X8_isNoWeather_0 {C : Cxt} {G : Glb} (hC : CX C G RX8 cX8_isNoWeather 2 (some .boolean) 1 0 0 22) (p0 : Int32) (p1 : Int32) (σ : Mem) : Wo C G 2 (QP C G rvI 0 0) (b_X8_isNoWeather_0  p0 p1 σ) σ 0 0 0 [(0, .int p0), (1, .int p1)] [] := by
  unfold b_X8_isNoWeather_0
  refine r_iloadn hC 0 rfl rfl dX8_isNoWeather_0 ?_
  refine r_iconst hC (0) rfl dX8_isNoWeather_1 ?_
  refine r_bipush hC (6) (by decide) dX8_isNoWeather_2 ?_
  refine call_S hC (av := [.int p0, .int 0, .int 6]) (st := []) (ct_X8_isIn hC.hl G p0 0 6 σ) q_879 q_880 q_44 q_881 yd_X8_isIn rfl ⟨Nat.le_of_ble_eq_true rfl, Nat.le_of_ble_eq_true rfl⟩ ⟨Nat.zero_le _, Nat.zero_le _⟩ rfl (Nat.le_of_ble_eq_true rfl) dX8_isNoWeather_4 (fun v1 σ2 => ?_)
  show Wo _ _ _ _ _ _ _ _ _ _ [.int v1]
  refine r_if_eq hC 20 dX8_isNoWeather_7 (by decide) ?_ ?_
  · refine Wo.sub [] rfl ?_
    exact t_X8_isNoWeather_20 hC  σ2
  · refine r_iloadn hC 1 rfl rfl dX8_isNoWeather_10 ?_
    refine r_iconst hC (0) rfl dX8_isNoWeather_11 ?_
    refine r_bipush hC (6) (by decide) dX8_isNoWeather_12 ?_
    refine call_S hC (av := [.int p1, .int 0, .int 6]) (st := []) (ct_X8_isIn hC.hl G p1 0 6 σ2) q_879 q_880 q_44 q_881 yd_X8_isIn rfl ⟨Nat.le_of_ble_eq_true rfl, Nat.le_of_ble_eq_true rfl⟩ ⟨Nat.zero_le _, Nat.zero_le _⟩ rfl (Nat.le_of_ble_eq_true rfl) dX8_isNoWeather_14 (fun v3 σ4 => ?_)
    show Wo _ _ _ _ _ _ _ _ _ _ [.int v3]
    refine r_if_ne hC 24 dX8_isNoWeather_17 (by decide) ?_ ?_
    · refine r_iconst hC (0) rfl dX8_isNoWeather_24 ?_
      refine Wo.sub [] rfl ?_
      exact t_X8_isNoWeather_25 hC 0 σ4
    · refine Wo.sub [] rfl ?_
      exact t_X8_isNoWeather_20 hC  σ4

set_option maxRecDepth 100000 in
set_option maxHeartbeats 4000000 in
theorem ct_X8_isNoWeather {l : Launch} (hl : l.stackTraces = false) (G : Glb) (p0 : Int32) (p1 : Int32) (σ : Mem) : Ct rvI l yX8_isNoWeather (Cond.code yX8_isNoWeather cX8_isNoWeather 2 (some .boolean) :: uW) { frames := 1, cells := 0, slots := 0, locals := 22 } 0 0 G [.int p0, .int p1] σ (f_X8_isNoWeather p0 p1 σ) := by
  refine Ct.of hl (by decide +kernel) (Nat.le_of_ble_eq_true rfl) (fun C hC hin => ?_)
  have e : lv_args 0 [.int p0, .int p1] = [(0, .int p0), (1, .int p1)] := rfl
  rw [e]
  exact t_X8_isNoWeather_0 hC p0 p1 σ

noncomputable def b_X8_pass_54 (e0 mi : Nat) (k39 : Nat → Int32 → Int32 → Int32 → Int32 → Int32 → Mem → Option ((Int32) × Mem)) (k54 : Nat → Int32 → Int32 → Int32 → Int32 → Int32 → (Option Nat) → Mem → Option ((Int32) × Mem)) (a0 : Nat) (x54_1 : Int32) (x54_2 : Int32) (x54_3 : Int32) (x54_4 : Int32) (x54_5 : Int32) (x54_6 : (Option Nat)) (σ : Mem) : Option ((Int32) × Mem) :=
ob 0 σ x54_6 fun h15 => cl1 (f_Jx35411_hasNext_aae02 h15 σ) fun v13 σ14 =>
if v13 = 0 then
nm (x54_5 + 1) fun v16 =>
k39 a0 x54_1 x54_2 x54_3 x54_4 v16 σ14
else
ob 0 σ14 x54_6 fun h19 => cl1 (f_Jx35411_next_0502b e0 mi h19 σ14) fun r17 σ18 =>
ck 9 σ18 r17 <|
ob 8 σ18 r17 fun h22 => cl1 (f_X6_day h22 x54_1 x54_2 σ18) fun v20 σ21 =>
nm (x54_4 + v20) fun v23 =>
k54 a0 x54_1 x54_2 x54_3 v23 x54_5 x54_6 σ21

noncomputable def l_X8_pass_54 (e0 mi : Nat) (k39 : Nat → Int32 → Int32 → Int32 → Int32 → Int32 → Mem → Option ((Int32) × Mem)) (n : Nat) : Nat → Int32 → Int32 → Int32 → Int32 → Int32 → (Option Nat) → Mem → Option ((Int32) × Mem) := itr (fun _ _ _ _ _ _ _ _ => none) (fun k => b_X8_pass_54 e0 mi k39 k) n

noncomputable def b_X8_pass_39 (e0 mi : Nat) (k39 : Nat → Int32 → Int32 → Int32 → Int32 → Int32 → Mem → Option ((Int32) × Mem)) (a0 : Nat) (x39_1 : Int32) (x39_2 : Int32) (x39_3 : Int32) (x39_4 : Int32) (x39_5 : Int32) (σ : Mem) : Option ((Int32) × Mem) :=
if x39_3 ≤ x39_5 then
gI 10 1 σ (some a0) fun v6 =>
nm (v6 + x39_3) fun v7 =>
pI 10 1 σ (some a0) v7 fun σ8 =>
some (x39_4, σ8)
else
gR 10 6 σ (some a0) fun r9 =>
ob 1 σ r9 fun h12 => cl1 (f_Jx4a65c_iterator_32c93 h12 σ) fun r10 σ11 =>
l_X8_pass_54 e0 mi k39 5 a0 x39_1 x39_2 x39_3 x39_4 x39_5 r10 σ11

noncomputable def l_X8_pass_39 (e0 mi : Nat) (n : Nat) : Nat → Int32 → Int32 → Int32 → Int32 → Int32 → Mem → Option ((Int32) × Mem) := itr (fun _ _ _ _ _ _ _ => none) (fun k => b_X8_pass_39 e0 mi  k) n

noncomputable def b_X8_pass_24 (e0 mi : Nat) (a0 : Nat) (x24_1 : Int32) (x24_2 : Int32) (x24_3 : Int32) (y24_0 : Int32) (y24_1 : (Option Nat)) (σ : Mem) : Option ((Int32) × Mem) :=
ob 10 σ y24_1 fun h5 => cl1 (f_X8_start h5 y24_0 1 σ) fun v3 σ4 =>
if v3 = 0 then
l_X8_pass_39 e0 mi 31 a0 x24_1 x24_2 x24_3 0 0 σ4
else
some (0, σ4)

noncomputable def b_X8_pass_19 (e0 mi : Nat) (a0 : Nat) (x19_1 : Int32) (x19_2 : Int32) (x19_3 : Int32) (y19_0 : (Option Nat)) (σ : Mem) : Option ((Int32) × Mem) :=
b_X8_pass_24 e0 mi a0 x19_1 x19_2 x19_3 1 y19_0 σ

noncomputable def b_X8_pass_0 (e0 mi : Nat) (a0 : Nat) (p0 : Int32) (p1 : Int32) (p2 : Int32) (σ : Mem) : Option ((Int32) × Mem) :=
cl1 (f_X8_isNoWeather p0 p1 σ) fun v1 σ2 =>
if v1 = 0 then
cl1 (f_X8_isIn p2 1 30 σ2) fun v24 σ25 =>
if v24 = 0 then
b_X8_pass_19 e0 mi a0 p0 p1 p2 (some a0) σ25
else
b_X8_pass_24 e0 mi a0 p0 p1 p2 0 (some a0) σ25
else
b_X8_pass_19 e0 mi a0 p0 p1 p2 (some a0) σ2

noncomputable def f_X8_pass (e0 mi : Nat) (a0 : Nat) (p0 : Int32) (p1 : Int32) (p2 : Int32) (σ : Mem) : Option ((Int32) × Mem) := b_X8_pass_0 e0 mi a0 p0 p1 p2 σ
set_option maxRecDepth 100000 in
set_option maxHeartbeats 4000000 in
theorem t_X8_pass_54 {C : Cxt} {G : Glb} (hC : CX C G RX8 cX8_pass 8 (some .int) 3 31 124 53) (P39 : Nat → Nat → Prop) (hm39 : ∀ a b a2 b2 : Nat, a ≤ a2 → b ≤ b2 → P39 a2 b2 → P39 a b) (k39 : Nat → Int32 → Int32 → Int32 → Int32 → Int32 → Mem → Option ((Int32) × Mem)) (hk39 : ∀ (a0 : Nat) (x39_1 : Int32) (x39_2 : Int32) (x39_3 : Int32) (x39_4 : Int32) (x39_5 : Int32) (σ : Mem) (kc ks : Nat), P39 kc ks → Wo C G 8 (QP C G rvI 31 124) (k39 a0 x39_1 x39_2 x39_3 x39_4 x39_5 σ) σ kc ks 39 [(0, va_rf (some a0)), (1, .int x39_1), (2, .int x39_2), (3, .int x39_3), (4, .int x39_4), (5, .int x39_5)] []) (P54 : Nat → Nat → Prop) (hm54 : ∀ a b a2 b2 : Nat, a ≤ a2 → b ≤ b2 → P54 a2 b2 → P54 a b) (k54 : Nat → Int32 → Int32 → Int32 → Int32 → Int32 → (Option Nat) → Mem → Option ((Int32) × Mem)) (hk54 : ∀ (a0 : Nat) (x54_1 : Int32) (x54_2 : Int32) (x54_3 : Int32) (x54_4 : Int32) (x54_5 : Int32) (x54_6 : (Option Nat)) (σ : Mem) (kc ks : Nat), P54 kc ks → Wo C G 8 (QP C G rvI 31 124) (k54 a0 x54_1 x54_2 x54_3 x54_4 x54_5 x54_6 σ) σ kc ks 54 [(0, va_rf (some a0)), (1, .int x54_1), (2, .int x54_2), (3, .int x54_3), (4, .int x54_4), (5, .int x54_5), (6, va_rf x54_6)] []) (a0 : Nat) (x54_1 : Int32) (x54_2 : Int32) (x54_3 : Int32) (x54_4 : Int32) (x54_5 : Int32) (x54_6 : (Option Nat)) (σ : Mem) (kc ks : Nat) (hN : kc + 0 ≤ 31 ∧ ks + 0 ≤ 124) (hP39 : P39 (kc + 0) (ks + 0)) (hP54 : P54 (kc + 0) (ks + 0)) : Wo C G 8 (QP C G rvI 31 124) (b_X8_pass_54 G.2.2.2.1 G.2.2.2.2 k39 k54 a0 x54_1 x54_2 x54_3 x54_4 x54_5 x54_6 σ) σ kc ks 54 [(0, va_rf (some a0)), (1, .int x54_1), (2, .int x54_2), (3, .int x54_3), (4, .int x54_4), (5, .int x54_5), (6, va_rf x54_6)] [] := by
  unfold b_X8_pass_54
  refine r_aload hC 6 (r := x54_6) rfl dX8_pass_54 ?_
  refine call_F hC (av := []) (st := []) (r := x54_6) (ci := 0) rfl hC.hK.1.2.2.2.1.1 (fun h9 => ct_Jx35411_hasNext_aae02 hC.hl G h9 σ) q_1017 q_1023 q_1021 q_59 q_1025 ydx_hasNext rfl ⟨Nat.le_of_ble_eq_true rfl, Nat.le_of_ble_eq_true rfl⟩ ⟨by omega, by omega⟩ rfl (Nat.le_of_ble_eq_true rfl) dX8_pass_56 (fun v13 σ14 => ?_)
  show Wo _ _ _ _ _ _ _ _ _ _ [.int v13]
  refine r_if_eq hC 91 dX8_pass_61 (by decide) ?_ ?_
  · refine r_iinc hC 5 (fun w => [(5, .int w), (0, va_rf (some a0)), (1, .int x54_1), (2, .int x54_2), (3, .int x54_3), (4, .int x54_4), (6, va_rf x54_6)]) 1 rfl (by decide) rfl (fun w => rfl) dX8_pass_91 (fun v16 => ?_)
    refine r_goto hC 39 dX8_pass_94 (by decide) ?_
    refine Wo.sub [1, 2, 3, 4, 5, 0] rfl ?_
    exact hk39 a0 x54_1 x54_2 x54_3 x54_4 v16 σ14 _ _ (hm39 _ _ _ _ (by omega) (by omega) hP39)
  · refine r_aload hC 6 (r := x54_6) rfl dX8_pass_64 ?_
    refine call_F hC (av := []) (st := []) (r := x54_6) (ci := 0) rfl hC.hK.1.2.2.2.1.2.1 (fun h9 => ct_Jx35411_next_0502b hC.hl G h9 σ14) q_1027 q_1032 q_1030 q_59 q_1034 ydx_next rfl ⟨Nat.le_of_ble_eq_true rfl, Nat.le_of_ble_eq_true rfl⟩ ⟨by omega, by omega⟩ rfl (Nat.le_of_ble_eq_true rfl) dX8_pass_66 (fun r17 σ18 => ?_)
    show Wo _ _ _ _ _ _ _ _ _ _ [va_rf r17]
    refine r_ckO hC (r := r17) cls_8 q_894 dX8_pass_71 ?_
    refine r_astore hC [(7, va_rf r17), (0, va_rf (some a0)), (1, .int x54_1), (2, .int x54_2), (3, .int x54_3), (4, .int x54_4), (5, .int x54_5), (6, va_rf x54_6)] (r := r17) (i := 7) (by decide) (by simp [List.filter, cat_rf, cat_i, cat_j, cat_d, cat_a]) dX8_pass_74 ?_
    refine r_iload hC 5 rfl dX8_pass_76 ?_
    refine r_aload hC 0 (r := r17) rfl dX8_pass_78 ?_
    refine r_iloadn hC 2 rfl rfl dX8_pass_80 ?_
    refine r_iloadn hC 3 rfl rfl dX8_pass_81 ?_
    refine call_V hC (av := [.int x54_1, .int x54_2]) (st := [.int x54_4]) (r := r17) (ci := 8) rfl rfl (fun h9 => ct_X6_day hC.hl G h9 x54_1 x54_2 σ18) q_1039 q_1040 q_1041 q_54 q_1042 yd_X6_day rfl ⟨Nat.le_of_ble_eq_true rfl, Nat.le_of_ble_eq_true rfl⟩ ⟨by omega, by omega⟩ rfl (by simp [cat_rf, cat_i, cat_j, cat_d, cat_a]) dX8_pass_82 (fun v20 σ21 => ?_)
    show Wo _ _ _ _ _ _ _ _ _ _ [.int v20, .int x54_4]
    refine r_iadd hC dX8_pass_85 (fun v23 => ?_)
    refine r_istore hC [(4, .int v23), (7, va_rf r17), (0, va_rf (some a0)), (1, .int x54_1), (2, .int x54_2), (3, .int x54_3), (5, .int x54_5), (6, va_rf x54_6)] (i := 4) (by decide) rfl dX8_pass_86 ?_
    refine r_goto hC 54 dX8_pass_88 (by decide) ?_
    refine Wo.sub [2, 3, 4, 5, 0, 6, 7] rfl ?_
    exact hk54 a0 x54_1 x54_2 x54_3 v23 x54_5 x54_6 σ21 _ _ (hm54 _ _ _ _ (by omega) (by omega) hP54)

set_option maxRecDepth 100000 in
set_option maxHeartbeats 4000000 in
theorem u_X8_pass_54 {C : Cxt} {G : Glb} (hC : CX C G RX8 cX8_pass 8 (some .int) 3 31 124 53) (P39 : Nat → Nat → Prop) (hm39 : ∀ a b a2 b2 : Nat, a ≤ a2 → b ≤ b2 → P39 a2 b2 → P39 a b) (k39 : Nat → Int32 → Int32 → Int32 → Int32 → Int32 → Mem → Option ((Int32) × Mem)) (hk39 : ∀ (a0 : Nat) (x39_1 : Int32) (x39_2 : Int32) (x39_3 : Int32) (x39_4 : Int32) (x39_5 : Int32) (σ : Mem) (kc ks : Nat), P39 kc ks → Wo C G 8 (QP C G rvI 31 124) (k39 a0 x39_1 x39_2 x39_3 x39_4 x39_5 σ) σ kc ks 39 [(0, va_rf (some a0)), (1, .int x39_1), (2, .int x39_2), (3, .int x39_3), (4, .int x39_4), (5, .int x39_5)] []) : ∀ (n : Nat) (a0 : Nat) (x54_1 : Int32) (x54_2 : Int32) (x54_3 : Int32) (x54_4 : Int32) (x54_5 : Int32) (x54_6 : (Option Nat)) (σ : Mem) (kc ks : Nat), (∀ m, n = m + 1 → (kc + m * 0 + 0 ≤ 31 ∧ ks + m * 0 + 0 ≤ 124) ∧ P39 (kc + m * 0 + 0) (ks + m * 0 + 0)) → Wo C G 8 (QP C G rvI 31 124) (l_X8_pass_54 G.2.2.2.1 G.2.2.2.2 k39 n a0 x54_1 x54_2 x54_3 x54_4 x54_5 x54_6 σ) σ kc ks 54 [(0, va_rf (some a0)), (1, .int x54_1), (2, .int x54_2), (3, .int x54_3), (4, .int x54_4), (5, .int x54_5), (6, va_rf x54_6)] [] := by
  intro n
  induction n with
  | zero => intro a0 x54_1 x54_2 x54_3 x54_4 x54_5 x54_6 σ kc ks h0; exact Wo.none
  | succ n ih =>
    intro a0 x54_1 x54_2 x54_3 x54_4 x54_5 x54_6 σ kc ks h0
    exact t_X8_pass_54 hC P39 hm39 k39 hk39 (fun kc ks => (∀ m, n = m + 1 → (kc + m * 0 + 0 ≤ 31 ∧ ks + m * 0 + 0 ≤ 124) ∧ P39 (kc + m * 0 + 0) (ks + m * 0 + 0))) (fun a b a2 b2 h1 h2 h m e => ⟨⟨by have := (h m e).1.1; omega, by have := (h m e).1.2; omega⟩, hm39 _ _ _ _ (by omega) (by omega) (h m e).2⟩) (l_X8_pass_54 G.2.2.2.1 G.2.2.2.2 k39 n) ih a0 x54_1 x54_2 x54_3 x54_4 x54_5 x54_6 σ kc ks ⟨by have := (h0 n rfl).1.1; omega, by have := (h0 n rfl).1.2; omega⟩ (hm39 _ _ _ _ (by omega) (by omega) (h0 n rfl).2) (fun m e => by
      subst e
      exact ⟨⟨by have := (h0 _ rfl).1.1; omega, by have := (h0 _ rfl).1.2; omega⟩, hm39 _ _ _ _ (by omega) (by omega) (h0 _ rfl).2⟩)

set_option maxRecDepth 100000 in
set_option maxHeartbeats 4000000 in
theorem t_X8_pass_39 {C : Cxt} {G : Glb} (hC : CX C G RX8 cX8_pass 8 (some .int) 3 31 124 53) (P39 : Nat → Nat → Prop) (hm39 : ∀ a b a2 b2 : Nat, a ≤ a2 → b ≤ b2 → P39 a2 b2 → P39 a b) (k39 : Nat → Int32 → Int32 → Int32 → Int32 → Int32 → Mem → Option ((Int32) × Mem)) (hk39 : ∀ (a0 : Nat) (x39_1 : Int32) (x39_2 : Int32) (x39_3 : Int32) (x39_4 : Int32) (x39_5 : Int32) (σ : Mem) (kc ks : Nat), P39 kc ks → Wo C G 8 (QP C G rvI 31 124) (k39 a0 x39_1 x39_2 x39_3 x39_4 x39_5 σ) σ kc ks 39 [(0, va_rf (some a0)), (1, .int x39_1), (2, .int x39_2), (3, .int x39_3), (4, .int x39_4), (5, .int x39_5)] []) (a0 : Nat) (x39_1 : Int32) (x39_2 : Int32) (x39_3 : Int32) (x39_4 : Int32) (x39_5 : Int32) (σ : Mem) (kc ks : Nat) (hN : kc + 1 ≤ 31 ∧ ks + 4 ≤ 124) (hP39 : P39 (kc + 1) (ks + 4)) : Wo C G 8 (QP C G rvI 31 124) (b_X8_pass_39 G.2.2.2.1 G.2.2.2.2 k39 a0 x39_1 x39_2 x39_3 x39_4 x39_5 σ) σ kc ks 39 [(0, va_rf (some a0)), (1, .int x39_1), (2, .int x39_2), (3, .int x39_3), (4, .int x39_4), (5, .int x39_5)] [] := by
  unfold b_X8_pass_39
  refine r_iload hC 5 rfl dX8_pass_39 ?_
  refine r_iloadn hC 3 rfl rfl dX8_pass_41 ?_
  refine r_icmp_ge hC 97 dX8_pass_42 (by decide) ?_ ?_
  · refine r_aloadn hC 0 (r := (some a0)) rfl rfl dX8_pass_97 ?_
    refine r_dup hC (cat_rf _) dX8_pass_98 ?_
    refine r_gI hC (k := 1) (r := (some a0)) cls_10 (by decide) rfl q_841 (Or.inl rfl) dX8_pass_99 (fun v6 => ?_)
    refine r_iloadn hC 3 rfl rfl dX8_pass_102 ?_
    refine r_iadd hC dX8_pass_103 (fun v7 => ?_)
    refine r_pI hC (k := 1) (r := (some a0)) cls_10 (by decide) rfl q_841 (Or.inl rfl) (Or.inl rfl) dX8_pass_104 (fun σ8 => ?_)
    refine r_iload hC 4 rfl dX8_pass_107 ?_
    exact e_I hC ⟨by omega, by omega⟩ dX8_pass_109
  · refine r_aloadn hC 0 (r := (some a0)) rfl rfl dX8_pass_45 ?_
    refine r_gR hC (k := 6) (r := (some a0)) cls_10 (by decide) rfl q_846 (Or.inl rfl) dX8_pass_46 (fun r9 => ?_)
    refine call_V hC (av := []) (st := []) (r := r9) (ci := 1) rfl rfl (fun h9 => ct_Jx4a65c_iterator_32c93 hC.hl G h9 σ) q_993 q_994 q_995 q_47 q_996 yd_Jx4a65c_iterator_32c93 rfl ⟨Nat.le_of_ble_eq_true rfl, Nat.le_of_ble_eq_true rfl⟩ ⟨by omega, by omega⟩ rfl (Nat.le_of_ble_eq_true rfl) dX8_pass_49 (fun r10 σ11 => ?_)
    show Wo _ _ _ _ _ _ _ _ _ _ [va_rf r10]
    refine r_astore hC [(6, va_rf r10), (0, va_rf (some a0)), (1, .int x39_1), (2, .int x39_2), (3, .int x39_3), (4, .int x39_4), (5, .int x39_5)] (r := r10) (i := 6) (by decide) rfl dX8_pass_52 ?_
    refine Wo.sub [1, 2, 3, 4, 5, 6, 0] rfl ?_
    exact u_X8_pass_54 hC P39 hm39 k39 hk39 5 a0 x39_1 x39_2 x39_3 x39_4 x39_5 r10 σ11 _ _ (fun m e => by cases e; exact ⟨⟨by omega, by omega⟩, hm39 _ _ _ _ (by omega) (by omega) hP39⟩)

set_option maxRecDepth 100000 in
set_option maxHeartbeats 4000000 in
theorem u_X8_pass_39 {C : Cxt} {G : Glb} (hC : CX C G RX8 cX8_pass 8 (some .int) 3 31 124 53) : ∀ (n : Nat) (a0 : Nat) (x39_1 : Int32) (x39_2 : Int32) (x39_3 : Int32) (x39_4 : Int32) (x39_5 : Int32) (σ : Mem) (kc ks : Nat), (∀ m, n = m + 1 → (kc + m * 1 + 1 ≤ 31 ∧ ks + m * 4 + 4 ≤ 124)) → Wo C G 8 (QP C G rvI 31 124) (l_X8_pass_39 G.2.2.2.1 G.2.2.2.2  n a0 x39_1 x39_2 x39_3 x39_4 x39_5 σ) σ kc ks 39 [(0, va_rf (some a0)), (1, .int x39_1), (2, .int x39_2), (3, .int x39_3), (4, .int x39_4), (5, .int x39_5)] [] := by
  intro n
  induction n with
  | zero => intro a0 x39_1 x39_2 x39_3 x39_4 x39_5 σ kc ks h0; exact Wo.none
  | succ n ih =>
    intro a0 x39_1 x39_2 x39_3 x39_4 x39_5 σ kc ks h0
    exact t_X8_pass_39 hC (fun kc ks => (∀ m, n = m + 1 → (kc + m * 1 + 1 ≤ 31 ∧ ks + m * 4 + 4 ≤ 124))) (fun a b a2 b2 h1 h2 h m e => ⟨by have := (h m e).1; omega, by have := (h m e).2; omega⟩) (l_X8_pass_39 G.2.2.2.1 G.2.2.2.2  n) ih a0 x39_1 x39_2 x39_3 x39_4 x39_5 σ kc ks ⟨by have := (h0 n rfl).1; omega, by have := (h0 n rfl).2; omega⟩ (fun m e => by
      subst e
      exact ⟨by have := (h0 _ rfl).1; omega, by have := (h0 _ rfl).2; omega⟩)

set_option maxRecDepth 100000 in
set_option maxHeartbeats 4000000 in
theorem t_X8_pass_24 {C : Cxt} {G : Glb} (hC : CX C G RX8 cX8_pass 8 (some .int) 3 31 124 53) (a0 : Nat) (x24_1 : Int32) (x24_2 : Int32) (x24_3 : Int32) (y24_0 : Int32) (y24_1 : (Option Nat)) (σ : Mem) (kc ks : Nat) (hN : kc + 31 ≤ 31 ∧ ks + 124 ≤ 124) : Wo C G 8 (QP C G rvI 31 124) (b_X8_pass_24 G.2.2.2.1 G.2.2.2.2  a0 x24_1 x24_2 x24_3 y24_0 y24_1 σ) σ kc ks 24 [(0, va_rf (some a0)), (1, .int x24_1), (2, .int x24_2), (3, .int x24_3)] [.int y24_0, va_rf y24_1] := by
  unfold b_X8_pass_24
  refine r_iconst hC (1) rfl dX8_pass_24 ?_
  refine call_V hC (av := [.int y24_0, .int 1]) (st := []) (r := y24_1) (ci := 10) rfl rfl (fun h9 => ct_X8_start hC.hl G h9 y24_0 1 σ) q_882 q_884 q_12 q_44 q_885 yd_X8_start rfl ⟨Nat.le_of_ble_eq_true rfl, Nat.le_of_ble_eq_true rfl⟩ ⟨by omega, by omega⟩ rfl (Nat.le_of_ble_eq_true rfl) dX8_pass_25 (fun v3 σ4 => ?_)
  show Wo _ _ _ _ _ _ _ _ _ _ [.int v3]
  refine r_if_eq hC 33 dX8_pass_28 (by decide) ?_ ?_
  · refine r_iconst hC (0) rfl dX8_pass_33 ?_
    refine r_istore hC [(4, .int 0), (0, va_rf (some a0)), (1, .int x24_1), (2, .int x24_2), (3, .int x24_3)] (i := 4) (by decide) rfl dX8_pass_34 ?_
    refine r_iconst hC (0) rfl dX8_pass_36 ?_
    refine r_istore hC [(5, .int 0), (4, .int 0), (0, va_rf (some a0)), (1, .int x24_1), (2, .int x24_2), (3, .int x24_3)] (i := 5) (by decide) rfl dX8_pass_37 ?_
    refine Wo.sub [2, 3, 4, 5, 1, 0] rfl ?_
    exact u_X8_pass_39 hC 31 a0 x24_1 x24_2 x24_3 0 0 σ4 _ _ (fun m e => by cases e; exact ⟨by omega, by omega⟩)
  · refine r_iconst hC (0) rfl dX8_pass_31 ?_
    exact e_I hC ⟨by omega, by omega⟩ dX8_pass_32

set_option maxRecDepth 100000 in
set_option maxHeartbeats 4000000 in
theorem t_X8_pass_19 {C : Cxt} {G : Glb} (hC : CX C G RX8 cX8_pass 8 (some .int) 3 31 124 53) (a0 : Nat) (x19_1 : Int32) (x19_2 : Int32) (x19_3 : Int32) (y19_0 : (Option Nat)) (σ : Mem) (kc ks : Nat) (hN : kc + 31 ≤ 31 ∧ ks + 124 ≤ 124) : Wo C G 8 (QP C G rvI 31 124) (b_X8_pass_19 G.2.2.2.1 G.2.2.2.2  a0 x19_1 x19_2 x19_3 y19_0 σ) σ kc ks 19 [(0, va_rf (some a0)), (1, .int x19_1), (2, .int x19_2), (3, .int x19_3)] [va_rf y19_0] := by
  unfold b_X8_pass_19
  refine r_iconst hC (1) rfl dX8_pass_19 ?_
  refine r_goto hC 24 dX8_pass_20 (by decide) ?_
  exact t_X8_pass_24 hC a0 x19_1 x19_2 x19_3 1 y19_0 σ _ _ ⟨by omega, by omega⟩

set_option maxRecDepth 100000 in
set_option maxHeartbeats 4000000 in
theorem t_X8_pass_0 {C : Cxt} {G : Glb} (hC : CX C G RX8 cX8_pass 8 (some .int) 3 31 124 53) (a0 : Nat) (p0 : Int32) (p1 : Int32) (p2 : Int32) (σ : Mem) (kc ks : Nat) (hN : kc + 31 ≤ 31 ∧ ks + 124 ≤ 124) : Wo C G 8 (QP C G rvI 31 124) (b_X8_pass_0 G.2.2.2.1 G.2.2.2.2  a0 p0 p1 p2 σ) σ kc ks 0 [(0, va_rf (some a0)), (1, .int p0), (2, .int p1), (3, .int p2)] [] := by
  unfold b_X8_pass_0
  refine r_aloadn hC 0 (r := (some a0)) rfl rfl dX8_pass_0 ?_
  refine r_iloadn hC 1 rfl rfl dX8_pass_1 ?_
  refine r_iloadn hC 2 rfl rfl dX8_pass_2 ?_
  refine call_S hC (av := [.int p0, .int p1]) (st := [va_rf (some a0)]) (ct_X8_isNoWeather hC.hl G p0 p1 σ) q_990 q_991 q_44 q_992 yd_X8_isNoWeather rfl ⟨Nat.le_of_ble_eq_true rfl, Nat.le_of_ble_eq_true rfl⟩ ⟨by omega, by omega⟩ rfl (by simp [cat_rf, cat_i, cat_j, cat_d, cat_a]) dX8_pass_3 (fun v1 σ2 => ?_)
  show Wo _ _ _ _ _ _ _ _ _ _ [.int v1, va_rf (some a0)]
  refine r_if_ne hC 19 dX8_pass_6 (by decide) ?_ ?_
  · exact t_X8_pass_19 hC a0 p0 p1 p2 (some a0) σ2 _ _ ⟨by omega, by omega⟩
  · refine r_iloadn hC 3 rfl rfl dX8_pass_9 ?_
    refine r_iconst hC (1) rfl dX8_pass_10 ?_
    refine r_bipush hC (30) (by decide) dX8_pass_11 ?_
    refine call_S hC (av := [.int p2, .int 1, .int 30]) (st := [va_rf (some a0)]) (ct_X8_isIn hC.hl G p2 1 30 σ2) q_879 q_880 q_44 q_881 yd_X8_isIn rfl ⟨Nat.le_of_ble_eq_true rfl, Nat.le_of_ble_eq_true rfl⟩ ⟨by omega, by omega⟩ rfl (by simp [cat_rf, cat_i, cat_j, cat_d, cat_a]) dX8_pass_13 (fun v24 σ25 => ?_)
    show Wo _ _ _ _ _ _ _ _ _ _ [.int v24, va_rf (some a0)]
    refine r_if_ne hC 23 dX8_pass_16 (by decide) ?_ ?_
    · refine r_iconst hC (0) rfl dX8_pass_23 ?_
      exact t_X8_pass_24 hC a0 p0 p1 p2 0 (some a0) σ25 _ _ ⟨by omega, by omega⟩
    · exact t_X8_pass_19 hC a0 p0 p1 p2 (some a0) σ25 _ _ ⟨by omega, by omega⟩

set_option maxRecDepth 100000 in
set_option maxHeartbeats 4000000 in
theorem ct_X8_pass {l : Launch} (hl : l.stackTraces = false) (G : Glb) (a0 : Nat) (p0 : Int32) (p1 : Int32) (p2 : Int32) (σ : Mem) : Ct rvI l yX8_pass (Cond.code yX8_pass cX8_pass 8 (some .int) :: uW) { frames := 3, cells := 31, slots := 124, locals := 53 } 31 124 G [.ref a0, .int p0, .int p1, .int p2] σ (f_X8_pass G.2.2.2.1 G.2.2.2.2 a0 p0 p1 p2 σ) := by
  refine Ct.of hl (by decide +kernel) (Nat.le_of_ble_eq_true rfl) (fun C hC hin => ?_)
  have e : lv_args 0 [.ref a0, .int p0, .int p1, .int p2] = [(0, .ref a0), (1, .int p0), (2, .int p1), (3, .int p2)] := rfl
  rw [e]
  exact t_X8_pass_0 hC a0 p0 p1 p2 σ 0 0 ⟨Nat.le_of_ble_eq_true rfl, Nat.le_of_ble_eq_true rfl⟩

noncomputable def b_X8_prune_31 (y31_0 : Int32) (σ : Mem) : Option ((Int32) × Mem) :=
some (y31_0, σ)

noncomputable def b_X8_prune_0 (a0 : Nat) (p0 : Int32) (σ : Mem) : Option ((Int32) × Mem) :=
ob 10 σ (some a0) fun h3 => cl1 (f_X8_isNoSection h3 p0 σ) fun v1 σ2 =>
ob 10 σ2 (some a0) fun h6 => cl1 (f_X8_start h6 v1 1 σ2) fun v4 σ5 =>
if v4 = 0 then
gR 10 6 σ5 (some a0) fun r7 =>
ob 1 σ5 r7 fun h10 => cl1 (f_Jx4a65c_get_915e3 h10 p0 σ5) fun r8 σ9 =>
ck 9 σ9 r8 <|
ob 8 σ9 r8 fun h13 => cl1 (f_X6_prune h13 σ9) fun v11 σ12 =>
b_X8_prune_31 v11 σ12
else
b_X8_prune_31 0 σ5

noncomputable def f_X8_prune (a0 : Nat) (p0 : Int32) (σ : Mem) : Option ((Int32) × Mem) := b_X8_prune_0 a0 p0 σ
set_option maxRecDepth 100000 in
set_option maxHeartbeats 4000000 in
theorem t_X8_prune_31 {C : Cxt} {G : Glb} (hC : CX C G RX8 cX8_prune 2 (some .int) 3 0 0 64) (y31_0 : Int32) (σ : Mem) : Wo C G 2 (QP C G rvI 0 0) (b_X8_prune_31  y31_0 σ) σ 0 0 31 [] [.int y31_0] := by
  unfold b_X8_prune_31
  exact e_I hC ⟨Nat.zero_le _, Nat.zero_le _⟩ dX8_prune_31

set_option maxRecDepth 100000 in
set_option maxHeartbeats 4000000 in
theorem t_X8_prune_0 {C : Cxt} {G : Glb} (hC : CX C G RX8 cX8_prune 2 (some .int) 3 0 0 64) (a0 : Nat) (p0 : Int32) (σ : Mem) : Wo C G 2 (QP C G rvI 0 0) (b_X8_prune_0  a0 p0 σ) σ 0 0 0 [(0, va_rf (some a0)), (1, .int p0)] [] := by
  unfold b_X8_prune_0
  refine r_aloadn hC 0 (r := (some a0)) rfl rfl dX8_prune_0 ?_
  refine r_aloadn hC 0 (r := (some a0)) rfl rfl dX8_prune_1 ?_
  refine r_iloadn hC 1 rfl rfl dX8_prune_2 ?_
  refine call_V hC (av := [.int p0]) (st := [va_rf (some a0)]) (r := (some a0)) (ci := 10) rfl rfl (fun h9 => ct_X8_isNoSection hC.hl G h9 p0 σ) q_1053 q_1055 q_18 q_44 q_1056 yd_X8_isNoSection rfl ⟨Nat.le_of_ble_eq_true rfl, Nat.le_of_ble_eq_true rfl⟩ ⟨Nat.zero_le _, Nat.zero_le _⟩ rfl (by simp [cat_rf, cat_i, cat_j, cat_d, cat_a]) dX8_prune_3 (fun v1 σ2 => ?_)
  show Wo _ _ _ _ _ _ _ _ _ _ [.int v1, va_rf (some a0)]
  refine r_iconst hC (1) rfl dX8_prune_6 ?_
  refine call_V hC (av := [.int v1, .int 1]) (st := []) (r := (some a0)) (ci := 10) rfl rfl (fun h9 => ct_X8_start hC.hl G h9 v1 1 σ2) q_882 q_884 q_12 q_44 q_885 yd_X8_start rfl ⟨Nat.le_of_ble_eq_true rfl, Nat.le_of_ble_eq_true rfl⟩ ⟨Nat.zero_le _, Nat.zero_le _⟩ rfl (Nat.le_of_ble_eq_true rfl) dX8_prune_7 (fun v4 σ5 => ?_)
  show Wo _ _ _ _ _ _ _ _ _ _ [.int v4]
  refine r_if_eq hC 17 dX8_prune_10 (by decide) ?_ ?_
  · refine r_aloadn hC 0 (r := (some a0)) rfl rfl dX8_prune_17 ?_
    refine r_gR hC (k := 6) (r := (some a0)) cls_10 (by decide) rfl q_846 (Or.inl rfl) dX8_prune_18 (fun r7 => ?_)
    refine r_iloadn hC 1 rfl rfl dX8_prune_21 ?_
    refine call_V hC (av := [.int p0]) (st := []) (r := r7) (ci := 1) rfl rfl (fun h9 => ct_Jx4a65c_get_915e3 hC.hl G h9 p0 σ5) q_1057 q_1058 q_1059 q_47 q_1060 yd_Jx4a65c_get_915e3 rfl ⟨Nat.le_of_ble_eq_true rfl, Nat.le_of_ble_eq_true rfl⟩ ⟨Nat.zero_le _, Nat.zero_le _⟩ rfl (Nat.le_of_ble_eq_true rfl) dX8_prune_22 (fun r8 σ9 => ?_)
    show Wo _ _ _ _ _ _ _ _ _ _ [va_rf r8]
    refine r_ckO hC (r := r8) cls_8 q_894 dX8_prune_25 ?_
    refine call_V hC (av := []) (st := []) (r := r8) (ci := 8) rfl rfl (fun h9 => ct_X6_prune hC.hl G h9 σ9) q_1071 q_1072 q_1073 q_54 q_1074 yd_X6_prune rfl ⟨Nat.le_of_ble_eq_true rfl, Nat.le_of_ble_eq_true rfl⟩ ⟨Nat.zero_le _, Nat.zero_le _⟩ rfl (Nat.le_of_ble_eq_true rfl) dX8_prune_28 (fun v11 σ12 => ?_)
    show Wo _ _ _ _ _ _ _ _ _ _ [.int v11]
    refine Wo.sub [] rfl ?_
    exact t_X8_prune_31 hC v11 σ12
  · refine r_iconst hC (0) rfl dX8_prune_13 ?_
    refine r_goto hC 31 dX8_prune_14 (by decide) ?_
    refine Wo.sub [] rfl ?_
    exact t_X8_prune_31 hC 0 σ5

set_option maxRecDepth 100000 in
set_option maxHeartbeats 4000000 in
theorem ct_X8_prune {l : Launch} (hl : l.stackTraces = false) (G : Glb) (a0 : Nat) (p0 : Int32) (σ : Mem) : Ct rvI l yX8_prune (Cond.code yX8_prune cX8_prune 2 (some .int) :: uW) { frames := 3, cells := 0, slots := 0, locals := 64 } 0 0 G [.ref a0, .int p0] σ (f_X8_prune a0 p0 σ) := by
  refine Ct.of hl (by decide +kernel) (Nat.le_of_ble_eq_true rfl) (fun C hC hin => ?_)
  have e : lv_args 0 [.ref a0, .int p0] = [(0, .ref a0), (1, .int p0)] := rfl
  rw [e]
  exact t_X8_prune_0 hC a0 p0 σ

noncomputable def b_X8_spray_0 (a0 : Nat) (p0 : Int32) (σ : Mem) : Option ((Int32) × Mem) :=
ob 10 σ (some a0) fun h3 => cl1 (f_X8_isNoSection h3 p0 σ) fun v1 σ2 =>
ob 10 σ2 (some a0) fun h6 => cl1 (f_X8_start h6 v1 1 σ2) fun v4 σ5 =>
if v4 = 0 then
gR 10 6 σ5 (some a0) fun r7 =>
ob 1 σ5 r7 fun h10 => cl1 (f_Jx4a65c_get_915e3 h10 p0 σ5) fun r8 σ9 =>
ck 9 σ9 r8 <|
gI 8 4 σ9 r8 fun v11 =>
pI 8 4 σ9 r8 0 fun σ12 =>
pI 8 5 σ12 r8 3 fun σ13 =>
some (v11, σ13)
else
some (0, σ5)

noncomputable def f_X8_spray (a0 : Nat) (p0 : Int32) (σ : Mem) : Option ((Int32) × Mem) := b_X8_spray_0 a0 p0 σ
set_option maxRecDepth 100000 in
set_option maxHeartbeats 4000000 in
theorem t_X8_spray_0 {C : Cxt} {G : Glb} (hC : CX C G RX8 cX8_spray 4 (some .int) 3 0 0 64) (a0 : Nat) (p0 : Int32) (σ : Mem) : Wo C G 4 (QP C G rvI 0 0) (b_X8_spray_0  a0 p0 σ) σ 0 0 0 [(0, va_rf (some a0)), (1, .int p0)] [] := by
  unfold b_X8_spray_0
  refine r_aloadn hC 0 (r := (some a0)) rfl rfl dX8_spray_0 ?_
  refine r_aloadn hC 0 (r := (some a0)) rfl rfl dX8_spray_1 ?_
  refine r_iloadn hC 1 rfl rfl dX8_spray_2 ?_
  refine call_V hC (av := [.int p0]) (st := [va_rf (some a0)]) (r := (some a0)) (ci := 10) rfl rfl (fun h9 => ct_X8_isNoSection hC.hl G h9 p0 σ) q_1053 q_1055 q_18 q_44 q_1056 yd_X8_isNoSection rfl ⟨Nat.le_of_ble_eq_true rfl, Nat.le_of_ble_eq_true rfl⟩ ⟨Nat.zero_le _, Nat.zero_le _⟩ rfl (by simp [cat_rf, cat_i, cat_j, cat_d, cat_a]) dX8_spray_3 (fun v1 σ2 => ?_)
  show Wo _ _ _ _ _ _ _ _ _ _ [.int v1, va_rf (some a0)]
  refine r_iconst hC (1) rfl dX8_spray_6 ?_
  refine call_V hC (av := [.int v1, .int 1]) (st := []) (r := (some a0)) (ci := 10) rfl rfl (fun h9 => ct_X8_start hC.hl G h9 v1 1 σ2) q_882 q_884 q_12 q_44 q_885 yd_X8_start rfl ⟨Nat.le_of_ble_eq_true rfl, Nat.le_of_ble_eq_true rfl⟩ ⟨Nat.zero_le _, Nat.zero_le _⟩ rfl (Nat.le_of_ble_eq_true rfl) dX8_spray_7 (fun v4 σ5 => ?_)
  show Wo _ _ _ _ _ _ _ _ _ _ [.int v4]
  refine r_if_eq hC 15 dX8_spray_10 (by decide) ?_ ?_
  · refine r_aloadn hC 0 (r := (some a0)) rfl rfl dX8_spray_15 ?_
    refine r_gR hC (k := 6) (r := (some a0)) cls_10 (by decide) rfl q_846 (Or.inl rfl) dX8_spray_16 (fun r7 => ?_)
    refine r_iloadn hC 1 rfl rfl dX8_spray_19 ?_
    refine call_V hC (av := [.int p0]) (st := []) (r := r7) (ci := 1) rfl rfl (fun h9 => ct_Jx4a65c_get_915e3 hC.hl G h9 p0 σ5) q_1057 q_1058 q_1059 q_47 q_1060 yd_Jx4a65c_get_915e3 rfl ⟨Nat.le_of_ble_eq_true rfl, Nat.le_of_ble_eq_true rfl⟩ ⟨Nat.zero_le _, Nat.zero_le _⟩ rfl (Nat.le_of_ble_eq_true rfl) dX8_spray_20 (fun r8 σ9 => ?_)
    show Wo _ _ _ _ _ _ _ _ _ _ [va_rf r8]
    refine r_ckO hC (r := r8) cls_8 q_894 dX8_spray_23 ?_
    refine r_astoren hC [(2, va_rf r8), (0, va_rf (some a0)), (1, .int p0)] (r := r8) (i := 2) rfl (by decide) rfl dX8_spray_26 ?_
    refine r_aloadn hC 0 (r := r8) rfl rfl dX8_spray_27 ?_
    refine r_gI hC (k := 4) (r := r8) cls_8 (by decide) rfl q_909 (Or.inl rfl) dX8_spray_28 (fun v11 => ?_)
    refine r_istoren hC [(3, .int v11), (2, va_rf r8), (0, va_rf (some a0)), (1, .int p0)] (i := 3) rfl (by decide) (by simp [List.filter, cat_rf, cat_i, cat_j, cat_d, cat_a]) dX8_spray_31 ?_
    refine r_aloadn hC 1 (r := r8) rfl rfl dX8_spray_32 ?_
    refine r_iconst hC (0) rfl dX8_spray_33 ?_
    refine r_pI hC (k := 4) (r := r8) cls_8 (by decide) rfl q_909 (Or.inl rfl) (Or.inl rfl) dX8_spray_34 (fun σ12 => ?_)
    refine r_aloadn hC 1 (r := r8) rfl rfl dX8_spray_37 ?_
    refine r_iconst hC (3) rfl dX8_spray_38 ?_
    refine r_pI hC (k := 5) (r := r8) cls_8 (by decide) rfl q_911 (Or.inl rfl) (Or.inl rfl) dX8_spray_39 (fun σ13 => ?_)
    refine r_iloadn hC 0 rfl rfl dX8_spray_42 ?_
    exact e_I hC ⟨Nat.zero_le _, Nat.zero_le _⟩ dX8_spray_43
  · refine r_iconst hC (0) rfl dX8_spray_13 ?_
    exact e_I hC ⟨Nat.zero_le _, Nat.zero_le _⟩ dX8_spray_14

set_option maxRecDepth 100000 in
set_option maxHeartbeats 4000000 in
theorem ct_X8_spray {l : Launch} (hl : l.stackTraces = false) (G : Glb) (a0 : Nat) (p0 : Int32) (σ : Mem) : Ct rvI l yX8_spray (Cond.code yX8_spray cX8_spray 4 (some .int) :: uW) { frames := 3, cells := 0, slots := 0, locals := 64 } 0 0 G [.ref a0, .int p0] σ (f_X8_spray a0 p0 σ) := by
  refine Ct.of hl (by decide +kernel) (Nat.le_of_ble_eq_true rfl) (fun C hC hin => ?_)
  have e : lv_args 0 [.ref a0, .int p0] = [(0, .ref a0), (1, .int p0)] := rfl
  rw [e]
  exact t_X8_spray_0 hC a0 p0 σ

noncomputable def b_X8_pluck_45 (e0 mi : Nat) (σ : Mem) : Option ((Int32) × Mem) :=
some (0, σ)

noncomputable def b_X8_pluck_225 (e0 mi : Nat) (a0 : Nat) (x225_3 : Int32) (x225_5 : (Option Nat)) (y225_0 : Int32) (y225_1 : (Option Nat)) (σ : Mem) : Option ((Int32) × Mem) :=
pB 7 11 σ y225_1 y225_0 fun σ36 =>
gI 10 4 σ36 (some a0) fun v37 =>
ob 7 σ36 x225_5 fun h40 => cl1 (f_X5_dry h40 σ36) fun v38 σ39 =>
nm (v37 + v38) fun v41 =>
pI 10 4 σ39 (some a0) v41 fun σ42 =>
gI 10 2 σ42 (some a0) fun v43 =>
nm (2 * x225_3) fun v44 =>
nm (v43 - v44) fun v45 =>
pI 10 2 σ42 (some a0) v45 fun σ46 =>
gR 10 7 σ46 (some a0) fun r47 =>
ob 1 σ46 r47 fun h50 => cl1 (f_Jx4a65c_add_9ea2d e0 mi h50 x225_5 σ46) fun v48 σ49 =>
gR 10 7 σ49 (some a0) fun r51 =>
ob 1 σ49 r51 fun h54 => cl1 (f_Jx4a65c_size_8abf5 h54 σ49) fun v52 σ53 =>
nm (v52 - 1) fun v55 =>
some (v55, σ53)

noncomputable def b_X8_pluck_192 (e0 mi : Nat) (k116 : Nat → Int32 → Int32 → (Option Nat) → (Option Nat) → Int32 → Int32 → Mem → Option ((Int32) × Mem)) (a0 : Nat) (x192_1 : Int32) (x192_3 : Int32) (x192_4 : (Option Nat)) (x192_5 : (Option Nat)) (x192_6 : Int32) (x192_7 : Int32) (σ : Mem) : Option ((Int32) × Mem) :=
nm (x192_7 + (-1)) fun v70 =>
k116 a0 x192_1 x192_3 x192_4 x192_5 x192_6 v70 σ

noncomputable def b_X8_pluck_116 (e0 mi : Nat) (k116 : Nat → Int32 → Int32 → (Option Nat) → (Option Nat) → Int32 → Int32 → Mem → Option ((Int32) × Mem)) (a0 : Nat) (x116_1 : Int32) (x116_3 : Int32) (x116_4 : (Option Nat)) (x116_5 : (Option Nat)) (x116_6 : Int32) (x116_7 : Int32) (σ : Mem) : Option ((Int32) × Mem) :=
if x116_7 ≤ 1 then
ob 7 σ x116_5 fun h32 => cl1 (f_X5_dry h32 σ) fun v30 σ31 =>
nm (3 * v30) fun v33 =>
pI 7 3 σ31 x116_5 v33 fun σ34 =>
gI 8 5 σ34 x116_4 fun v35 =>
if v35 ≤ 0 then
b_X8_pluck_225 e0 mi a0 x116_3 x116_5 0 x116_5 σ34
else
b_X8_pluck_225 e0 mi a0 x116_3 x116_5 1 x116_5 σ34
else
gR 8 6 σ x116_4 fun r56 =>
aI σ r56 x116_7 fun v57 =>
nm (if v57 < x116_6 then v57 else x116_6) fun v58 =>
gR 8 6 σ x116_4 fun r59 =>
aI σ r59 x116_7 fun v60 =>
nm (v60 - v58) fun v61 =>
wI σ r59 x116_7 v61 fun σ62 =>
nm (x116_6 - v58) fun v63 =>
gR 7 1 σ62 x116_5 fun r64 =>
aI σ62 r64 x116_1 fun v65 =>
nm (x116_7 + 1) fun v66 =>
nm (v58 * v66) fun v67 =>
nm (v65 + v67) fun v68 =>
wI σ62 r64 x116_1 v68 fun σ69 =>
if x116_7 = 2 then
nm (x116_7 + 1) fun v71 =>
nm (v58 * v71) fun v72 =>
pI 7 2 σ69 x116_5 v72 fun σ73 =>
b_X8_pluck_192 e0 mi k116 a0 x116_1 x116_3 x116_4 x116_5 v63 x116_7 σ73
else
b_X8_pluck_192 e0 mi k116 a0 x116_1 x116_3 x116_4 x116_5 v63 x116_7 σ69

noncomputable def l_X8_pluck_116 (e0 mi : Nat) (n : Nat) : Nat → Int32 → Int32 → (Option Nat) → (Option Nat) → Int32 → Int32 → Mem → Option ((Int32) × Mem) := itr (fun _ _ _ _ _ _ _ _ => none) (fun k => b_X8_pluck_116 e0 mi  k) n

noncomputable def b_X8_pluck_87 (e0 mi : Nat) (a0 : Nat) (x87_1 : Int32) (x87_2 : Int32) (x87_3 : Int32) (x87_4 : (Option Nat)) (y87_0 : Int32) (y87_1 : (Option Nat)) (σ : Mem) : Option ((Int32) × Mem) :=
ob 10 σ y87_1 fun h22 => cl1 (f_X8_refuse h22 y87_0 3 σ) fun v20 σ21 =>
if v20 = 0 then
nO 7 σ21 fun σ23 r24 =>
ob 7 σ23 r24 fun h27 => cl1 (f_X5_init e0 mi h27 σ23) fun _ σ26 =>
nm (8 * x87_3) fun v28 =>
nm (x87_2 + 1) fun v29 =>
l_X8_pluck_116 e0 mi 40 a0 x87_1 x87_3 x87_4 r24 v28 v29 σ26
else
some (0, σ21)

noncomputable def b_X8_pluck_82 (e0 mi : Nat) (a0 : Nat) (x82_1 : Int32) (x82_2 : Int32) (x82_3 : Int32) (x82_4 : (Option Nat)) (y82_0 : (Option Nat)) (σ : Mem) : Option ((Int32) × Mem) :=
b_X8_pluck_87 e0 mi a0 x82_1 x82_2 x82_3 x82_4 1 y82_0 σ

noncomputable def b_X8_pluck_38 (e0 mi : Nat) (a0 : Nat) (x38_1 : Int32) (x38_2 : Int32) (x38_3 : Int32) (y38_0 : Int32) (y38_1 : (Option Nat)) (σ : Mem) : Option ((Int32) × Mem) :=
ob 10 σ y38_1 fun h11 => cl1 (f_X8_refuse h11 y38_0 2 σ) fun v9 σ10 =>
if v9 = 0 then
gR 10 6 σ10 (some a0) fun r12 =>
ob 1 σ10 r12 fun h15 => cl1 (f_Jx4a65c_get_915e3 h15 x38_1 σ10) fun r13 σ14 =>
ck 9 σ14 r13 <|
gR 10 7 σ14 (some a0) fun r16 =>
ob 1 σ14 r16 fun h19 => cl1 (f_Jx4a65c_size_8abf5 h19 σ14) fun v17 σ18 =>
if v17 = 16 then
b_X8_pluck_82 e0 mi a0 x38_1 x38_2 x38_3 r13 (some a0) σ18
else
ob 8 σ18 r13 fun h76 => cl1 (f_X6_mayTake h76 x38_2 σ18) fun v74 σ75 =>
if v74 = 0 then
b_X8_pluck_82 e0 mi a0 x38_1 x38_2 x38_3 r13 (some a0) σ75
else
b_X8_pluck_87 e0 mi a0 x38_1 x38_2 x38_3 r13 0 (some a0) σ75
else
b_X8_pluck_45 e0 mi σ10

noncomputable def b_X8_pluck_33 (e0 mi : Nat) (a0 : Nat) (x33_1 : Int32) (x33_2 : Int32) (x33_3 : Int32) (y33_0 : (Option Nat)) (σ : Mem) : Option ((Int32) × Mem) :=
b_X8_pluck_38 e0 mi a0 x33_1 x33_2 x33_3 1 y33_0 σ

noncomputable def b_X8_pluck_0 (e0 mi : Nat) (a0 : Nat) (p0 : Int32) (p1 : Int32) (p2 : Int32) (σ : Mem) : Option ((Int32) × Mem) :=
ob 10 σ (some a0) fun h3 => cl1 (f_X8_isNoSection h3 p0 σ) fun v1 σ2 =>
ob 10 σ2 (some a0) fun h6 => cl1 (f_X8_start h6 v1 1 σ2) fun v4 σ5 =>
if v4 = 0 then
cl1 (f_X8_isIn p1 1 3 σ5) fun v7 σ8 =>
if v7 = 0 then
b_X8_pluck_33 e0 mi a0 p0 p1 p2 (some a0) σ8
else
cl1 (f_X8_isIn p2 1 9 σ8) fun v77 σ78 =>
if v77 = 0 then
b_X8_pluck_33 e0 mi a0 p0 p1 p2 (some a0) σ78
else
b_X8_pluck_38 e0 mi a0 p0 p1 p2 0 (some a0) σ78
else
b_X8_pluck_45 e0 mi σ5

noncomputable def f_X8_pluck (e0 mi : Nat) (a0 : Nat) (p0 : Int32) (p1 : Int32) (p2 : Int32) (σ : Mem) : Option ((Int32) × Mem) := b_X8_pluck_0 e0 mi a0 p0 p1 p2 σ
set_option maxRecDepth 100000 in
set_option maxHeartbeats 4000000 in
theorem t_X8_pluck_45 {C : Cxt} {G : Glb} (hC : CX C G RX8 cX8_pluck 9 (some .int) 7 4 44 149) (σ : Mem) (kc ks : Nat) (hN : kc + 0 ≤ 4 ∧ ks + 0 ≤ 44) : Wo C G 9 (QP C G rvI 4 44) (b_X8_pluck_45 G.2.2.2.1 G.2.2.2.2   σ) σ kc ks 45 [] [] := by
  unfold b_X8_pluck_45
  refine r_iconst hC (0) rfl dX8_pluck_45 ?_
  exact e_I hC ⟨by omega, by omega⟩ dX8_pluck_46

set_option maxRecDepth 100000 in
set_option maxHeartbeats 4000000 in
theorem t_X8_pluck_225 {C : Cxt} {G : Glb} (hC : CX C G RX8 cX8_pluck 9 (some .int) 7 4 44 149) (a0 : Nat) (x225_3 : Int32) (x225_5 : (Option Nat)) (y225_0 : Int32) (y225_1 : (Option Nat)) (σ : Mem) (kc ks : Nat) (hN : kc + 1 ≤ 4 ∧ ks + 22 ≤ 44) : Wo C G 9 (QP C G rvI 4 44) (b_X8_pluck_225 G.2.2.2.1 G.2.2.2.2  a0 x225_3 x225_5 y225_0 y225_1 σ) σ kc ks 225 [(0, va_rf (some a0)), (3, .int x225_3), (5, va_rf x225_5)] [.int y225_0, va_rf y225_1] := by
  unfold b_X8_pluck_225
  refine r_pB hC (k := 11) (r := y225_1) cls_7 (by decide) rfl q_1118 (Or.inl rfl) (Or.inl rfl) dX8_pluck_225 (fun σ36 => ?_)
  refine r_aloadn hC 0 (r := (some a0)) rfl rfl dX8_pluck_228 ?_
  refine r_dup hC (cat_rf _) dX8_pluck_229 ?_
  refine r_gI hC (k := 4) (r := (some a0)) cls_10 (by decide) rfl q_844 (Or.inl rfl) dX8_pluck_230 (fun v37 => ?_)
  refine r_aload hC 2 (r := x225_5) rfl dX8_pluck_233 ?_
  refine call_V hC (av := []) (st := [.int v37, va_rf (some a0)]) (r := x225_5) (ci := 7) rfl rfl (fun h9 => ct_X5_dry hC.hl G h9 σ36) q_1157 q_1158 q_1159 q_63 q_1160 yd_X5_dry rfl ⟨Nat.le_of_ble_eq_true rfl, Nat.le_of_ble_eq_true rfl⟩ ⟨by omega, by omega⟩ rfl (by simp [cat_rf, cat_i, cat_j, cat_d, cat_a]) dX8_pluck_235 (fun v38 σ39 => ?_)
  show Wo _ _ _ _ _ _ _ _ _ _ [.int v38, .int v37, va_rf (some a0)]
  refine r_iadd hC dX8_pluck_238 (fun v41 => ?_)
  refine r_pI hC (k := 4) (r := (some a0)) cls_10 (by decide) rfl q_844 (Or.inl rfl) (Or.inl rfl) dX8_pluck_239 (fun σ42 => ?_)
  refine r_aloadn hC 0 (r := (some a0)) rfl rfl dX8_pluck_242 ?_
  refine r_dup hC (cat_rf _) dX8_pluck_243 ?_
  refine r_gI hC (k := 2) (r := (some a0)) cls_10 (by decide) rfl q_842 (Or.inl rfl) dX8_pluck_244 (fun v43 => ?_)
  refine r_iconst hC (2) rfl dX8_pluck_247 ?_
  refine r_iloadn hC 1 rfl rfl dX8_pluck_248 ?_
  refine r_imul hC dX8_pluck_249 (fun v44 => ?_)
  refine r_isub hC dX8_pluck_250 (fun v45 => ?_)
  refine r_pI hC (k := 2) (r := (some a0)) cls_10 (by decide) rfl q_842 (Or.inl rfl) (Or.inl rfl) dX8_pluck_251 (fun σ46 => ?_)
  refine r_aloadn hC 0 (r := (some a0)) rfl rfl dX8_pluck_254 ?_
  refine r_gR hC (k := 7) (r := (some a0)) cls_10 (by decide) rfl q_847 (Or.inl rfl) dX8_pluck_255 (fun r47 => ?_)
  refine r_aload hC 2 (r := x225_5) rfl dX8_pluck_258 ?_
  refine call_V hC (av := [va_rf x225_5]) (st := []) (r := r47) (ci := 1) rfl rfl (fun h9 => ct_Jx4a65c_add_9ea2d hC.hl G h9 x225_5 σ46) q_929 q_930 q_931 q_47 q_932 yd_Jx4a65c_add_9ea2d rfl ⟨Nat.le_of_ble_eq_true rfl, Nat.le_of_ble_eq_true rfl⟩ ⟨by omega, by omega⟩ rfl (Nat.le_of_ble_eq_true rfl) dX8_pluck_260 (fun v48 σ49 => ?_)
  show Wo _ _ _ _ _ _ _ _ _ _ [.int v48]
  refine r_pop hC rfl dX8_pluck_263 ?_
  refine r_aloadn hC 0 (r := (some a0)) rfl rfl dX8_pluck_264 ?_
  refine r_gR hC (k := 7) (r := (some a0)) cls_10 (by decide) rfl q_847 (Or.inl rfl) dX8_pluck_265 (fun r51 => ?_)
  refine call_V hC (av := []) (st := []) (r := r51) (ci := 1) rfl rfl (fun h9 => ct_Jx4a65c_size_8abf5 hC.hl G h9 σ49) q_890 q_891 q_892 q_47 q_893 yd_Jx4a65c_size_8abf5 rfl ⟨Nat.le_of_ble_eq_true rfl, Nat.le_of_ble_eq_true rfl⟩ ⟨by omega, by omega⟩ rfl (Nat.le_of_ble_eq_true rfl) dX8_pluck_268 (fun v52 σ53 => ?_)
  show Wo _ _ _ _ _ _ _ _ _ _ [.int v52]
  refine r_iconst hC (1) rfl dX8_pluck_271 ?_
  refine r_isub hC dX8_pluck_272 (fun v55 => ?_)
  exact e_I hC ⟨by omega, by omega⟩ dX8_pluck_273

set_option maxRecDepth 100000 in
set_option maxHeartbeats 4000000 in
theorem t_X8_pluck_192 {C : Cxt} {G : Glb} (hC : CX C G RX8 cX8_pluck 9 (some .int) 7 4 44 149) (P116 : Nat → Nat → Prop) (hm116 : ∀ a b a2 b2 : Nat, a ≤ a2 → b ≤ b2 → P116 a2 b2 → P116 a b) (k116 : Nat → Int32 → Int32 → (Option Nat) → (Option Nat) → Int32 → Int32 → Mem → Option ((Int32) × Mem)) (hk116 : ∀ (a0 : Nat) (x116_1 : Int32) (x116_3 : Int32) (x116_4 : (Option Nat)) (x116_5 : (Option Nat)) (x116_6 : Int32) (x116_7 : Int32) (σ : Mem) (kc ks : Nat), P116 kc ks → Wo C G 9 (QP C G rvI 4 44) (k116 a0 x116_1 x116_3 x116_4 x116_5 x116_6 x116_7 σ) σ kc ks 116 [(0, va_rf (some a0)), (1, .int x116_1), (3, .int x116_3), (4, va_rf x116_4), (5, va_rf x116_5), (6, .int x116_6), (7, .int x116_7)] []) (a0 : Nat) (x192_1 : Int32) (x192_3 : Int32) (x192_4 : (Option Nat)) (x192_5 : (Option Nat)) (x192_6 : Int32) (x192_7 : Int32) (σ : Mem) (kc ks : Nat) (hN : kc + 0 ≤ 4 ∧ ks + 0 ≤ 44) (hP116 : P116 (kc + 0) (ks + 0)) : Wo C G 9 (QP C G rvI 4 44) (b_X8_pluck_192 G.2.2.2.1 G.2.2.2.2 k116 a0 x192_1 x192_3 x192_4 x192_5 x192_6 x192_7 σ) σ kc ks 192 [(0, va_rf (some a0)), (1, .int x192_1), (3, .int x192_3), (4, va_rf x192_4), (5, va_rf x192_5), (6, .int x192_6), (7, .int x192_7)] [] := by
  unfold b_X8_pluck_192
  refine r_iinc hC 6 (fun w => [(7, .int w), (0, va_rf (some a0)), (1, .int x192_1), (3, .int x192_3), (4, va_rf x192_4), (5, va_rf x192_5), (6, .int x192_6)]) (-1) rfl (by decide) rfl (fun w => rfl) dX8_pluck_192 (fun v70 => ?_)
  refine r_goto hC 116 dX8_pluck_195 (by decide) ?_
  refine Wo.sub [1, 2, 3, 4, 5, 6, 0] rfl ?_
  exact hk116 a0 x192_1 x192_3 x192_4 x192_5 x192_6 v70 σ _ _ (hm116 _ _ _ _ (by omega) (by omega) hP116)

set_option maxRecDepth 100000 in
set_option maxHeartbeats 4000000 in
theorem t_X8_pluck_116 {C : Cxt} {G : Glb} (hC : CX C G RX8 cX8_pluck 9 (some .int) 7 4 44 149) (P116 : Nat → Nat → Prop) (hm116 : ∀ a b a2 b2 : Nat, a ≤ a2 → b ≤ b2 → P116 a2 b2 → P116 a b) (k116 : Nat → Int32 → Int32 → (Option Nat) → (Option Nat) → Int32 → Int32 → Mem → Option ((Int32) × Mem)) (hk116 : ∀ (a0 : Nat) (x116_1 : Int32) (x116_3 : Int32) (x116_4 : (Option Nat)) (x116_5 : (Option Nat)) (x116_6 : Int32) (x116_7 : Int32) (σ : Mem) (kc ks : Nat), P116 kc ks → Wo C G 9 (QP C G rvI 4 44) (k116 a0 x116_1 x116_3 x116_4 x116_5 x116_6 x116_7 σ) σ kc ks 116 [(0, va_rf (some a0)), (1, .int x116_1), (3, .int x116_3), (4, va_rf x116_4), (5, va_rf x116_5), (6, .int x116_6), (7, .int x116_7)] []) (a0 : Nat) (x116_1 : Int32) (x116_3 : Int32) (x116_4 : (Option Nat)) (x116_5 : (Option Nat)) (x116_6 : Int32) (x116_7 : Int32) (σ : Mem) (kc ks : Nat) (hN : kc + 1 ≤ 4 ∧ ks + 22 ≤ 44) (hP116 : P116 (kc + 0) (ks + 0)) : Wo C G 9 (QP C G rvI 4 44) (b_X8_pluck_116 G.2.2.2.1 G.2.2.2.2 k116 a0 x116_1 x116_3 x116_4 x116_5 x116_6 x116_7 σ) σ kc ks 116 [(0, va_rf (some a0)), (1, .int x116_1), (3, .int x116_3), (4, va_rf x116_4), (5, va_rf x116_5), (6, .int x116_6), (7, .int x116_7)] [] := by
  unfold b_X8_pluck_116
  refine r_iload hC 6 rfl dX8_pluck_116 ?_
  refine r_iconst hC (1) rfl dX8_pluck_118 ?_
  refine r_icmp_le hC 198 dX8_pluck_119 (by decide) ?_ ?_
  · refine r_aload hC 4 (r := x116_5) rfl dX8_pluck_198 ?_
    refine r_iconst hC (3) rfl dX8_pluck_200 ?_
    refine r_aload hC 4 (r := x116_5) rfl dX8_pluck_201 ?_
    refine call_V hC (av := []) (st := [.int 3, va_rf x116_5]) (r := x116_5) (ci := 7) rfl rfl (fun h9 => ct_X5_dry hC.hl G h9 σ) q_1157 q_1158 q_1159 q_63 q_1160 yd_X5_dry rfl ⟨Nat.le_of_ble_eq_true rfl, Nat.le_of_ble_eq_true rfl⟩ ⟨by omega, by omega⟩ rfl (by simp [cat_rf, cat_i, cat_j, cat_d, cat_a]) dX8_pluck_203 (fun v30 σ31 => ?_)
    show Wo _ _ _ _ _ _ _ _ _ _ [.int v30, .int 3, va_rf x116_5]
    refine r_imul hC dX8_pluck_206 (fun v33 => ?_)
    refine r_pI hC (k := 3) (r := x116_5) cls_7 (by decide) rfl q_1102 (Or.inl rfl) (Or.inl rfl) dX8_pluck_207 (fun σ34 => ?_)
    refine r_aload hC 4 (r := x116_5) rfl dX8_pluck_210 ?_
    refine r_aload hC 3 (r := x116_4) rfl dX8_pluck_212 ?_
    refine r_gI hC (k := 5) (r := x116_4) cls_8 (by decide) rfl q_911 (Or.inl rfl) dX8_pluck_214 (fun v35 => ?_)
    refine r_if_le hC 224 dX8_pluck_217 (by decide) ?_ ?_
    · refine r_iconst hC (0) rfl dX8_pluck_224 ?_
      refine Wo.sub [0, 2, 4] rfl ?_
      exact t_X8_pluck_225 hC a0 x116_3 x116_5 0 x116_5 σ34 _ _ ⟨by omega, by omega⟩
    · refine r_iconst hC (1) rfl dX8_pluck_220 ?_
      refine r_goto hC 225 dX8_pluck_221 (by decide) ?_
      refine Wo.sub [0, 2, 4] rfl ?_
      exact t_X8_pluck_225 hC a0 x116_3 x116_5 1 x116_5 σ34 _ _ ⟨by omega, by omega⟩
  · refine r_iload hC 5 rfl dX8_pluck_122 ?_
    refine r_aload hC 3 (r := x116_4) rfl dX8_pluck_124 ?_
    refine r_gR hC (k := 6) (r := x116_4) cls_8 (by decide) rfl q_913 (Or.inl rfl) dX8_pluck_126 (fun r56 => ?_)
    refine r_iload hC 6 rfl dX8_pluck_129 ?_
    refine r_aI hC (r := r56) dX8_pluck_131 (fun v57 => ?_)
    refine r_min hC q_1156 q_283 q_56 q_284 (Nat.le_of_ble_eq_true rfl) (Nat.le_of_ble_eq_true rfl) ⟨by omega, by omega⟩ dX8_pluck_132 (fun v58 => ?_)
    refine r_istore hC [(8, .int v58), (0, va_rf (some a0)), (1, .int x116_1), (3, .int x116_3), (4, va_rf x116_4), (5, va_rf x116_5), (6, .int x116_6), (7, .int x116_7)] (i := 8) (by decide) rfl dX8_pluck_135 ?_
    refine r_aload hC 4 (r := x116_4) rfl dX8_pluck_137 ?_
    refine r_gR hC (k := 6) (r := x116_4) cls_8 (by decide) rfl q_913 (Or.inl rfl) dX8_pluck_139 (fun r59 => ?_)
    refine r_iload hC 7 rfl dX8_pluck_142 ?_
    refine r_dup2 hC rfl (cat_rf _) dX8_pluck_144 ?_
    refine r_aI hC (r := r59) dX8_pluck_145 (fun v60 => ?_)
    refine r_iload hC 0 rfl dX8_pluck_146 ?_
    refine r_isub hC dX8_pluck_148 (fun v61 => ?_)
    refine r_wI hC (r := r59) dX8_pluck_149 (fun σ62 => ?_)
    refine r_iload hC 6 rfl dX8_pluck_150 ?_
    refine r_iload hC 0 rfl dX8_pluck_152 ?_
    refine r_isub hC dX8_pluck_154 (fun v63 => ?_)
    refine r_istore hC [(6, .int v63), (8, .int v58), (0, va_rf (some a0)), (1, .int x116_1), (3, .int x116_3), (4, va_rf x116_4), (5, va_rf x116_5), (7, .int x116_7)] (i := 6) (by decide) (by simp [List.filter, cat_rf, cat_i, cat_j, cat_d, cat_a]) dX8_pluck_155 ?_
    refine r_aload hC 6 (r := x116_5) rfl dX8_pluck_157 ?_
    refine r_gR hC (k := 1) (r := x116_5) cls_7 (by decide) rfl q_1098 (Or.inl rfl) dX8_pluck_159 (fun r64 => ?_)
    refine r_iloadn hC 3 rfl rfl dX8_pluck_162 ?_
    refine r_dup2 hC rfl (cat_rf _) dX8_pluck_163 ?_
    refine r_aI hC (r := r64) dX8_pluck_164 (fun v65 => ?_)
    refine r_iload hC 1 rfl dX8_pluck_165 ?_
    refine r_iload hC 7 rfl dX8_pluck_167 ?_
    refine r_iconst hC (1) rfl dX8_pluck_169 ?_
    refine r_iadd hC dX8_pluck_170 (fun v66 => ?_)
    refine r_imul hC dX8_pluck_171 (fun v67 => ?_)
    refine r_iadd hC dX8_pluck_172 (fun v68 => ?_)
    refine r_wI hC (r := r64) dX8_pluck_173 (fun σ69 => ?_)
    refine r_iload hC 7 rfl dX8_pluck_174 ?_
    refine r_iconst hC (2) rfl dX8_pluck_176 ?_
    refine r_icmp_ne hC 192 dX8_pluck_177 (by decide) ?_ ?_
    · refine Wo.sub [2, 3, 4, 5, 6, 0, 7] rfl ?_
      exact t_X8_pluck_192 hC P116 hm116 k116 hk116 a0 x116_1 x116_3 x116_4 x116_5 v63 x116_7 σ69 _ _ ⟨by omega, by omega⟩ (hm116 _ _ _ _ (by omega) (by omega) hP116)
    · refine r_aload hC 6 (r := x116_5) rfl dX8_pluck_180 ?_
      refine r_iload hC 1 rfl dX8_pluck_182 ?_
      refine r_iload hC 7 rfl dX8_pluck_184 ?_
      refine r_iconst hC (1) rfl dX8_pluck_186 ?_
      refine r_iadd hC dX8_pluck_187 (fun v71 => ?_)
      refine r_imul hC dX8_pluck_188 (fun v72 => ?_)
      refine r_pI hC (k := 2) (r := x116_5) cls_7 (by decide) rfl q_1100 (Or.inl rfl) (Or.inl rfl) dX8_pluck_189 (fun σ73 => ?_)
      refine Wo.sub [2, 3, 4, 5, 6, 0, 7] rfl ?_
      exact t_X8_pluck_192 hC P116 hm116 k116 hk116 a0 x116_1 x116_3 x116_4 x116_5 v63 x116_7 σ73 _ _ ⟨by omega, by omega⟩ (hm116 _ _ _ _ (by omega) (by omega) hP116)

set_option maxRecDepth 100000 in
set_option maxHeartbeats 4000000 in
theorem u_X8_pluck_116 {C : Cxt} {G : Glb} (hC : CX C G RX8 cX8_pluck 9 (some .int) 7 4 44 149) : ∀ (n : Nat) (a0 : Nat) (x116_1 : Int32) (x116_3 : Int32) (x116_4 : (Option Nat)) (x116_5 : (Option Nat)) (x116_6 : Int32) (x116_7 : Int32) (σ : Mem) (kc ks : Nat), (∀ m, n = m + 1 → (kc + m * 0 + 1 ≤ 4 ∧ ks + m * 0 + 22 ≤ 44)) → Wo C G 9 (QP C G rvI 4 44) (l_X8_pluck_116 G.2.2.2.1 G.2.2.2.2  n a0 x116_1 x116_3 x116_4 x116_5 x116_6 x116_7 σ) σ kc ks 116 [(0, va_rf (some a0)), (1, .int x116_1), (3, .int x116_3), (4, va_rf x116_4), (5, va_rf x116_5), (6, .int x116_6), (7, .int x116_7)] [] := by
  intro n
  induction n with
  | zero => intro a0 x116_1 x116_3 x116_4 x116_5 x116_6 x116_7 σ kc ks h0; exact Wo.none
  | succ n ih =>
    intro a0 x116_1 x116_3 x116_4 x116_5 x116_6 x116_7 σ kc ks h0
    exact t_X8_pluck_116 hC (fun kc ks => (∀ m, n = m + 1 → (kc + m * 0 + 1 ≤ 4 ∧ ks + m * 0 + 22 ≤ 44))) (fun a b a2 b2 h1 h2 h m e => ⟨by have := (h m e).1; omega, by have := (h m e).2; omega⟩) (l_X8_pluck_116 G.2.2.2.1 G.2.2.2.2  n) ih a0 x116_1 x116_3 x116_4 x116_5 x116_6 x116_7 σ kc ks ⟨by have := (h0 n rfl).1; omega, by have := (h0 n rfl).2; omega⟩ (fun m e => by
      subst e
      exact ⟨by have := (h0 _ rfl).1; omega, by have := (h0 _ rfl).2; omega⟩)

set_option maxRecDepth 100000 in
set_option maxHeartbeats 4000000 in
theorem t_X8_pluck_87 {C : Cxt} {G : Glb} (hC : CX C G RX8 cX8_pluck 9 (some .int) 7 4 44 149) (a0 : Nat) (x87_1 : Int32) (x87_2 : Int32) (x87_3 : Int32) (x87_4 : (Option Nat)) (y87_0 : Int32) (y87_1 : (Option Nat)) (σ : Mem) (kc ks : Nat) (hN : kc + 4 ≤ 4 ∧ ks + 44 ≤ 44) : Wo C G 9 (QP C G rvI 4 44) (b_X8_pluck_87 G.2.2.2.1 G.2.2.2.2  a0 x87_1 x87_2 x87_3 x87_4 y87_0 y87_1 σ) σ kc ks 87 [(0, va_rf (some a0)), (1, .int x87_1), (2, .int x87_2), (3, .int x87_3), (4, va_rf x87_4)] [.int y87_0, va_rf y87_1] := by
  unfold b_X8_pluck_87
  refine r_iconst hC (3) rfl dX8_pluck_87 ?_
  refine call_V hC (av := [.int y87_0, .int 3]) (st := []) (r := y87_1) (ci := 10) rfl rfl (fun h9 => ct_X8_refuse hC.hl G h9 y87_0 3 σ) q_886 q_888 q_13 q_44 q_889 yd_X8_refuse rfl ⟨Nat.le_of_ble_eq_true rfl, Nat.le_of_ble_eq_true rfl⟩ ⟨by omega, by omega⟩ rfl (Nat.le_of_ble_eq_true rfl) dX8_pluck_88 (fun v20 σ21 => ?_)
  show Wo _ _ _ _ _ _ _ _ _ _ [.int v20]
  refine r_if_eq hC 96 dX8_pluck_91 (by decide) ?_ ?_
  · refine r_nO hC cls_7 q_1087 q_1088 q_63 ⟨by omega, by omega⟩ dX8_pluck_96 (fun σ23 r24 => ?_)
    refine r_dup hC (cat_rf _) dX8_pluck_99 ?_
    refine call_IN hC (av := []) (st := [va_rf r24]) (r := r24) (ci := 7) (fun h9 => ct_X5_init hC.hl G h9 σ23) z_1089 q_1090 q_63 q_1091 rfl yd_X5_init rfl ⟨Nat.le_of_ble_eq_true rfl, Nat.le_of_ble_eq_true rfl⟩ ⟨by omega, by omega⟩ rfl (by simp [cat_rf, cat_i, cat_j, cat_d, cat_a]) dX8_pluck_100 (fun σ26 => ?_)
    refine r_astore hC [(5, va_rf r24), (0, va_rf (some a0)), (1, .int x87_1), (2, .int x87_2), (3, .int x87_3), (4, va_rf x87_4)] (r := r24) (i := 5) (by decide) (by simp [List.filter, cat_rf, cat_i, cat_j, cat_d, cat_a]) dX8_pluck_103 ?_
    refine r_bipush hC (8) (by decide) dX8_pluck_105 ?_
    refine r_iloadn hC 4 rfl rfl dX8_pluck_107 ?_
    refine r_imul hC dX8_pluck_108 (fun v28 => ?_)
    refine r_istore hC [(6, .int v28), (5, va_rf r24), (0, va_rf (some a0)), (1, .int x87_1), (2, .int x87_2), (3, .int x87_3), (4, va_rf x87_4)] (i := 6) (by decide) (by simp [List.filter, cat_rf, cat_i, cat_j, cat_d, cat_a]) dX8_pluck_109 ?_
    refine r_iloadn hC 4 rfl rfl dX8_pluck_111 ?_
    refine r_iconst hC (1) rfl dX8_pluck_112 ?_
    refine r_iadd hC dX8_pluck_113 (fun v29 => ?_)
    refine r_istore hC [(7, .int v29), (6, .int v28), (5, va_rf r24), (0, va_rf (some a0)), (1, .int x87_1), (2, .int x87_2), (3, .int x87_3), (4, va_rf x87_4)] (i := 7) (by decide) rfl dX8_pluck_114 ?_
    refine Wo.sub [3, 4, 6, 7, 2, 1, 0] rfl ?_
    exact u_X8_pluck_116 hC 40 a0 x87_1 x87_3 x87_4 r24 v28 v29 σ26 _ _ (fun m e => by cases e; exact ⟨by omega, by omega⟩)
  · refine r_iconst hC (0) rfl dX8_pluck_94 ?_
    exact e_I hC ⟨by omega, by omega⟩ dX8_pluck_95

set_option maxRecDepth 100000 in
set_option maxHeartbeats 4000000 in
theorem t_X8_pluck_82 {C : Cxt} {G : Glb} (hC : CX C G RX8 cX8_pluck 9 (some .int) 7 4 44 149) (a0 : Nat) (x82_1 : Int32) (x82_2 : Int32) (x82_3 : Int32) (x82_4 : (Option Nat)) (y82_0 : (Option Nat)) (σ : Mem) (kc ks : Nat) (hN : kc + 4 ≤ 4 ∧ ks + 44 ≤ 44) : Wo C G 9 (QP C G rvI 4 44) (b_X8_pluck_82 G.2.2.2.1 G.2.2.2.2  a0 x82_1 x82_2 x82_3 x82_4 y82_0 σ) σ kc ks 82 [(0, va_rf (some a0)), (1, .int x82_1), (2, .int x82_2), (3, .int x82_3), (4, va_rf x82_4)] [va_rf y82_0] := by
  unfold b_X8_pluck_82
  refine r_iconst hC (1) rfl dX8_pluck_82 ?_
  refine r_goto hC 87 dX8_pluck_83 (by decide) ?_
  exact t_X8_pluck_87 hC a0 x82_1 x82_2 x82_3 x82_4 1 y82_0 σ _ _ ⟨by omega, by omega⟩

set_option maxRecDepth 100000 in
set_option maxHeartbeats 4000000 in
theorem t_X8_pluck_38 {C : Cxt} {G : Glb} (hC : CX C G RX8 cX8_pluck 9 (some .int) 7 4 44 149) (a0 : Nat) (x38_1 : Int32) (x38_2 : Int32) (x38_3 : Int32) (y38_0 : Int32) (y38_1 : (Option Nat)) (σ : Mem) (kc ks : Nat) (hN : kc + 4 ≤ 4 ∧ ks + 44 ≤ 44) : Wo C G 9 (QP C G rvI 4 44) (b_X8_pluck_38 G.2.2.2.1 G.2.2.2.2  a0 x38_1 x38_2 x38_3 y38_0 y38_1 σ) σ kc ks 38 [(0, va_rf (some a0)), (1, .int x38_1), (2, .int x38_2), (3, .int x38_3)] [.int y38_0, va_rf y38_1] := by
  unfold b_X8_pluck_38
  refine r_iconst hC (2) rfl dX8_pluck_38 ?_
  refine call_V hC (av := [.int y38_0, .int 2]) (st := []) (r := y38_1) (ci := 10) rfl rfl (fun h9 => ct_X8_refuse hC.hl G h9 y38_0 2 σ) q_886 q_888 q_13 q_44 q_889 yd_X8_refuse rfl ⟨Nat.le_of_ble_eq_true rfl, Nat.le_of_ble_eq_true rfl⟩ ⟨by omega, by omega⟩ rfl (Nat.le_of_ble_eq_true rfl) dX8_pluck_39 (fun v9 σ10 => ?_)
  show Wo _ _ _ _ _ _ _ _ _ _ [.int v9]
  refine r_if_eq hC 47 dX8_pluck_42 (by decide) ?_ ?_
  · refine r_aloadn hC 0 (r := (some a0)) rfl rfl dX8_pluck_47 ?_
    refine r_gR hC (k := 6) (r := (some a0)) cls_10 (by decide) rfl q_846 (Or.inl rfl) dX8_pluck_48 (fun r12 => ?_)
    refine r_iloadn hC 1 rfl rfl dX8_pluck_51 ?_
    refine call_V hC (av := [.int x38_1]) (st := []) (r := r12) (ci := 1) rfl rfl (fun h9 => ct_Jx4a65c_get_915e3 hC.hl G h9 x38_1 σ10) q_1057 q_1058 q_1059 q_47 q_1060 yd_Jx4a65c_get_915e3 rfl ⟨Nat.le_of_ble_eq_true rfl, Nat.le_of_ble_eq_true rfl⟩ ⟨by omega, by omega⟩ rfl (Nat.le_of_ble_eq_true rfl) dX8_pluck_52 (fun r13 σ14 => ?_)
    show Wo _ _ _ _ _ _ _ _ _ _ [va_rf r13]
    refine r_ckO hC (r := r13) cls_8 q_894 dX8_pluck_55 ?_
    refine r_astore hC [(4, va_rf r13), (0, va_rf (some a0)), (1, .int x38_1), (2, .int x38_2), (3, .int x38_3)] (r := r13) (i := 4) (by decide) rfl dX8_pluck_58 ?_
    refine r_aloadn hC 1 (r := (some a0)) rfl rfl dX8_pluck_60 ?_
    refine r_aloadn hC 1 (r := (some a0)) rfl rfl dX8_pluck_61 ?_
    refine r_gR hC (k := 7) (r := (some a0)) cls_10 (by decide) rfl q_847 (Or.inl rfl) dX8_pluck_62 (fun r16 => ?_)
    refine call_V hC (av := []) (st := [va_rf (some a0)]) (r := r16) (ci := 1) rfl rfl (fun h9 => ct_Jx4a65c_size_8abf5 hC.hl G h9 σ14) q_890 q_891 q_892 q_47 q_893 yd_Jx4a65c_size_8abf5 rfl ⟨Nat.le_of_ble_eq_true rfl, Nat.le_of_ble_eq_true rfl⟩ ⟨by omega, by omega⟩ rfl (by simp [cat_rf, cat_i, cat_j, cat_d, cat_a]) dX8_pluck_65 (fun v17 σ18 => ?_)
    show Wo _ _ _ _ _ _ _ _ _ _ [.int v17, va_rf (some a0)]
    refine r_bipush hC (16) (by decide) dX8_pluck_68 ?_
    refine r_icmp_eq hC 82 dX8_pluck_70 (by decide) ?_ ?_
    · refine Wo.sub [1, 2, 3, 4, 0] rfl ?_
      exact t_X8_pluck_82 hC a0 x38_1 x38_2 x38_3 r13 (some a0) σ18 _ _ ⟨by omega, by omega⟩
    · refine r_aload hC 0 (r := r13) rfl dX8_pluck_73 ?_
      refine r_iloadn hC 3 rfl rfl dX8_pluck_75 ?_
      refine call_V hC (av := [.int x38_2]) (st := [va_rf (some a0)]) (r := r13) (ci := 8) rfl rfl (fun h9 => ct_X6_mayTake hC.hl G h9 x38_2 σ18) q_1083 q_1084 q_1085 q_54 q_1086 yd_X6_mayTake rfl ⟨Nat.le_of_ble_eq_true rfl, Nat.le_of_ble_eq_true rfl⟩ ⟨by omega, by omega⟩ rfl (by simp [cat_rf, cat_i, cat_j, cat_d, cat_a]) dX8_pluck_76 (fun v74 σ75 => ?_)
      show Wo _ _ _ _ _ _ _ _ _ _ [.int v74, va_rf (some a0)]
      refine r_if_ne hC 86 dX8_pluck_79 (by decide) ?_ ?_
      · refine r_iconst hC (0) rfl dX8_pluck_86 ?_
        refine Wo.sub [1, 2, 3, 4, 0] rfl ?_
        exact t_X8_pluck_87 hC a0 x38_1 x38_2 x38_3 r13 0 (some a0) σ75 _ _ ⟨by omega, by omega⟩
      · refine Wo.sub [1, 2, 3, 4, 0] rfl ?_
        exact t_X8_pluck_82 hC a0 x38_1 x38_2 x38_3 r13 (some a0) σ75 _ _ ⟨by omega, by omega⟩
  · refine Wo.sub [] rfl ?_
    exact t_X8_pluck_45 hC  σ10 _ _ ⟨by omega, by omega⟩

set_option maxRecDepth 100000 in
set_option maxHeartbeats 4000000 in
theorem t_X8_pluck_33 {C : Cxt} {G : Glb} (hC : CX C G RX8 cX8_pluck 9 (some .int) 7 4 44 149) (a0 : Nat) (x33_1 : Int32) (x33_2 : Int32) (x33_3 : Int32) (y33_0 : (Option Nat)) (σ : Mem) (kc ks : Nat) (hN : kc + 4 ≤ 4 ∧ ks + 44 ≤ 44) : Wo C G 9 (QP C G rvI 4 44) (b_X8_pluck_33 G.2.2.2.1 G.2.2.2.2  a0 x33_1 x33_2 x33_3 y33_0 σ) σ kc ks 33 [(0, va_rf (some a0)), (1, .int x33_1), (2, .int x33_2), (3, .int x33_3)] [va_rf y33_0] := by
  unfold b_X8_pluck_33
  refine r_iconst hC (1) rfl dX8_pluck_33 ?_
  refine r_goto hC 38 dX8_pluck_34 (by decide) ?_
  exact t_X8_pluck_38 hC a0 x33_1 x33_2 x33_3 1 y33_0 σ _ _ ⟨by omega, by omega⟩

set_option maxRecDepth 100000 in
set_option maxHeartbeats 4000000 in
theorem t_X8_pluck_0 {C : Cxt} {G : Glb} (hC : CX C G RX8 cX8_pluck 9 (some .int) 7 4 44 149) (a0 : Nat) (p0 : Int32) (p1 : Int32) (p2 : Int32) (σ : Mem) (kc ks : Nat) (hN : kc + 4 ≤ 4 ∧ ks + 44 ≤ 44) : Wo C G 9 (QP C G rvI 4 44) (b_X8_pluck_0 G.2.2.2.1 G.2.2.2.2  a0 p0 p1 p2 σ) σ kc ks 0 [(0, va_rf (some a0)), (1, .int p0), (2, .int p1), (3, .int p2)] [] := by
  unfold b_X8_pluck_0
  refine r_aloadn hC 0 (r := (some a0)) rfl rfl dX8_pluck_0 ?_
  refine r_aloadn hC 0 (r := (some a0)) rfl rfl dX8_pluck_1 ?_
  refine r_iloadn hC 1 rfl rfl dX8_pluck_2 ?_
  refine call_V hC (av := [.int p0]) (st := [va_rf (some a0)]) (r := (some a0)) (ci := 10) rfl rfl (fun h9 => ct_X8_isNoSection hC.hl G h9 p0 σ) q_1053 q_1055 q_18 q_44 q_1056 yd_X8_isNoSection rfl ⟨Nat.le_of_ble_eq_true rfl, Nat.le_of_ble_eq_true rfl⟩ ⟨by omega, by omega⟩ rfl (by simp [cat_rf, cat_i, cat_j, cat_d, cat_a]) dX8_pluck_3 (fun v1 σ2 => ?_)
  show Wo _ _ _ _ _ _ _ _ _ _ [.int v1, va_rf (some a0)]
  refine r_iconst hC (1) rfl dX8_pluck_6 ?_
  refine call_V hC (av := [.int v1, .int 1]) (st := []) (r := (some a0)) (ci := 10) rfl rfl (fun h9 => ct_X8_start hC.hl G h9 v1 1 σ2) q_882 q_884 q_12 q_44 q_885 yd_X8_start rfl ⟨Nat.le_of_ble_eq_true rfl, Nat.le_of_ble_eq_true rfl⟩ ⟨by omega, by omega⟩ rfl (Nat.le_of_ble_eq_true rfl) dX8_pluck_7 (fun v4 σ5 => ?_)
  show Wo _ _ _ _ _ _ _ _ _ _ [.int v4]
  refine r_if_ne hC 45 dX8_pluck_10 (by decide) ?_ ?_
  · refine Wo.sub [] rfl ?_
    exact t_X8_pluck_45 hC  σ5 _ _ ⟨by omega, by omega⟩
  · refine r_aloadn hC 0 (r := (some a0)) rfl rfl dX8_pluck_13 ?_
    refine r_iloadn hC 2 rfl rfl dX8_pluck_14 ?_
    refine r_iconst hC (1) rfl dX8_pluck_15 ?_
    refine r_iconst hC (3) rfl dX8_pluck_16 ?_
    refine call_S hC (av := [.int p1, .int 1, .int 3]) (st := [va_rf (some a0)]) (ct_X8_isIn hC.hl G p1 1 3 σ5) q_879 q_880 q_44 q_881 yd_X8_isIn rfl ⟨Nat.le_of_ble_eq_true rfl, Nat.le_of_ble_eq_true rfl⟩ ⟨by omega, by omega⟩ rfl (by simp [cat_rf, cat_i, cat_j, cat_d, cat_a]) dX8_pluck_17 (fun v7 σ8 => ?_)
    show Wo _ _ _ _ _ _ _ _ _ _ [.int v7, va_rf (some a0)]
    refine r_if_eq hC 33 dX8_pluck_20 (by decide) ?_ ?_
    · exact t_X8_pluck_33 hC a0 p0 p1 p2 (some a0) σ8 _ _ ⟨by omega, by omega⟩
    · refine r_iloadn hC 3 rfl rfl dX8_pluck_23 ?_
      refine r_iconst hC (1) rfl dX8_pluck_24 ?_
      refine r_bipush hC (9) (by decide) dX8_pluck_25 ?_
      refine call_S hC (av := [.int p2, .int 1, .int 9]) (st := [va_rf (some a0)]) (ct_X8_isIn hC.hl G p2 1 9 σ8) q_879 q_880 q_44 q_881 yd_X8_isIn rfl ⟨Nat.le_of_ble_eq_true rfl, Nat.le_of_ble_eq_true rfl⟩ ⟨by omega, by omega⟩ rfl (by simp [cat_rf, cat_i, cat_j, cat_d, cat_a]) dX8_pluck_27 (fun v77 σ78 => ?_)
      show Wo _ _ _ _ _ _ _ _ _ _ [.int v77, va_rf (some a0)]
      refine r_if_ne hC 37 dX8_pluck_30 (by decide) ?_ ?_
      · refine r_iconst hC (0) rfl dX8_pluck_37 ?_
        exact t_X8_pluck_38 hC a0 p0 p1 p2 0 (some a0) σ78 _ _ ⟨by omega, by omega⟩
      · exact t_X8_pluck_33 hC a0 p0 p1 p2 (some a0) σ78 _ _ ⟨by omega, by omega⟩

set_option maxRecDepth 100000 in
set_option maxHeartbeats 4000000 in
theorem ct_X8_pluck {l : Launch} (hl : l.stackTraces = false) (G : Glb) (a0 : Nat) (p0 : Int32) (p1 : Int32) (p2 : Int32) (σ : Mem) : Ct rvI l yX8_pluck (Cond.code yX8_pluck cX8_pluck 9 (some .int) :: uW) { frames := 7, cells := 4, slots := 44, locals := 149 } 4 44 G [.ref a0, .int p0, .int p1, .int p2] σ (f_X8_pluck G.2.2.2.1 G.2.2.2.2 a0 p0 p1 p2 σ) := by
  refine Ct.of hl (by decide +kernel) (Nat.le_of_ble_eq_true rfl) (fun C hC hin => ?_)
  have e : lv_args 0 [.ref a0, .int p0, .int p1, .int p2] = [(0, .ref a0), (1, .int p0), (2, .int p1), (3, .int p2)] := rfl
  rw [e]
  exact t_X8_pluck_0 hC a0 p0 p1 p2 σ 0 0 ⟨Nat.le_of_ble_eq_true rfl, Nat.le_of_ble_eq_true rfl⟩

noncomputable def b_X8_join_47 (σ : Mem) : Option ((Int32) × Mem) :=
some (0, σ)

noncomputable def b_X8_join_131 (k131 : (Option Nat) → (Option Nat) → Int32 → Mem → Option ((Int32) × Mem)) (x131_3 : (Option Nat)) (x131_4 : (Option Nat)) (x131_5 : Int32) (σ : Mem) : Option ((Int32) × Mem) :=
if 4 ≤ x131_5 then
gI 7 2 σ x131_3 fun v22 =>
gI 7 2 σ x131_4 fun v23 =>
nm (v22 + v23) fun v24 =>
pI 7 2 σ x131_3 v24 fun σ25 =>
gI 7 3 σ25 x131_3 fun v26 =>
gI 7 3 σ25 x131_4 fun v27 =>
nm (v26 + v27) fun v28 =>
pI 7 3 σ25 x131_3 v28 fun σ29 =>
gI 7 11 σ29 x131_3 fun v30 =>
gI 7 11 σ29 x131_4 fun v31 =>
nm (v30 ||| v31) fun v32 =>
pB 7 11 σ29 x131_3 v32 fun σ33 =>
ob 7 σ33 x131_4 fun h36 => cl1 (f_X5_go h36 σ33) fun u34 σ35 =>
ob 7 σ35 x131_3 fun h39 => cl1 (f_X5_dry h39 σ35) fun v37 σ38 =>
some (v37, σ38)
else
gR 7 1 σ x131_3 fun r40 =>
aI σ r40 x131_5 fun v41 =>
gR 7 1 σ x131_4 fun r42 =>
aI σ r42 x131_5 fun v43 =>
nm (v41 + v43) fun v44 =>
wI σ r40 x131_5 v44 fun σ45 =>
nm (x131_5 + 1) fun v46 =>
k131 x131_3 x131_4 v46 σ45

noncomputable def l_X8_join_131 (n : Nat) : (Option Nat) → (Option Nat) → Int32 → Mem → Option ((Int32) × Mem) := itr (fun _ _ _ _ => none) (fun k => b_X8_join_131  k) n

noncomputable def b_X8_join_119 (x119_3 : (Option Nat)) (x119_4 : (Option Nat)) (y119_0 : Int32) (y119_1 : (Option Nat)) (σ : Mem) : Option ((Int32) × Mem) :=
ob 10 σ y119_1 fun h21 => cl1 (f_X8_refuse h21 y119_0 3 σ) fun v19 σ20 =>
if v19 = 0 then
l_X8_join_131 40 x119_3 x119_4 0 σ20
else
some (0, σ20)

noncomputable def b_X8_join_114 (x114_3 : (Option Nat)) (x114_4 : (Option Nat)) (y114_0 : (Option Nat)) (σ : Mem) : Option ((Int32) × Mem) :=
b_X8_join_119 x114_3 x114_4 1 y114_0 σ

noncomputable def b_X8_join_40 (a0 : Nat) (x40_1 : Int32) (x40_2 : Int32) (y40_0 : Int32) (y40_1 : (Option Nat)) (σ : Mem) : Option ((Int32) × Mem) :=
ob 10 σ y40_1 fun h9 => cl1 (f_X8_refuse h9 y40_0 2 σ) fun v7 σ8 =>
if v7 = 0 then
gR 10 7 σ8 (some a0) fun r10 =>
ob 1 σ8 r10 fun h13 => cl1 (f_Jx4a65c_get_915e3 h13 x40_1 σ8) fun r11 σ12 =>
ck 8 σ12 r11 <|
gR 10 7 σ12 (some a0) fun r14 =>
ob 1 σ12 r14 fun h17 => cl1 (f_Jx4a65c_get_915e3 h17 x40_2 σ12) fun r15 σ16 =>
ck 8 σ16 r15 <|
gI 7 0 σ16 r11 fun v18 =>
if v18 = 0 then
gI 7 0 σ16 r15 fun v47 =>
if v47 = 0 then
gI 7 4 σ16 r11 fun v48 =>
gI 7 4 σ16 r15 fun v49 =>
if v48 = v49 then
gI 7 10 σ16 r11 fun v50 =>
gI 7 10 σ16 r15 fun v51 =>
if v50 = v51 then
b_X8_join_119 r11 r15 0 (some a0) σ16
else
b_X8_join_114 r11 r15 (some a0) σ16
else
b_X8_join_114 r11 r15 (some a0) σ16
else
b_X8_join_114 r11 r15 (some a0) σ16
else
b_X8_join_114 r11 r15 (some a0) σ16
else
b_X8_join_47 σ8

noncomputable def b_X8_join_22 (a0 : Nat) (x22_1 : Int32) (x22_2 : Int32) (y22_0 : Int32) (y22_1 : (Option Nat)) (σ : Mem) : Option ((Int32) × Mem) :=
ob 10 σ y22_1 fun h6 => cl1 (f_X8_start h6 y22_0 1 σ) fun v4 σ5 =>
if v4 = 0 then
if x22_1 = x22_2 then
b_X8_join_40 a0 x22_1 x22_2 1 (some a0) σ5
else
b_X8_join_40 a0 x22_1 x22_2 0 (some a0) σ5
else
b_X8_join_47 σ5

noncomputable def b_X8_join_17 (a0 : Nat) (x17_1 : Int32) (x17_2 : Int32) (y17_0 : (Option Nat)) (σ : Mem) : Option ((Int32) × Mem) :=
b_X8_join_22 a0 x17_1 x17_2 1 y17_0 σ

noncomputable def b_X8_join_0 (a0 : Nat) (p0 : Int32) (p1 : Int32) (σ : Mem) : Option ((Int32) × Mem) :=
ob 10 σ (some a0) fun h3 => cl1 (f_X8_isNoLot h3 p0 σ) fun v1 σ2 =>
if v1 = 0 then
ob 10 σ2 (some a0) fun h54 => cl1 (f_X8_isNoLot h54 p1 σ2) fun v52 σ53 =>
if v52 = 0 then
b_X8_join_22 a0 p0 p1 0 (some a0) σ53
else
b_X8_join_17 a0 p0 p1 (some a0) σ53
else
b_X8_join_17 a0 p0 p1 (some a0) σ2

noncomputable def f_X8_join (a0 : Nat) (p0 : Int32) (p1 : Int32) (σ : Mem) : Option ((Int32) × Mem) := b_X8_join_0 a0 p0 p1 σ
set_option maxRecDepth 100000 in
set_option maxHeartbeats 4000000 in
theorem t_X8_join_47 {C : Cxt} {G : Glb} (hC : CX C G RX8 cX8_join 6 (some .int) 3 0 0 64) (σ : Mem) : Wo C G 6 (QP C G rvI 0 0) (b_X8_join_47   σ) σ 0 0 47 [] [] := by
  unfold b_X8_join_47
  refine r_iconst hC (0) rfl dX8_join_47 ?_
  exact e_I hC ⟨Nat.zero_le _, Nat.zero_le _⟩ dX8_join_48

set_option maxRecDepth 100000 in
set_option maxHeartbeats 4000000 in
theorem t_X8_join_131 {C : Cxt} {G : Glb} (hC : CX C G RX8 cX8_join 6 (some .int) 3 0 0 64) (k131 : (Option Nat) → (Option Nat) → Int32 → Mem → Option ((Int32) × Mem)) (hk131 : ∀ (x131_3 : (Option Nat)) (x131_4 : (Option Nat)) (x131_5 : Int32) (σ : Mem), Wo C G 6 (QP C G rvI 0 0) (k131 x131_3 x131_4 x131_5 σ) σ 0 0 131 [(3, va_rf x131_3), (4, va_rf x131_4), (5, .int x131_5)] []) (x131_3 : (Option Nat)) (x131_4 : (Option Nat)) (x131_5 : Int32) (σ : Mem) : Wo C G 6 (QP C G rvI 0 0) (b_X8_join_131 k131 x131_3 x131_4 x131_5 σ) σ 0 0 131 [(3, va_rf x131_3), (4, va_rf x131_4), (5, .int x131_5)] [] := by
  unfold b_X8_join_131
  refine r_iload hC 2 rfl dX8_join_131 ?_
  refine r_iconst hC (4) rfl dX8_join_133 ?_
  refine r_icmp_ge hC 161 dX8_join_134 (by decide) ?_ ?_
  · refine r_aloadn hC 0 (r := x131_3) rfl rfl dX8_join_161 ?_
    refine r_dup hC (cat_rf _) dX8_join_162 ?_
    refine r_gI hC (k := 2) (r := x131_3) cls_7 (by decide) rfl q_1100 (Or.inl rfl) dX8_join_163 (fun v22 => ?_)
    refine r_aload hC 1 (r := x131_4) rfl dX8_join_166 ?_
    refine r_gI hC (k := 2) (r := x131_4) cls_7 (by decide) rfl q_1100 (Or.inl rfl) dX8_join_168 (fun v23 => ?_)
    refine r_iadd hC dX8_join_171 (fun v24 => ?_)
    refine r_pI hC (k := 2) (r := x131_3) cls_7 (by decide) rfl q_1100 (Or.inl rfl) (Or.inl rfl) dX8_join_172 (fun σ25 => ?_)
    refine r_aloadn hC 0 (r := x131_3) rfl rfl dX8_join_175 ?_
    refine r_dup hC (cat_rf _) dX8_join_176 ?_
    refine r_gI hC (k := 3) (r := x131_3) cls_7 (by decide) rfl q_1102 (Or.inl rfl) dX8_join_177 (fun v26 => ?_)
    refine r_aload hC 1 (r := x131_4) rfl dX8_join_180 ?_
    refine r_gI hC (k := 3) (r := x131_4) cls_7 (by decide) rfl q_1102 (Or.inl rfl) dX8_join_182 (fun v27 => ?_)
    refine r_iadd hC dX8_join_185 (fun v28 => ?_)
    refine r_pI hC (k := 3) (r := x131_3) cls_7 (by decide) rfl q_1102 (Or.inl rfl) (Or.inl rfl) dX8_join_186 (fun σ29 => ?_)
    refine r_aloadn hC 0 (r := x131_3) rfl rfl dX8_join_189 ?_
    refine r_dup hC (cat_rf _) dX8_join_190 ?_
    refine r_gI hC (k := 11) (r := x131_3) cls_7 (by decide) rfl q_1118 (Or.inl rfl) dX8_join_191 (fun v30 => ?_)
    refine r_aload hC 1 (r := x131_4) rfl dX8_join_194 ?_
    refine r_gI hC (k := 11) (r := x131_4) cls_7 (by decide) rfl q_1118 (Or.inl rfl) dX8_join_196 (fun v31 => ?_)
    refine r_ior hC dX8_join_199 (fun v32 => ?_)
    refine r_pB hC (k := 11) (r := x131_3) cls_7 (by decide) rfl q_1118 (Or.inl rfl) (Or.inl rfl) dX8_join_200 (fun σ33 => ?_)
    refine r_aload hC 1 (r := x131_4) rfl dX8_join_203 ?_
    refine call_V hC (av := []) (st := []) (r := x131_4) (ci := 7) rfl rfl (fun h9 => ct_X5_go hC.hl G h9 σ33) q_1169 q_1170 q_1171 q_63 q_1172 yd_X5_go rfl ⟨Nat.le_of_ble_eq_true rfl, Nat.le_of_ble_eq_true rfl⟩ ⟨Nat.zero_le _, Nat.zero_le _⟩ rfl (Nat.le_of_ble_eq_true rfl) dX8_join_205 (fun u34 σ35 => ?_)
    show Wo _ _ _ _ _ _ _ _ _ _ []
    refine r_aloadn hC 0 (r := x131_3) rfl rfl dX8_join_208 ?_
    refine call_V hC (av := []) (st := []) (r := x131_3) (ci := 7) rfl rfl (fun h9 => ct_X5_dry hC.hl G h9 σ35) q_1157 q_1158 q_1159 q_63 q_1160 yd_X5_dry rfl ⟨Nat.le_of_ble_eq_true rfl, Nat.le_of_ble_eq_true rfl⟩ ⟨Nat.zero_le _, Nat.zero_le _⟩ rfl (Nat.le_of_ble_eq_true rfl) dX8_join_209 (fun v37 σ38 => ?_)
    show Wo _ _ _ _ _ _ _ _ _ _ [.int v37]
    exact e_I hC ⟨Nat.zero_le _, Nat.zero_le _⟩ dX8_join_212
  · refine r_aloadn hC 0 (r := x131_3) rfl rfl dX8_join_137 ?_
    refine r_gR hC (k := 1) (r := x131_3) cls_7 (by decide) rfl q_1098 (Or.inl rfl) dX8_join_138 (fun r40 => ?_)
    refine r_iload hC 2 rfl dX8_join_141 ?_
    refine r_dup2 hC rfl (cat_rf _) dX8_join_143 ?_
    refine r_aI hC (r := r40) dX8_join_144 (fun v41 => ?_)
    refine r_aload hC 1 (r := x131_4) rfl dX8_join_145 ?_
    refine r_gR hC (k := 1) (r := x131_4) cls_7 (by decide) rfl q_1098 (Or.inl rfl) dX8_join_147 (fun r42 => ?_)
    refine r_iload hC 2 rfl dX8_join_150 ?_
    refine r_aI hC (r := r42) dX8_join_152 (fun v43 => ?_)
    refine r_iadd hC dX8_join_153 (fun v44 => ?_)
    refine r_wI hC (r := r40) dX8_join_154 (fun σ45 => ?_)
    refine r_iinc hC 2 (fun w => [(5, .int w), (3, va_rf x131_3), (4, va_rf x131_4)]) 1 rfl (by decide) rfl (fun w => by simp [List.filter, cat_rf, cat_i, cat_j, cat_d, cat_a]) dX8_join_155 (fun v46 => ?_)
    refine r_goto hC 131 dX8_join_158 (by decide) ?_
    refine Wo.sub [1, 2, 0] rfl ?_
    exact hk131 x131_3 x131_4 v46 σ45

set_option maxRecDepth 100000 in
set_option maxHeartbeats 4000000 in
theorem u_X8_join_131 {C : Cxt} {G : Glb} (hC : CX C G RX8 cX8_join 6 (some .int) 3 0 0 64) : ∀ (n : Nat) (x131_3 : (Option Nat)) (x131_4 : (Option Nat)) (x131_5 : Int32) (σ : Mem), Wo C G 6 (QP C G rvI 0 0) (l_X8_join_131  n x131_3 x131_4 x131_5 σ) σ 0 0 131 [(3, va_rf x131_3), (4, va_rf x131_4), (5, .int x131_5)] [] := by
  intro n
  induction n with
  | zero => intro x131_3 x131_4 x131_5 σ; exact Wo.none
  | succ n ih => intro x131_3 x131_4 x131_5 σ; exact t_X8_join_131 hC (l_X8_join_131  n) ih x131_3 x131_4 x131_5 σ

set_option maxRecDepth 100000 in
set_option maxHeartbeats 4000000 in
theorem t_X8_join_119 {C : Cxt} {G : Glb} (hC : CX C G RX8 cX8_join 6 (some .int) 3 0 0 64) (x119_3 : (Option Nat)) (x119_4 : (Option Nat)) (y119_0 : Int32) (y119_1 : (Option Nat)) (σ : Mem) : Wo C G 6 (QP C G rvI 0 0) (b_X8_join_119  x119_3 x119_4 y119_0 y119_1 σ) σ 0 0 119 [(3, va_rf x119_3), (4, va_rf x119_4)] [.int y119_0, va_rf y119_1] := by
  unfold b_X8_join_119
  refine r_iconst hC (3) rfl dX8_join_119 ?_
  refine call_V hC (av := [.int y119_0, .int 3]) (st := []) (r := y119_1) (ci := 10) rfl rfl (fun h9 => ct_X8_refuse hC.hl G h9 y119_0 3 σ) q_886 q_888 q_13 q_44 q_889 yd_X8_refuse rfl ⟨Nat.le_of_ble_eq_true rfl, Nat.le_of_ble_eq_true rfl⟩ ⟨Nat.zero_le _, Nat.zero_le _⟩ rfl (Nat.le_of_ble_eq_true rfl) dX8_join_120 (fun v19 σ20 => ?_)
  show Wo _ _ _ _ _ _ _ _ _ _ [.int v19]
  refine r_if_eq hC 128 dX8_join_123 (by decide) ?_ ?_
  · refine r_iconst hC (0) rfl dX8_join_128 ?_
    refine r_istore hC [(5, .int 0), (3, va_rf x119_3), (4, va_rf x119_4)] (i := 5) (by decide) (by simp [List.filter, cat_rf, cat_i, cat_j, cat_d, cat_a]) dX8_join_129 ?_
    refine Wo.sub [1, 2, 0] rfl ?_
    exact u_X8_join_131 hC 40 x119_3 x119_4 0 σ20
  · refine r_iconst hC (0) rfl dX8_join_126 ?_
    exact e_I hC ⟨Nat.zero_le _, Nat.zero_le _⟩ dX8_join_127

set_option maxRecDepth 100000 in
set_option maxHeartbeats 4000000 in
theorem t_X8_join_114 {C : Cxt} {G : Glb} (hC : CX C G RX8 cX8_join 6 (some .int) 3 0 0 64) (x114_3 : (Option Nat)) (x114_4 : (Option Nat)) (y114_0 : (Option Nat)) (σ : Mem) : Wo C G 6 (QP C G rvI 0 0) (b_X8_join_114  x114_3 x114_4 y114_0 σ) σ 0 0 114 [(3, va_rf x114_3), (4, va_rf x114_4)] [va_rf y114_0] := by
  unfold b_X8_join_114
  refine r_iconst hC (1) rfl dX8_join_114 ?_
  refine r_goto hC 119 dX8_join_115 (by decide) ?_
  exact t_X8_join_119 hC x114_3 x114_4 1 y114_0 σ

set_option maxRecDepth 100000 in
set_option maxHeartbeats 4000000 in
theorem t_X8_join_40 {C : Cxt} {G : Glb} (hC : CX C G RX8 cX8_join 6 (some .int) 3 0 0 64) (a0 : Nat) (x40_1 : Int32) (x40_2 : Int32) (y40_0 : Int32) (y40_1 : (Option Nat)) (σ : Mem) : Wo C G 6 (QP C G rvI 0 0) (b_X8_join_40  a0 x40_1 x40_2 y40_0 y40_1 σ) σ 0 0 40 [(0, va_rf (some a0)), (1, .int x40_1), (2, .int x40_2)] [.int y40_0, va_rf y40_1] := by
  unfold b_X8_join_40
  refine r_iconst hC (2) rfl dX8_join_40 ?_
  refine call_V hC (av := [.int y40_0, .int 2]) (st := []) (r := y40_1) (ci := 10) rfl rfl (fun h9 => ct_X8_refuse hC.hl G h9 y40_0 2 σ) q_886 q_888 q_13 q_44 q_889 yd_X8_refuse rfl ⟨Nat.le_of_ble_eq_true rfl, Nat.le_of_ble_eq_true rfl⟩ ⟨Nat.zero_le _, Nat.zero_le _⟩ rfl (Nat.le_of_ble_eq_true rfl) dX8_join_41 (fun v7 σ8 => ?_)
  show Wo _ _ _ _ _ _ _ _ _ _ [.int v7]
  refine r_if_eq hC 49 dX8_join_44 (by decide) ?_ ?_
  · refine r_aloadn hC 0 (r := (some a0)) rfl rfl dX8_join_49 ?_
    refine r_gR hC (k := 7) (r := (some a0)) cls_10 (by decide) rfl q_847 (Or.inl rfl) dX8_join_50 (fun r10 => ?_)
    refine r_iloadn hC 1 rfl rfl dX8_join_53 ?_
    refine call_V hC (av := [.int x40_1]) (st := []) (r := r10) (ci := 1) rfl rfl (fun h9 => ct_Jx4a65c_get_915e3 hC.hl G h9 x40_1 σ8) q_1057 q_1058 q_1059 q_47 q_1060 yd_Jx4a65c_get_915e3 rfl ⟨Nat.le_of_ble_eq_true rfl, Nat.le_of_ble_eq_true rfl⟩ ⟨Nat.zero_le _, Nat.zero_le _⟩ rfl (Nat.le_of_ble_eq_true rfl) dX8_join_54 (fun r11 σ12 => ?_)
    show Wo _ _ _ _ _ _ _ _ _ _ [va_rf r11]
    refine r_ckO hC (r := r11) cls_7 q_1087 dX8_join_57 ?_
    refine r_astoren hC [(3, va_rf r11), (0, va_rf (some a0)), (1, .int x40_1), (2, .int x40_2)] (r := r11) (i := 3) rfl (by decide) rfl dX8_join_60 ?_
    refine r_aloadn hC 1 (r := (some a0)) rfl rfl dX8_join_61 ?_
    refine r_gR hC (k := 7) (r := (some a0)) cls_10 (by decide) rfl q_847 (Or.inl rfl) dX8_join_62 (fun r14 => ?_)
    refine r_iloadn hC 3 rfl rfl dX8_join_65 ?_
    refine call_V hC (av := [.int x40_2]) (st := []) (r := r14) (ci := 1) rfl rfl (fun h9 => ct_Jx4a65c_get_915e3 hC.hl G h9 x40_2 σ12) q_1057 q_1058 q_1059 q_47 q_1060 yd_Jx4a65c_get_915e3 rfl ⟨Nat.le_of_ble_eq_true rfl, Nat.le_of_ble_eq_true rfl⟩ ⟨Nat.zero_le _, Nat.zero_le _⟩ rfl (Nat.le_of_ble_eq_true rfl) dX8_join_66 (fun r15 σ16 => ?_)
    show Wo _ _ _ _ _ _ _ _ _ _ [va_rf r15]
    refine r_ckO hC (r := r15) cls_7 q_1087 dX8_join_69 ?_
    refine r_astore hC [(4, va_rf r15), (3, va_rf r11), (0, va_rf (some a0)), (1, .int x40_1), (2, .int x40_2)] (r := r15) (i := 4) (by decide) (by simp [List.filter, cat_rf, cat_i, cat_j, cat_d, cat_a]) dX8_join_72 ?_
    refine r_aloadn hC 2 (r := (some a0)) rfl rfl dX8_join_74 ?_
    refine r_aloadn hC 1 (r := r11) rfl rfl dX8_join_75 ?_
    refine r_gI hC (k := 0) (r := r11) cls_7 (by decide) rfl q_1096 (Or.inl rfl) dX8_join_76 (fun v18 => ?_)
    refine r_if_ne hC 114 dX8_join_79 (by decide) ?_ ?_
    · refine Wo.sub [1, 0] rfl ?_
      exact t_X8_join_114 hC r11 r15 (some a0) σ16
    · refine r_aload hC 0 (r := r15) rfl dX8_join_82 ?_
      refine r_gI hC (k := 0) (r := r15) cls_7 (by decide) rfl q_1096 (Or.inl rfl) dX8_join_84 (fun v47 => ?_)
      refine r_if_ne hC 114 dX8_join_87 (by decide) ?_ ?_
      · refine Wo.sub [1, 0] rfl ?_
        exact t_X8_join_114 hC r11 r15 (some a0) σ16
      · refine r_aloadn hC 1 (r := r11) rfl rfl dX8_join_90 ?_
        refine r_gI hC (k := 4) (r := r11) cls_7 (by decide) rfl q_1104 (Or.inl rfl) dX8_join_91 (fun v48 => ?_)
        refine r_aload hC 0 (r := r15) rfl dX8_join_94 ?_
        refine r_gI hC (k := 4) (r := r15) cls_7 (by decide) rfl q_1104 (Or.inl rfl) dX8_join_96 (fun v49 => ?_)
        refine r_icmp_ne hC 114 dX8_join_99 (by decide) ?_ ?_
        · refine Wo.sub [1, 0] rfl ?_
          exact t_X8_join_114 hC r11 r15 (some a0) σ16
        · refine r_aloadn hC 1 (r := r11) rfl rfl dX8_join_102 ?_
          refine r_gI hC (k := 10) (r := r11) cls_7 (by decide) rfl q_1116 (Or.inl rfl) dX8_join_103 (fun v50 => ?_)
          refine r_aload hC 0 (r := r15) rfl dX8_join_106 ?_
          refine r_gI hC (k := 10) (r := r15) cls_7 (by decide) rfl q_1116 (Or.inl rfl) dX8_join_108 (fun v51 => ?_)
          refine r_icmp_eq hC 118 dX8_join_111 (by decide) ?_ ?_
          · refine r_iconst hC (0) rfl dX8_join_118 ?_
            refine Wo.sub [1, 0] rfl ?_
            exact t_X8_join_119 hC r11 r15 0 (some a0) σ16
          · refine Wo.sub [1, 0] rfl ?_
            exact t_X8_join_114 hC r11 r15 (some a0) σ16
  · refine Wo.sub [] rfl ?_
    exact t_X8_join_47 hC  σ8

set_option maxRecDepth 100000 in
set_option maxHeartbeats 4000000 in
theorem t_X8_join_22 {C : Cxt} {G : Glb} (hC : CX C G RX8 cX8_join 6 (some .int) 3 0 0 64) (a0 : Nat) (x22_1 : Int32) (x22_2 : Int32) (y22_0 : Int32) (y22_1 : (Option Nat)) (σ : Mem) : Wo C G 6 (QP C G rvI 0 0) (b_X8_join_22  a0 x22_1 x22_2 y22_0 y22_1 σ) σ 0 0 22 [(0, va_rf (some a0)), (1, .int x22_1), (2, .int x22_2)] [.int y22_0, va_rf y22_1] := by
  unfold b_X8_join_22
  refine r_iconst hC (1) rfl dX8_join_22 ?_
  refine call_V hC (av := [.int y22_0, .int 1]) (st := []) (r := y22_1) (ci := 10) rfl rfl (fun h9 => ct_X8_start hC.hl G h9 y22_0 1 σ) q_882 q_884 q_12 q_44 q_885 yd_X8_start rfl ⟨Nat.le_of_ble_eq_true rfl, Nat.le_of_ble_eq_true rfl⟩ ⟨Nat.zero_le _, Nat.zero_le _⟩ rfl (Nat.le_of_ble_eq_true rfl) dX8_join_23 (fun v4 σ5 => ?_)
  show Wo _ _ _ _ _ _ _ _ _ _ [.int v4]
  refine r_if_ne hC 47 dX8_join_26 (by decide) ?_ ?_
  · refine Wo.sub [] rfl ?_
    exact t_X8_join_47 hC  σ5
  · refine r_aloadn hC 0 (r := (some a0)) rfl rfl dX8_join_29 ?_
    refine r_iloadn hC 1 rfl rfl dX8_join_30 ?_
    refine r_iloadn hC 2 rfl rfl dX8_join_31 ?_
    refine r_icmp_ne hC 39 dX8_join_32 (by decide) ?_ ?_
    · refine r_iconst hC (0) rfl dX8_join_39 ?_
      exact t_X8_join_40 hC a0 x22_1 x22_2 0 (some a0) σ5
    · refine r_iconst hC (1) rfl dX8_join_35 ?_
      refine r_goto hC 40 dX8_join_36 (by decide) ?_
      exact t_X8_join_40 hC a0 x22_1 x22_2 1 (some a0) σ5

set_option maxRecDepth 100000 in
set_option maxHeartbeats 4000000 in
theorem t_X8_join_17 {C : Cxt} {G : Glb} (hC : CX C G RX8 cX8_join 6 (some .int) 3 0 0 64) (a0 : Nat) (x17_1 : Int32) (x17_2 : Int32) (y17_0 : (Option Nat)) (σ : Mem) : Wo C G 6 (QP C G rvI 0 0) (b_X8_join_17  a0 x17_1 x17_2 y17_0 σ) σ 0 0 17 [(0, va_rf (some a0)), (1, .int x17_1), (2, .int x17_2)] [va_rf y17_0] := by
  unfold b_X8_join_17
  refine r_iconst hC (1) rfl dX8_join_17 ?_
  refine r_goto hC 22 dX8_join_18 (by decide) ?_
  exact t_X8_join_22 hC a0 x17_1 x17_2 1 y17_0 σ

set_option maxRecDepth 100000 in
set_option maxHeartbeats 4000000 in
theorem t_X8_join_0 {C : Cxt} {G : Glb} (hC : CX C G RX8 cX8_join 6 (some .int) 3 0 0 64) (a0 : Nat) (p0 : Int32) (p1 : Int32) (σ : Mem) : Wo C G 6 (QP C G rvI 0 0) (b_X8_join_0  a0 p0 p1 σ) σ 0 0 0 [(0, va_rf (some a0)), (1, .int p0), (2, .int p1)] [] := by
  unfold b_X8_join_0
  refine r_aloadn hC 0 (r := (some a0)) rfl rfl dX8_join_0 ?_
  refine r_aloadn hC 0 (r := (some a0)) rfl rfl dX8_join_1 ?_
  refine r_iloadn hC 1 rfl rfl dX8_join_2 ?_
  refine call_V hC (av := [.int p0]) (st := [va_rf (some a0)]) (r := (some a0)) (ci := 10) rfl rfl (fun h9 => ct_X8_isNoLot hC.hl G h9 p0 σ) q_1165 q_1167 q_19 q_44 q_1168 yd_X8_isNoLot rfl ⟨Nat.le_of_ble_eq_true rfl, Nat.le_of_ble_eq_true rfl⟩ ⟨Nat.zero_le _, Nat.zero_le _⟩ rfl (by simp [cat_rf, cat_i, cat_j, cat_d, cat_a]) dX8_join_3 (fun v1 σ2 => ?_)
  show Wo _ _ _ _ _ _ _ _ _ _ [.int v1, va_rf (some a0)]
  refine r_if_ne hC 17 dX8_join_6 (by decide) ?_ ?_
  · exact t_X8_join_17 hC a0 p0 p1 (some a0) σ2
  · refine r_aloadn hC 0 (r := (some a0)) rfl rfl dX8_join_9 ?_
    refine r_iloadn hC 2 rfl rfl dX8_join_10 ?_
    refine call_V hC (av := [.int p1]) (st := [va_rf (some a0)]) (r := (some a0)) (ci := 10) rfl rfl (fun h9 => ct_X8_isNoLot hC.hl G h9 p1 σ2) q_1165 q_1167 q_19 q_44 q_1168 yd_X8_isNoLot rfl ⟨Nat.le_of_ble_eq_true rfl, Nat.le_of_ble_eq_true rfl⟩ ⟨Nat.zero_le _, Nat.zero_le _⟩ rfl (by simp [cat_rf, cat_i, cat_j, cat_d, cat_a]) dX8_join_11 (fun v52 σ53 => ?_)
    show Wo _ _ _ _ _ _ _ _ _ _ [.int v52, va_rf (some a0)]
    refine r_if_eq hC 21 dX8_join_14 (by decide) ?_ ?_
    · refine r_iconst hC (0) rfl dX8_join_21 ?_
      exact t_X8_join_22 hC a0 p0 p1 0 (some a0) σ53
    · exact t_X8_join_17 hC a0 p0 p1 (some a0) σ53

set_option maxRecDepth 100000 in
set_option maxHeartbeats 4000000 in
theorem ct_X8_join {l : Launch} (hl : l.stackTraces = false) (G : Glb) (a0 : Nat) (p0 : Int32) (p1 : Int32) (σ : Mem) : Ct rvI l yX8_join (Cond.code yX8_join cX8_join 6 (some .int) :: uW) { frames := 3, cells := 0, slots := 0, locals := 64 } 0 0 G [.ref a0, .int p0, .int p1] σ (f_X8_join a0 p0 p1 σ) := by
  refine Ct.of hl (by decide +kernel) (Nat.le_of_ble_eq_true rfl) (fun C hC hin => ?_)
  have e : lv_args 0 [.ref a0, .int p0, .int p1] = [(0, .ref a0), (1, .int p0), (2, .int p1)] := rfl
  rw [e]
  exact t_X8_join_0 hC a0 p0 p1 σ

noncomputable def b_X8_wither_84 (σ : Mem) : Option ((Int32) × Mem) :=
some (0, σ)

noncomputable def b_X8_wither_89 (k89 : Nat → Int32 → Int32 → Int32 → Int32 → Mem → Option ((Int32) × Mem)) (a0 : Nat) (x89_1 : Int32) (x89_2 : Int32) (x89_3 : Int32) (x89_4 : Int32) (σ : Mem) : Option ((Int32) × Mem) :=
if x89_2 ≤ x89_4 then
gR 10 7 σ (some a0) fun r18 =>
ob 1 σ r18 fun h21 => cl1 (f_Jx4a65c_get_915e3 h21 x89_1 σ) fun r19 σ20 =>
ck 8 σ20 r19 <|
gI 7 3 σ20 r19 fun v22 =>
some (v22, σ20)
else
gR 10 7 σ (some a0) fun r23 =>
ob 1 σ r23 fun h26 => cl1 (f_Jx4a65c_get_915e3 h26 x89_1 σ) fun r24 σ25 =>
ck 8 σ25 r24 <|
ob 7 σ25 r24 fun h29 => cl1 (f_X5_wither h29 x89_3 σ25) fun u27 σ28 =>
nm (x89_4 + 1) fun v30 =>
k89 a0 x89_1 x89_2 x89_3 v30 σ28

noncomputable def l_X8_wither_89 (n : Nat) : Nat → Int32 → Int32 → Int32 → Int32 → Mem → Option ((Int32) × Mem) := itr (fun _ _ _ _ _ _ => none) (fun k => b_X8_wither_89  k) n

noncomputable def b_X8_wither_77 (a0 : Nat) (x77_1 : Int32) (x77_2 : Int32) (x77_3 : Int32) (y77_0 : Int32) (y77_1 : (Option Nat)) (σ : Mem) : Option ((Int32) × Mem) :=
ob 10 σ y77_1 fun h17 => cl1 (f_X8_refuse h17 y77_0 3 σ) fun v15 σ16 =>
if v15 = 0 then
l_X8_wither_89 40 a0 x77_1 x77_2 x77_3 0 σ16
else
b_X8_wither_84 σ16

noncomputable def b_X8_wither_72 (a0 : Nat) (x72_1 : Int32) (x72_2 : Int32) (x72_3 : Int32) (y72_0 : (Option Nat)) (σ : Mem) : Option ((Int32) × Mem) :=
b_X8_wither_77 a0 x72_1 x72_2 x72_3 1 y72_0 σ

noncomputable def b_X8_wither_38 (a0 : Nat) (x38_1 : Int32) (x38_2 : Int32) (x38_3 : Int32) (y38_0 : Int32) (y38_1 : (Option Nat)) (σ : Mem) : Option ((Int32) × Mem) :=
ob 10 σ y38_1 fun h11 => cl1 (f_X8_refuse h11 y38_0 2 σ) fun v9 σ10 =>
if v9 = 0 then
ob 10 σ10 (some a0) fun h14 => cl1 (f_X8_isState h14 x38_1 0 σ10) fun v12 σ13 =>
if v12 = 0 then
b_X8_wither_72 a0 x38_1 x38_2 x38_3 (some a0) σ13
else
gR 10 7 σ13 (some a0) fun r31 =>
ob 1 σ13 r31 fun h34 => cl1 (f_Jx4a65c_get_915e3 h34 x38_1 σ13) fun r32 σ33 =>
ck 8 σ33 r32 <|
gI 7 10 σ33 r32 fun v35 =>
if v35 = 0 then
b_X8_wither_77 a0 x38_1 x38_2 x38_3 0 (some a0) σ33
else
b_X8_wither_72 a0 x38_1 x38_2 x38_3 (some a0) σ33
else
b_X8_wither_84 σ10

noncomputable def b_X8_wither_33 (a0 : Nat) (x33_1 : Int32) (x33_2 : Int32) (x33_3 : Int32) (y33_0 : (Option Nat)) (σ : Mem) : Option ((Int32) × Mem) :=
b_X8_wither_38 a0 x33_1 x33_2 x33_3 1 y33_0 σ

noncomputable def b_X8_wither_0 (a0 : Nat) (p0 : Int32) (p1 : Int32) (p2 : Int32) (σ : Mem) : Option ((Int32) × Mem) :=
ob 10 σ (some a0) fun h3 => cl1 (f_X8_isNoLot h3 p0 σ) fun v1 σ2 =>
ob 10 σ2 (some a0) fun h6 => cl1 (f_X8_start h6 v1 1 σ2) fun v4 σ5 =>
if v4 = 0 then
cl1 (f_X8_isIn p1 1 20 σ5) fun v7 σ8 =>
if v7 = 0 then
b_X8_wither_33 a0 p0 p1 p2 (some a0) σ8
else
cl1 (f_X8_isIn p2 1 3 σ8) fun v36 σ37 =>
if v36 = 0 then
b_X8_wither_33 a0 p0 p1 p2 (some a0) σ37
else
b_X8_wither_38 a0 p0 p1 p2 0 (some a0) σ37
else
b_X8_wither_84 σ5

noncomputable def f_X8_wither (a0 : Nat) (p0 : Int32) (p1 : Int32) (p2 : Int32) (σ : Mem) : Option ((Int32) × Mem) := b_X8_wither_0 a0 p0 p1 p2 σ
set_option maxRecDepth 100000 in
set_option maxHeartbeats 4000000 in
theorem t_X8_wither_84 {C : Cxt} {G : Glb} (hC : CX C G RX8 cX8_wither 5 (some .int) 4 0 0 86) (σ : Mem) : Wo C G 5 (QP C G rvI 0 0) (b_X8_wither_84   σ) σ 0 0 84 [] [] := by
  unfold b_X8_wither_84
  refine r_iconst hC (0) rfl dX8_wither_84 ?_
  exact e_I hC ⟨Nat.zero_le _, Nat.zero_le _⟩ dX8_wither_85

set_option maxRecDepth 100000 in
set_option maxHeartbeats 4000000 in
theorem t_X8_wither_89 {C : Cxt} {G : Glb} (hC : CX C G RX8 cX8_wither 5 (some .int) 4 0 0 86) (k89 : Nat → Int32 → Int32 → Int32 → Int32 → Mem → Option ((Int32) × Mem)) (hk89 : ∀ (a0 : Nat) (x89_1 : Int32) (x89_2 : Int32) (x89_3 : Int32) (x89_4 : Int32) (σ : Mem), Wo C G 5 (QP C G rvI 0 0) (k89 a0 x89_1 x89_2 x89_3 x89_4 σ) σ 0 0 89 [(0, va_rf (some a0)), (1, .int x89_1), (2, .int x89_2), (3, .int x89_3), (4, .int x89_4)] []) (a0 : Nat) (x89_1 : Int32) (x89_2 : Int32) (x89_3 : Int32) (x89_4 : Int32) (σ : Mem) : Wo C G 5 (QP C G rvI 0 0) (b_X8_wither_89 k89 a0 x89_1 x89_2 x89_3 x89_4 σ) σ 0 0 89 [(0, va_rf (some a0)), (1, .int x89_1), (2, .int x89_2), (3, .int x89_3), (4, .int x89_4)] [] := by
  unfold b_X8_wither_89
  refine r_iload hC 4 rfl dX8_wither_89 ?_
  refine r_iloadn hC 2 rfl rfl dX8_wither_91 ?_
  refine r_icmp_ge hC 116 dX8_wither_92 (by decide) ?_ ?_
  · refine r_aloadn hC 0 (r := (some a0)) rfl rfl dX8_wither_116 ?_
    refine r_gR hC (k := 7) (r := (some a0)) cls_10 (by decide) rfl q_847 (Or.inl rfl) dX8_wither_117 (fun r18 => ?_)
    refine r_iloadn hC 1 rfl rfl dX8_wither_120 ?_
    refine call_V hC (av := [.int x89_1]) (st := []) (r := r18) (ci := 1) rfl rfl (fun h9 => ct_Jx4a65c_get_915e3 hC.hl G h9 x89_1 σ) q_1057 q_1058 q_1059 q_47 q_1060 yd_Jx4a65c_get_915e3 rfl ⟨Nat.le_of_ble_eq_true rfl, Nat.le_of_ble_eq_true rfl⟩ ⟨Nat.zero_le _, Nat.zero_le _⟩ rfl (Nat.le_of_ble_eq_true rfl) dX8_wither_121 (fun r19 σ20 => ?_)
    show Wo _ _ _ _ _ _ _ _ _ _ [va_rf r19]
    refine r_ckO hC (r := r19) cls_7 q_1087 dX8_wither_124 ?_
    refine r_gI hC (k := 3) (r := r19) cls_7 (by decide) rfl q_1102 (Or.inl rfl) dX8_wither_127 (fun v22 => ?_)
    exact e_I hC ⟨Nat.zero_le _, Nat.zero_le _⟩ dX8_wither_130
  · refine r_aloadn hC 0 (r := (some a0)) rfl rfl dX8_wither_95 ?_
    refine r_gR hC (k := 7) (r := (some a0)) cls_10 (by decide) rfl q_847 (Or.inl rfl) dX8_wither_96 (fun r23 => ?_)
    refine r_iloadn hC 1 rfl rfl dX8_wither_99 ?_
    refine call_V hC (av := [.int x89_1]) (st := []) (r := r23) (ci := 1) rfl rfl (fun h9 => ct_Jx4a65c_get_915e3 hC.hl G h9 x89_1 σ) q_1057 q_1058 q_1059 q_47 q_1060 yd_Jx4a65c_get_915e3 rfl ⟨Nat.le_of_ble_eq_true rfl, Nat.le_of_ble_eq_true rfl⟩ ⟨Nat.zero_le _, Nat.zero_le _⟩ rfl (Nat.le_of_ble_eq_true rfl) dX8_wither_100 (fun r24 σ25 => ?_)
    show Wo _ _ _ _ _ _ _ _ _ _ [va_rf r24]
    refine r_ckO hC (r := r24) cls_7 q_1087 dX8_wither_103 ?_
    refine r_iloadn hC 3 rfl rfl dX8_wither_106 ?_
    refine call_V hC (av := [.int x89_3]) (st := []) (r := r24) (ci := 7) rfl rfl (fun h9 => ct_X5_wither hC.hl G h9 x89_3 σ25) q_1185 q_1186 q_1187 q_63 q_1188 yd_X5_wither rfl ⟨Nat.le_of_ble_eq_true rfl, Nat.le_of_ble_eq_true rfl⟩ ⟨Nat.zero_le _, Nat.zero_le _⟩ rfl (Nat.le_of_ble_eq_true rfl) dX8_wither_107 (fun u27 σ28 => ?_)
    show Wo _ _ _ _ _ _ _ _ _ _ []
    refine r_iinc hC 4 (fun w => [(4, .int w), (0, va_rf (some a0)), (1, .int x89_1), (2, .int x89_2), (3, .int x89_3)]) 1 rfl (by decide) rfl (fun w => rfl) dX8_wither_110 (fun v30 => ?_)
    refine r_goto hC 89 dX8_wither_113 (by decide) ?_
    refine Wo.sub [1, 2, 3, 4, 0] rfl ?_
    exact hk89 a0 x89_1 x89_2 x89_3 v30 σ28

set_option maxRecDepth 100000 in
set_option maxHeartbeats 4000000 in
theorem u_X8_wither_89 {C : Cxt} {G : Glb} (hC : CX C G RX8 cX8_wither 5 (some .int) 4 0 0 86) : ∀ (n : Nat) (a0 : Nat) (x89_1 : Int32) (x89_2 : Int32) (x89_3 : Int32) (x89_4 : Int32) (σ : Mem), Wo C G 5 (QP C G rvI 0 0) (l_X8_wither_89  n a0 x89_1 x89_2 x89_3 x89_4 σ) σ 0 0 89 [(0, va_rf (some a0)), (1, .int x89_1), (2, .int x89_2), (3, .int x89_3), (4, .int x89_4)] [] := by
  intro n
  induction n with
  | zero => intro a0 x89_1 x89_2 x89_3 x89_4 σ; exact Wo.none
  | succ n ih => intro a0 x89_1 x89_2 x89_3 x89_4 σ; exact t_X8_wither_89 hC (l_X8_wither_89  n) ih a0 x89_1 x89_2 x89_3 x89_4 σ

set_option maxRecDepth 100000 in
set_option maxHeartbeats 4000000 in
theorem t_X8_wither_77 {C : Cxt} {G : Glb} (hC : CX C G RX8 cX8_wither 5 (some .int) 4 0 0 86) (a0 : Nat) (x77_1 : Int32) (x77_2 : Int32) (x77_3 : Int32) (y77_0 : Int32) (y77_1 : (Option Nat)) (σ : Mem) : Wo C G 5 (QP C G rvI 0 0) (b_X8_wither_77  a0 x77_1 x77_2 x77_3 y77_0 y77_1 σ) σ 0 0 77 [(0, va_rf (some a0)), (1, .int x77_1), (2, .int x77_2), (3, .int x77_3)] [.int y77_0, va_rf y77_1] := by
  unfold b_X8_wither_77
  refine r_iconst hC (3) rfl dX8_wither_77 ?_
  refine call_V hC (av := [.int y77_0, .int 3]) (st := []) (r := y77_1) (ci := 10) rfl rfl (fun h9 => ct_X8_refuse hC.hl G h9 y77_0 3 σ) q_886 q_888 q_13 q_44 q_889 yd_X8_refuse rfl ⟨Nat.le_of_ble_eq_true rfl, Nat.le_of_ble_eq_true rfl⟩ ⟨Nat.zero_le _, Nat.zero_le _⟩ rfl (Nat.le_of_ble_eq_true rfl) dX8_wither_78 (fun v15 σ16 => ?_)
  show Wo _ _ _ _ _ _ _ _ _ _ [.int v15]
  refine r_if_eq hC 86 dX8_wither_81 (by decide) ?_ ?_
  · refine r_iconst hC (0) rfl dX8_wither_86 ?_
    refine r_istore hC [(4, .int 0), (0, va_rf (some a0)), (1, .int x77_1), (2, .int x77_2), (3, .int x77_3)] (i := 4) (by decide) rfl dX8_wither_87 ?_
    refine Wo.sub [1, 2, 3, 4, 0] rfl ?_
    exact u_X8_wither_89 hC 40 a0 x77_1 x77_2 x77_3 0 σ16
  · refine Wo.sub [] rfl ?_
    exact t_X8_wither_84 hC  σ16

set_option maxRecDepth 100000 in
set_option maxHeartbeats 4000000 in
theorem t_X8_wither_72 {C : Cxt} {G : Glb} (hC : CX C G RX8 cX8_wither 5 (some .int) 4 0 0 86) (a0 : Nat) (x72_1 : Int32) (x72_2 : Int32) (x72_3 : Int32) (y72_0 : (Option Nat)) (σ : Mem) : Wo C G 5 (QP C G rvI 0 0) (b_X8_wither_72  a0 x72_1 x72_2 x72_3 y72_0 σ) σ 0 0 72 [(0, va_rf (some a0)), (1, .int x72_1), (2, .int x72_2), (3, .int x72_3)] [va_rf y72_0] := by
  unfold b_X8_wither_72
  refine r_iconst hC (1) rfl dX8_wither_72 ?_
  refine r_goto hC 77 dX8_wither_73 (by decide) ?_
  exact t_X8_wither_77 hC a0 x72_1 x72_2 x72_3 1 y72_0 σ

set_option maxRecDepth 100000 in
set_option maxHeartbeats 4000000 in
theorem t_X8_wither_38 {C : Cxt} {G : Glb} (hC : CX C G RX8 cX8_wither 5 (some .int) 4 0 0 86) (a0 : Nat) (x38_1 : Int32) (x38_2 : Int32) (x38_3 : Int32) (y38_0 : Int32) (y38_1 : (Option Nat)) (σ : Mem) : Wo C G 5 (QP C G rvI 0 0) (b_X8_wither_38  a0 x38_1 x38_2 x38_3 y38_0 y38_1 σ) σ 0 0 38 [(0, va_rf (some a0)), (1, .int x38_1), (2, .int x38_2), (3, .int x38_3)] [.int y38_0, va_rf y38_1] := by
  unfold b_X8_wither_38
  refine r_iconst hC (2) rfl dX8_wither_38 ?_
  refine call_V hC (av := [.int y38_0, .int 2]) (st := []) (r := y38_1) (ci := 10) rfl rfl (fun h9 => ct_X8_refuse hC.hl G h9 y38_0 2 σ) q_886 q_888 q_13 q_44 q_889 yd_X8_refuse rfl ⟨Nat.le_of_ble_eq_true rfl, Nat.le_of_ble_eq_true rfl⟩ ⟨Nat.zero_le _, Nat.zero_le _⟩ rfl (Nat.le_of_ble_eq_true rfl) dX8_wither_39 (fun v9 σ10 => ?_)
  show Wo _ _ _ _ _ _ _ _ _ _ [.int v9]
  refine r_if_ne hC 84 dX8_wither_42 (by decide) ?_ ?_
  · refine Wo.sub [] rfl ?_
    exact t_X8_wither_84 hC  σ10
  · refine r_aloadn hC 0 (r := (some a0)) rfl rfl dX8_wither_45 ?_
    refine r_aloadn hC 0 (r := (some a0)) rfl rfl dX8_wither_46 ?_
    refine r_iloadn hC 1 rfl rfl dX8_wither_47 ?_
    refine r_iconst hC (0) rfl dX8_wither_48 ?_
    refine call_V hC (av := [.int x38_1, .int 0]) (st := [va_rf (some a0)]) (r := (some a0)) (ci := 10) rfl rfl (fun h9 => ct_X8_isState hC.hl G h9 x38_1 0 σ10) q_1181 q_1183 q_20 q_44 q_1184 yd_X8_isState rfl ⟨Nat.le_of_ble_eq_true rfl, Nat.le_of_ble_eq_true rfl⟩ ⟨Nat.zero_le _, Nat.zero_le _⟩ rfl (by simp [cat_rf, cat_i, cat_j, cat_d, cat_a]) dX8_wither_49 (fun v12 σ13 => ?_)
    show Wo _ _ _ _ _ _ _ _ _ _ [.int v12, va_rf (some a0)]
    refine r_if_eq hC 72 dX8_wither_52 (by decide) ?_ ?_
    · exact t_X8_wither_72 hC a0 x38_1 x38_2 x38_3 (some a0) σ13
    · refine r_aloadn hC 0 (r := (some a0)) rfl rfl dX8_wither_55 ?_
      refine r_gR hC (k := 7) (r := (some a0)) cls_10 (by decide) rfl q_847 (Or.inl rfl) dX8_wither_56 (fun r31 => ?_)
      refine r_iloadn hC 1 rfl rfl dX8_wither_59 ?_
      refine call_V hC (av := [.int x38_1]) (st := [va_rf (some a0)]) (r := r31) (ci := 1) rfl rfl (fun h9 => ct_Jx4a65c_get_915e3 hC.hl G h9 x38_1 σ13) q_1057 q_1058 q_1059 q_47 q_1060 yd_Jx4a65c_get_915e3 rfl ⟨Nat.le_of_ble_eq_true rfl, Nat.le_of_ble_eq_true rfl⟩ ⟨Nat.zero_le _, Nat.zero_le _⟩ rfl (by simp [cat_rf, cat_i, cat_j, cat_d, cat_a]) dX8_wither_60 (fun r32 σ33 => ?_)
      show Wo _ _ _ _ _ _ _ _ _ _ [va_rf r32, va_rf (some a0)]
      refine r_ckO hC (r := r32) cls_7 q_1087 dX8_wither_63 ?_
      refine r_gI hC (k := 10) (r := r32) cls_7 (by decide) rfl q_1116 (Or.inl rfl) dX8_wither_66 (fun v35 => ?_)
      refine r_if_eq hC 76 dX8_wither_69 (by decide) ?_ ?_
      · refine r_iconst hC (0) rfl dX8_wither_76 ?_
        exact t_X8_wither_77 hC a0 x38_1 x38_2 x38_3 0 (some a0) σ33
      · exact t_X8_wither_72 hC a0 x38_1 x38_2 x38_3 (some a0) σ33

set_option maxRecDepth 100000 in
set_option maxHeartbeats 4000000 in
theorem t_X8_wither_33 {C : Cxt} {G : Glb} (hC : CX C G RX8 cX8_wither 5 (some .int) 4 0 0 86) (a0 : Nat) (x33_1 : Int32) (x33_2 : Int32) (x33_3 : Int32) (y33_0 : (Option Nat)) (σ : Mem) : Wo C G 5 (QP C G rvI 0 0) (b_X8_wither_33  a0 x33_1 x33_2 x33_3 y33_0 σ) σ 0 0 33 [(0, va_rf (some a0)), (1, .int x33_1), (2, .int x33_2), (3, .int x33_3)] [va_rf y33_0] := by
  unfold b_X8_wither_33
  refine r_iconst hC (1) rfl dX8_wither_33 ?_
  refine r_goto hC 38 dX8_wither_34 (by decide) ?_
  exact t_X8_wither_38 hC a0 x33_1 x33_2 x33_3 1 y33_0 σ

set_option maxRecDepth 100000 in
set_option maxHeartbeats 4000000 in
theorem t_X8_wither_0 {C : Cxt} {G : Glb} (hC : CX C G RX8 cX8_wither 5 (some .int) 4 0 0 86) (a0 : Nat) (p0 : Int32) (p1 : Int32) (p2 : Int32) (σ : Mem) : Wo C G 5 (QP C G rvI 0 0) (b_X8_wither_0  a0 p0 p1 p2 σ) σ 0 0 0 [(0, va_rf (some a0)), (1, .int p0), (2, .int p1), (3, .int p2)] [] := by
  unfold b_X8_wither_0
  refine r_aloadn hC 0 (r := (some a0)) rfl rfl dX8_wither_0 ?_
  refine r_aloadn hC 0 (r := (some a0)) rfl rfl dX8_wither_1 ?_
  refine r_iloadn hC 1 rfl rfl dX8_wither_2 ?_
  refine call_V hC (av := [.int p0]) (st := [va_rf (some a0)]) (r := (some a0)) (ci := 10) rfl rfl (fun h9 => ct_X8_isNoLot hC.hl G h9 p0 σ) q_1165 q_1167 q_19 q_44 q_1168 yd_X8_isNoLot rfl ⟨Nat.le_of_ble_eq_true rfl, Nat.le_of_ble_eq_true rfl⟩ ⟨Nat.zero_le _, Nat.zero_le _⟩ rfl (by simp [cat_rf, cat_i, cat_j, cat_d, cat_a]) dX8_wither_3 (fun v1 σ2 => ?_)
  show Wo _ _ _ _ _ _ _ _ _ _ [.int v1, va_rf (some a0)]
  refine r_iconst hC (1) rfl dX8_wither_6 ?_
  refine call_V hC (av := [.int v1, .int 1]) (st := []) (r := (some a0)) (ci := 10) rfl rfl (fun h9 => ct_X8_start hC.hl G h9 v1 1 σ2) q_882 q_884 q_12 q_44 q_885 yd_X8_start rfl ⟨Nat.le_of_ble_eq_true rfl, Nat.le_of_ble_eq_true rfl⟩ ⟨Nat.zero_le _, Nat.zero_le _⟩ rfl (Nat.le_of_ble_eq_true rfl) dX8_wither_7 (fun v4 σ5 => ?_)
  show Wo _ _ _ _ _ _ _ _ _ _ [.int v4]
  refine r_if_ne hC 84 dX8_wither_10 (by decide) ?_ ?_
  · refine Wo.sub [] rfl ?_
    exact t_X8_wither_84 hC  σ5
  · refine r_aloadn hC 0 (r := (some a0)) rfl rfl dX8_wither_13 ?_
    refine r_iloadn hC 2 rfl rfl dX8_wither_14 ?_
    refine r_iconst hC (1) rfl dX8_wither_15 ?_
    refine r_bipush hC (20) (by decide) dX8_wither_16 ?_
    refine call_S hC (av := [.int p1, .int 1, .int 20]) (st := [va_rf (some a0)]) (ct_X8_isIn hC.hl G p1 1 20 σ5) q_879 q_880 q_44 q_881 yd_X8_isIn rfl ⟨Nat.le_of_ble_eq_true rfl, Nat.le_of_ble_eq_true rfl⟩ ⟨Nat.zero_le _, Nat.zero_le _⟩ rfl (by simp [cat_rf, cat_i, cat_j, cat_d, cat_a]) dX8_wither_18 (fun v7 σ8 => ?_)
    show Wo _ _ _ _ _ _ _ _ _ _ [.int v7, va_rf (some a0)]
    refine r_if_eq hC 33 dX8_wither_21 (by decide) ?_ ?_
    · exact t_X8_wither_33 hC a0 p0 p1 p2 (some a0) σ8
    · refine r_iloadn hC 3 rfl rfl dX8_wither_24 ?_
      refine r_iconst hC (1) rfl dX8_wither_25 ?_
      refine r_iconst hC (3) rfl dX8_wither_26 ?_
      refine call_S hC (av := [.int p2, .int 1, .int 3]) (st := [va_rf (some a0)]) (ct_X8_isIn hC.hl G p2 1 3 σ8) q_879 q_880 q_44 q_881 yd_X8_isIn rfl ⟨Nat.le_of_ble_eq_true rfl, Nat.le_of_ble_eq_true rfl⟩ ⟨Nat.zero_le _, Nat.zero_le _⟩ rfl (by simp [cat_rf, cat_i, cat_j, cat_d, cat_a]) dX8_wither_27 (fun v36 σ37 => ?_)
      show Wo _ _ _ _ _ _ _ _ _ _ [.int v36, va_rf (some a0)]
      refine r_if_ne hC 37 dX8_wither_30 (by decide) ?_ ?_
      · refine r_iconst hC (0) rfl dX8_wither_37 ?_
        exact t_X8_wither_38 hC a0 p0 p1 p2 0 (some a0) σ37
      · exact t_X8_wither_33 hC a0 p0 p1 p2 (some a0) σ37

set_option maxRecDepth 100000 in
set_option maxHeartbeats 4000000 in
theorem ct_X8_wither {l : Launch} (hl : l.stackTraces = false) (G : Glb) (a0 : Nat) (p0 : Int32) (p1 : Int32) (p2 : Int32) (σ : Mem) : Ct rvI l yX8_wither (Cond.code yX8_wither cX8_wither 5 (some .int) :: uW) { frames := 4, cells := 0, slots := 0, locals := 86 } 0 0 G [.ref a0, .int p0, .int p1, .int p2] σ (f_X8_wither a0 p0 p1 p2 σ) := by
  refine Ct.of hl (by decide +kernel) (Nat.le_of_ble_eq_true rfl) (fun C hC hin => ?_)
  have e : lv_args 0 [.ref a0, .int p0, .int p1, .int p2] = [(0, .ref a0), (1, .int p0), (2, .int p1), (3, .int p2)] := rfl
  rw [e]
  exact t_X8_wither_0 hC a0 p0 p1 p2 σ

noncomputable def b_X8_kill_52 (σ : Mem) : Option ((Int32) × Mem) :=
some (0, σ)

noncomputable def b_X8_kill_45 (a0 : Nat) (x45_1 : Int32) (y45_0 : Int32) (y45_1 : (Option Nat)) (σ : Mem) : Option ((Int32) × Mem) :=
ob 10 σ y45_1 fun h12 => cl1 (f_X8_refuse h12 y45_0 2 σ) fun v10 σ11 =>
if v10 = 0 then
gR 10 7 σ11 (some a0) fun r13 =>
ob 1 σ11 r13 fun h16 => cl1 (f_Jx4a65c_get_915e3 h16 x45_1 σ11) fun r14 σ15 =>
ck 8 σ15 r14 <|
gI 7 3 σ15 r14 fun v17 =>
gI 7 3 σ15 r14 fun v18 =>
dv v18 5 fun v19 =>
nm (v17 - v19) fun v20 =>
pI 7 3 σ15 r14 v20 fun σ21 =>
pB 7 10 σ21 r14 1 fun σ22 =>
gI 7 3 σ22 r14 fun v23 =>
some (v23, σ22)
else
b_X8_kill_52 σ11

noncomputable def b_X8_kill_40 (a0 : Nat) (x40_1 : Int32) (y40_0 : (Option Nat)) (σ : Mem) : Option ((Int32) × Mem) :=
b_X8_kill_45 a0 x40_1 1 y40_0 σ

noncomputable def b_X8_kill_0 (a0 : Nat) (p0 : Int32) (σ : Mem) : Option ((Int32) × Mem) :=
ob 10 σ (some a0) fun h3 => cl1 (f_X8_isNoLot h3 p0 σ) fun v1 σ2 =>
ob 10 σ2 (some a0) fun h6 => cl1 (f_X8_start h6 v1 1 σ2) fun v4 σ5 =>
if v4 = 0 then
ob 10 σ5 (some a0) fun h9 => cl1 (f_X8_isState h9 p0 0 σ5) fun v7 σ8 =>
if v7 = 0 then
b_X8_kill_40 a0 p0 (some a0) σ8
else
gR 10 7 σ8 (some a0) fun r24 =>
ob 1 σ8 r24 fun h27 => cl1 (f_Jx4a65c_get_915e3 h27 p0 σ8) fun r25 σ26 =>
ck 8 σ26 r25 <|
gI 7 10 σ26 r25 fun v28 =>
if v28 = 0 then
b_X8_kill_45 a0 p0 0 (some a0) σ26
else
b_X8_kill_40 a0 p0 (some a0) σ26
else
b_X8_kill_52 σ5

noncomputable def f_X8_kill (a0 : Nat) (p0 : Int32) (σ : Mem) : Option ((Int32) × Mem) := b_X8_kill_0 a0 p0 σ
set_option maxRecDepth 100000 in
set_option maxHeartbeats 4000000 in
theorem t_X8_kill_52 {C : Cxt} {G : Glb} (hC : CX C G RX8 cX8_kill 3 (some .int) 4 0 0 86) (σ : Mem) : Wo C G 3 (QP C G rvI 0 0) (b_X8_kill_52   σ) σ 0 0 52 [] [] := by
  unfold b_X8_kill_52
  refine r_iconst hC (0) rfl dX8_kill_52 ?_
  exact e_I hC ⟨Nat.zero_le _, Nat.zero_le _⟩ dX8_kill_53

set_option maxRecDepth 100000 in
set_option maxHeartbeats 4000000 in
theorem t_X8_kill_45 {C : Cxt} {G : Glb} (hC : CX C G RX8 cX8_kill 3 (some .int) 4 0 0 86) (a0 : Nat) (x45_1 : Int32) (y45_0 : Int32) (y45_1 : (Option Nat)) (σ : Mem) : Wo C G 3 (QP C G rvI 0 0) (b_X8_kill_45  a0 x45_1 y45_0 y45_1 σ) σ 0 0 45 [(0, va_rf (some a0)), (1, .int x45_1)] [.int y45_0, va_rf y45_1] := by
  unfold b_X8_kill_45
  refine r_iconst hC (2) rfl dX8_kill_45 ?_
  refine call_V hC (av := [.int y45_0, .int 2]) (st := []) (r := y45_1) (ci := 10) rfl rfl (fun h9 => ct_X8_refuse hC.hl G h9 y45_0 2 σ) q_886 q_888 q_13 q_44 q_889 yd_X8_refuse rfl ⟨Nat.le_of_ble_eq_true rfl, Nat.le_of_ble_eq_true rfl⟩ ⟨Nat.zero_le _, Nat.zero_le _⟩ rfl (Nat.le_of_ble_eq_true rfl) dX8_kill_46 (fun v10 σ11 => ?_)
  show Wo _ _ _ _ _ _ _ _ _ _ [.int v10]
  refine r_if_eq hC 54 dX8_kill_49 (by decide) ?_ ?_
  · refine r_aloadn hC 0 (r := (some a0)) rfl rfl dX8_kill_54 ?_
    refine r_gR hC (k := 7) (r := (some a0)) cls_10 (by decide) rfl q_847 (Or.inl rfl) dX8_kill_55 (fun r13 => ?_)
    refine r_iloadn hC 1 rfl rfl dX8_kill_58 ?_
    refine call_V hC (av := [.int x45_1]) (st := []) (r := r13) (ci := 1) rfl rfl (fun h9 => ct_Jx4a65c_get_915e3 hC.hl G h9 x45_1 σ11) q_1057 q_1058 q_1059 q_47 q_1060 yd_Jx4a65c_get_915e3 rfl ⟨Nat.le_of_ble_eq_true rfl, Nat.le_of_ble_eq_true rfl⟩ ⟨Nat.zero_le _, Nat.zero_le _⟩ rfl (Nat.le_of_ble_eq_true rfl) dX8_kill_59 (fun r14 σ15 => ?_)
    show Wo _ _ _ _ _ _ _ _ _ _ [va_rf r14]
    refine r_ckO hC (r := r14) cls_7 q_1087 dX8_kill_62 ?_
    refine r_astoren hC [(2, va_rf r14), (0, va_rf (some a0)), (1, .int x45_1)] (r := r14) (i := 2) rfl (by decide) rfl dX8_kill_65 ?_
    refine r_aloadn hC 0 (r := r14) rfl rfl dX8_kill_66 ?_
    refine r_dup hC (cat_rf _) dX8_kill_67 ?_
    refine r_gI hC (k := 3) (r := r14) cls_7 (by decide) rfl q_1102 (Or.inl rfl) dX8_kill_68 (fun v17 => ?_)
    refine r_aloadn hC 0 (r := r14) rfl rfl dX8_kill_71 ?_
    refine r_gI hC (k := 3) (r := r14) cls_7 (by decide) rfl q_1102 (Or.inl rfl) dX8_kill_72 (fun v18 => ?_)
    refine r_iconst hC (5) rfl dX8_kill_75 ?_
    refine r_idiv hC dX8_kill_76 (fun v19 => ?_)
    refine r_isub hC dX8_kill_77 (fun v20 => ?_)
    refine r_pI hC (k := 3) (r := r14) cls_7 (by decide) rfl q_1102 (Or.inl rfl) (Or.inl rfl) dX8_kill_78 (fun σ21 => ?_)
    refine r_aloadn hC 0 (r := r14) rfl rfl dX8_kill_81 ?_
    refine r_iconst hC (1) rfl dX8_kill_82 ?_
    refine r_pB hC (k := 10) (r := r14) cls_7 (by decide) rfl q_1116 (Or.inl rfl) (Or.inl rfl) dX8_kill_83 (fun σ22 => ?_)
    refine r_aloadn hC 0 (r := r14) rfl rfl dX8_kill_86 ?_
    refine r_gI hC (k := 3) (r := r14) cls_7 (by decide) rfl q_1102 (Or.inl rfl) dX8_kill_87 (fun v23 => ?_)
    exact e_I hC ⟨Nat.zero_le _, Nat.zero_le _⟩ dX8_kill_90
  · refine Wo.sub [] rfl ?_
    exact t_X8_kill_52 hC  σ11

set_option maxRecDepth 100000 in
set_option maxHeartbeats 4000000 in
theorem t_X8_kill_40 {C : Cxt} {G : Glb} (hC : CX C G RX8 cX8_kill 3 (some .int) 4 0 0 86) (a0 : Nat) (x40_1 : Int32) (y40_0 : (Option Nat)) (σ : Mem) : Wo C G 3 (QP C G rvI 0 0) (b_X8_kill_40  a0 x40_1 y40_0 σ) σ 0 0 40 [(0, va_rf (some a0)), (1, .int x40_1)] [va_rf y40_0] := by
  unfold b_X8_kill_40
  refine r_iconst hC (1) rfl dX8_kill_40 ?_
  refine r_goto hC 45 dX8_kill_41 (by decide) ?_
  exact t_X8_kill_45 hC a0 x40_1 1 y40_0 σ

set_option maxRecDepth 100000 in
set_option maxHeartbeats 4000000 in
theorem t_X8_kill_0 {C : Cxt} {G : Glb} (hC : CX C G RX8 cX8_kill 3 (some .int) 4 0 0 86) (a0 : Nat) (p0 : Int32) (σ : Mem) : Wo C G 3 (QP C G rvI 0 0) (b_X8_kill_0  a0 p0 σ) σ 0 0 0 [(0, va_rf (some a0)), (1, .int p0)] [] := by
  unfold b_X8_kill_0
  refine r_aloadn hC 0 (r := (some a0)) rfl rfl dX8_kill_0 ?_
  refine r_aloadn hC 0 (r := (some a0)) rfl rfl dX8_kill_1 ?_
  refine r_iloadn hC 1 rfl rfl dX8_kill_2 ?_
  refine call_V hC (av := [.int p0]) (st := [va_rf (some a0)]) (r := (some a0)) (ci := 10) rfl rfl (fun h9 => ct_X8_isNoLot hC.hl G h9 p0 σ) q_1165 q_1167 q_19 q_44 q_1168 yd_X8_isNoLot rfl ⟨Nat.le_of_ble_eq_true rfl, Nat.le_of_ble_eq_true rfl⟩ ⟨Nat.zero_le _, Nat.zero_le _⟩ rfl (by simp [cat_rf, cat_i, cat_j, cat_d, cat_a]) dX8_kill_3 (fun v1 σ2 => ?_)
  show Wo _ _ _ _ _ _ _ _ _ _ [.int v1, va_rf (some a0)]
  refine r_iconst hC (1) rfl dX8_kill_6 ?_
  refine call_V hC (av := [.int v1, .int 1]) (st := []) (r := (some a0)) (ci := 10) rfl rfl (fun h9 => ct_X8_start hC.hl G h9 v1 1 σ2) q_882 q_884 q_12 q_44 q_885 yd_X8_start rfl ⟨Nat.le_of_ble_eq_true rfl, Nat.le_of_ble_eq_true rfl⟩ ⟨Nat.zero_le _, Nat.zero_le _⟩ rfl (Nat.le_of_ble_eq_true rfl) dX8_kill_7 (fun v4 σ5 => ?_)
  show Wo _ _ _ _ _ _ _ _ _ _ [.int v4]
  refine r_if_ne hC 52 dX8_kill_10 (by decide) ?_ ?_
  · refine Wo.sub [] rfl ?_
    exact t_X8_kill_52 hC  σ5
  · refine r_aloadn hC 0 (r := (some a0)) rfl rfl dX8_kill_13 ?_
    refine r_aloadn hC 0 (r := (some a0)) rfl rfl dX8_kill_14 ?_
    refine r_iloadn hC 1 rfl rfl dX8_kill_15 ?_
    refine r_iconst hC (0) rfl dX8_kill_16 ?_
    refine call_V hC (av := [.int p0, .int 0]) (st := [va_rf (some a0)]) (r := (some a0)) (ci := 10) rfl rfl (fun h9 => ct_X8_isState hC.hl G h9 p0 0 σ5) q_1181 q_1183 q_20 q_44 q_1184 yd_X8_isState rfl ⟨Nat.le_of_ble_eq_true rfl, Nat.le_of_ble_eq_true rfl⟩ ⟨Nat.zero_le _, Nat.zero_le _⟩ rfl (by simp [cat_rf, cat_i, cat_j, cat_d, cat_a]) dX8_kill_17 (fun v7 σ8 => ?_)
    show Wo _ _ _ _ _ _ _ _ _ _ [.int v7, va_rf (some a0)]
    refine r_if_eq hC 40 dX8_kill_20 (by decide) ?_ ?_
    · exact t_X8_kill_40 hC a0 p0 (some a0) σ8
    · refine r_aloadn hC 0 (r := (some a0)) rfl rfl dX8_kill_23 ?_
      refine r_gR hC (k := 7) (r := (some a0)) cls_10 (by decide) rfl q_847 (Or.inl rfl) dX8_kill_24 (fun r24 => ?_)
      refine r_iloadn hC 1 rfl rfl dX8_kill_27 ?_
      refine call_V hC (av := [.int p0]) (st := [va_rf (some a0)]) (r := r24) (ci := 1) rfl rfl (fun h9 => ct_Jx4a65c_get_915e3 hC.hl G h9 p0 σ8) q_1057 q_1058 q_1059 q_47 q_1060 yd_Jx4a65c_get_915e3 rfl ⟨Nat.le_of_ble_eq_true rfl, Nat.le_of_ble_eq_true rfl⟩ ⟨Nat.zero_le _, Nat.zero_le _⟩ rfl (by simp [cat_rf, cat_i, cat_j, cat_d, cat_a]) dX8_kill_28 (fun r25 σ26 => ?_)
      show Wo _ _ _ _ _ _ _ _ _ _ [va_rf r25, va_rf (some a0)]
      refine r_ckO hC (r := r25) cls_7 q_1087 dX8_kill_31 ?_
      refine r_gI hC (k := 10) (r := r25) cls_7 (by decide) rfl q_1116 (Or.inl rfl) dX8_kill_34 (fun v28 => ?_)
      refine r_if_eq hC 44 dX8_kill_37 (by decide) ?_ ?_
      · refine r_iconst hC (0) rfl dX8_kill_44 ?_
        exact t_X8_kill_45 hC a0 p0 0 (some a0) σ26
      · exact t_X8_kill_40 hC a0 p0 (some a0) σ26

set_option maxRecDepth 100000 in
set_option maxHeartbeats 4000000 in
theorem ct_X8_kill {l : Launch} (hl : l.stackTraces = false) (G : Glb) (a0 : Nat) (p0 : Int32) (σ : Mem) : Ct rvI l yX8_kill (Cond.code yX8_kill cX8_kill 3 (some .int) :: uW) { frames := 4, cells := 0, slots := 0, locals := 86 } 0 0 G [.ref a0, .int p0] σ (f_X8_kill a0 p0 σ) := by
  refine Ct.of hl (by decide +kernel) (Nat.le_of_ble_eq_true rfl) (fun C hC hin => ?_)
  have e : lv_args 0 [.ref a0, .int p0] = [(0, .ref a0), (1, .int p0)] := rfl
  rw [e]
  exact t_X8_kill_0 hC a0 p0 σ

noncomputable def b_X8_roll_35 (σ : Mem) : Option ((Int32) × Mem) :=
some (0, σ)

noncomputable def b_X8_roll_76 (x76_2 : Int32) (x76_3 : (Option Nat)) (y76_0 : Int32) (y76_1 : (Option Nat)) (σ : Mem) : Option ((Int32) × Mem) :=
ob 10 σ y76_1 fun h19 => cl1 (f_X8_refuse h19 y76_0 3 σ) fun v17 σ18 =>
if v17 = 0 then
gI 7 5 σ18 x76_3 fun v20 =>
nm (v20 + x76_2) fun v21 =>
pI 7 5 σ18 x76_3 v21 fun σ22 =>
pI 7 0 σ22 x76_3 1 fun σ23 =>
gI 7 5 σ23 x76_3 fun v24 =>
some (v24, σ23)
else
some (0, σ18)

noncomputable def b_X8_roll_71 (x71_2 : Int32) (x71_3 : (Option Nat)) (y71_0 : (Option Nat)) (σ : Mem) : Option ((Int32) × Mem) :=
b_X8_roll_76 x71_2 x71_3 1 y71_0 σ

noncomputable def b_X8_roll_28 (a0 : Nat) (x28_1 : Int32) (x28_2 : Int32) (y28_0 : Int32) (y28_1 : (Option Nat)) (σ : Mem) : Option ((Int32) × Mem) :=
ob 10 σ y28_1 fun h11 => cl1 (f_X8_refuse h11 y28_0 2 σ) fun v9 σ10 =>
if v9 = 0 then
gR 10 7 σ10 (some a0) fun r12 =>
ob 1 σ10 r12 fun h15 => cl1 (f_Jx4a65c_get_915e3 h15 x28_1 σ10) fun r13 σ14 =>
ck 8 σ14 r13 <|
gI 7 0 σ14 r13 fun v16 =>
if 1 < v16 then
b_X8_roll_71 x28_2 r13 (some a0) σ14
else
gI 7 3 σ14 r13 fun v25 =>
ob 7 σ14 r13 fun h28 => cl1 (f_X5_dry h28 σ14) fun v26 σ27 =>
nm (2 * v26) fun v29 =>
if v25 ≤ v29 then
b_X8_roll_76 x28_2 r13 0 (some a0) σ27
else
b_X8_roll_71 x28_2 r13 (some a0) σ27
else
b_X8_roll_35 σ10

noncomputable def b_X8_roll_0 (a0 : Nat) (p0 : Int32) (p1 : Int32) (σ : Mem) : Option ((Int32) × Mem) :=
ob 10 σ (some a0) fun h3 => cl1 (f_X8_isNoLot h3 p0 σ) fun v1 σ2 =>
ob 10 σ2 (some a0) fun h6 => cl1 (f_X8_start h6 v1 1 σ2) fun v4 σ5 =>
if v4 = 0 then
cl1 (f_X8_isIn p1 1 5 σ5) fun v7 σ8 =>
if v7 = 0 then
b_X8_roll_28 a0 p0 p1 1 (some a0) σ8
else
b_X8_roll_28 a0 p0 p1 0 (some a0) σ8
else
b_X8_roll_35 σ5

noncomputable def f_X8_roll (a0 : Nat) (p0 : Int32) (p1 : Int32) (σ : Mem) : Option ((Int32) × Mem) := b_X8_roll_0 a0 p0 p1 σ
set_option maxRecDepth 100000 in
set_option maxHeartbeats 4000000 in
theorem t_X8_roll_35 {C : Cxt} {G : Glb} (hC : CX C G RX8 cX8_roll 4 (some .int) 3 0 0 64) (σ : Mem) : Wo C G 4 (QP C G rvI 0 0) (b_X8_roll_35   σ) σ 0 0 35 [] [] := by
  unfold b_X8_roll_35
  refine r_iconst hC (0) rfl dX8_roll_35 ?_
  exact e_I hC ⟨Nat.zero_le _, Nat.zero_le _⟩ dX8_roll_36

set_option maxRecDepth 100000 in
set_option maxHeartbeats 4000000 in
theorem t_X8_roll_76 {C : Cxt} {G : Glb} (hC : CX C G RX8 cX8_roll 4 (some .int) 3 0 0 64) (x76_2 : Int32) (x76_3 : (Option Nat)) (y76_0 : Int32) (y76_1 : (Option Nat)) (σ : Mem) : Wo C G 4 (QP C G rvI 0 0) (b_X8_roll_76  x76_2 x76_3 y76_0 y76_1 σ) σ 0 0 76 [(2, .int x76_2), (3, va_rf x76_3)] [.int y76_0, va_rf y76_1] := by
  unfold b_X8_roll_76
  refine r_iconst hC (3) rfl dX8_roll_76 ?_
  refine call_V hC (av := [.int y76_0, .int 3]) (st := []) (r := y76_1) (ci := 10) rfl rfl (fun h9 => ct_X8_refuse hC.hl G h9 y76_0 3 σ) q_886 q_888 q_13 q_44 q_889 yd_X8_refuse rfl ⟨Nat.le_of_ble_eq_true rfl, Nat.le_of_ble_eq_true rfl⟩ ⟨Nat.zero_le _, Nat.zero_le _⟩ rfl (Nat.le_of_ble_eq_true rfl) dX8_roll_77 (fun v17 σ18 => ?_)
  show Wo _ _ _ _ _ _ _ _ _ _ [.int v17]
  refine r_if_eq hC 85 dX8_roll_80 (by decide) ?_ ?_
  · refine r_aloadn hC 1 (r := x76_3) rfl rfl dX8_roll_85 ?_
    refine r_dup hC (cat_rf _) dX8_roll_86 ?_
    refine r_gI hC (k := 5) (r := x76_3) cls_7 (by decide) rfl q_1106 (Or.inl rfl) dX8_roll_87 (fun v20 => ?_)
    refine r_iloadn hC 0 rfl rfl dX8_roll_90 ?_
    refine r_iadd hC dX8_roll_91 (fun v21 => ?_)
    refine r_pI hC (k := 5) (r := x76_3) cls_7 (by decide) rfl q_1106 (Or.inl rfl) (Or.inl rfl) dX8_roll_92 (fun σ22 => ?_)
    refine r_aloadn hC 1 (r := x76_3) rfl rfl dX8_roll_95 ?_
    refine r_iconst hC (1) rfl dX8_roll_96 ?_
    refine r_pI hC (k := 0) (r := x76_3) cls_7 (by decide) rfl q_1096 (Or.inl rfl) (Or.inl rfl) dX8_roll_97 (fun σ23 => ?_)
    refine r_aloadn hC 1 (r := x76_3) rfl rfl dX8_roll_100 ?_
    refine r_gI hC (k := 5) (r := x76_3) cls_7 (by decide) rfl q_1106 (Or.inl rfl) dX8_roll_101 (fun v24 => ?_)
    exact e_I hC ⟨Nat.zero_le _, Nat.zero_le _⟩ dX8_roll_104
  · refine r_iconst hC (0) rfl dX8_roll_83 ?_
    exact e_I hC ⟨Nat.zero_le _, Nat.zero_le _⟩ dX8_roll_84

set_option maxRecDepth 100000 in
set_option maxHeartbeats 4000000 in
theorem t_X8_roll_71 {C : Cxt} {G : Glb} (hC : CX C G RX8 cX8_roll 4 (some .int) 3 0 0 64) (x71_2 : Int32) (x71_3 : (Option Nat)) (y71_0 : (Option Nat)) (σ : Mem) : Wo C G 4 (QP C G rvI 0 0) (b_X8_roll_71  x71_2 x71_3 y71_0 σ) σ 0 0 71 [(2, .int x71_2), (3, va_rf x71_3)] [va_rf y71_0] := by
  unfold b_X8_roll_71
  refine r_iconst hC (1) rfl dX8_roll_71 ?_
  refine r_goto hC 76 dX8_roll_72 (by decide) ?_
  exact t_X8_roll_76 hC x71_2 x71_3 1 y71_0 σ

set_option maxRecDepth 100000 in
set_option maxHeartbeats 4000000 in
theorem t_X8_roll_28 {C : Cxt} {G : Glb} (hC : CX C G RX8 cX8_roll 4 (some .int) 3 0 0 64) (a0 : Nat) (x28_1 : Int32) (x28_2 : Int32) (y28_0 : Int32) (y28_1 : (Option Nat)) (σ : Mem) : Wo C G 4 (QP C G rvI 0 0) (b_X8_roll_28  a0 x28_1 x28_2 y28_0 y28_1 σ) σ 0 0 28 [(0, va_rf (some a0)), (1, .int x28_1), (2, .int x28_2)] [.int y28_0, va_rf y28_1] := by
  unfold b_X8_roll_28
  refine r_iconst hC (2) rfl dX8_roll_28 ?_
  refine call_V hC (av := [.int y28_0, .int 2]) (st := []) (r := y28_1) (ci := 10) rfl rfl (fun h9 => ct_X8_refuse hC.hl G h9 y28_0 2 σ) q_886 q_888 q_13 q_44 q_889 yd_X8_refuse rfl ⟨Nat.le_of_ble_eq_true rfl, Nat.le_of_ble_eq_true rfl⟩ ⟨Nat.zero_le _, Nat.zero_le _⟩ rfl (Nat.le_of_ble_eq_true rfl) dX8_roll_29 (fun v9 σ10 => ?_)
  show Wo _ _ _ _ _ _ _ _ _ _ [.int v9]
  refine r_if_eq hC 37 dX8_roll_32 (by decide) ?_ ?_
  · refine r_aloadn hC 0 (r := (some a0)) rfl rfl dX8_roll_37 ?_
    refine r_gR hC (k := 7) (r := (some a0)) cls_10 (by decide) rfl q_847 (Or.inl rfl) dX8_roll_38 (fun r12 => ?_)
    refine r_iloadn hC 1 rfl rfl dX8_roll_41 ?_
    refine call_V hC (av := [.int x28_1]) (st := []) (r := r12) (ci := 1) rfl rfl (fun h9 => ct_Jx4a65c_get_915e3 hC.hl G h9 x28_1 σ10) q_1057 q_1058 q_1059 q_47 q_1060 yd_Jx4a65c_get_915e3 rfl ⟨Nat.le_of_ble_eq_true rfl, Nat.le_of_ble_eq_true rfl⟩ ⟨Nat.zero_le _, Nat.zero_le _⟩ rfl (Nat.le_of_ble_eq_true rfl) dX8_roll_42 (fun r13 σ14 => ?_)
    show Wo _ _ _ _ _ _ _ _ _ _ [va_rf r13]
    refine r_ckO hC (r := r13) cls_7 q_1087 dX8_roll_45 ?_
    refine r_astoren hC [(3, va_rf r13), (0, va_rf (some a0)), (1, .int x28_1), (2, .int x28_2)] (r := r13) (i := 3) rfl (by decide) rfl dX8_roll_48 ?_
    refine r_aloadn hC 1 (r := (some a0)) rfl rfl dX8_roll_49 ?_
    refine r_aloadn hC 0 (r := r13) rfl rfl dX8_roll_50 ?_
    refine r_gI hC (k := 0) (r := r13) cls_7 (by decide) rfl q_1096 (Or.inl rfl) dX8_roll_51 (fun v16 => ?_)
    refine r_iconst hC (1) rfl dX8_roll_54 ?_
    refine r_icmp_gt hC 71 dX8_roll_55 (by decide) ?_ ?_
    · refine Wo.sub [3, 0] rfl ?_
      exact t_X8_roll_71 hC x28_2 r13 (some a0) σ14
    · refine r_aloadn hC 0 (r := r13) rfl rfl dX8_roll_58 ?_
      refine r_gI hC (k := 3) (r := r13) cls_7 (by decide) rfl q_1102 (Or.inl rfl) dX8_roll_59 (fun v25 => ?_)
      refine r_iconst hC (2) rfl dX8_roll_62 ?_
      refine r_aloadn hC 0 (r := r13) rfl rfl dX8_roll_63 ?_
      refine call_V hC (av := []) (st := [.int 2, .int v25, va_rf (some a0)]) (r := r13) (ci := 7) rfl rfl (fun h9 => ct_X5_dry hC.hl G h9 σ14) q_1157 q_1158 q_1159 q_63 q_1160 yd_X5_dry rfl ⟨Nat.le_of_ble_eq_true rfl, Nat.le_of_ble_eq_true rfl⟩ ⟨Nat.zero_le _, Nat.zero_le _⟩ rfl (by simp [cat_rf, cat_i, cat_j, cat_d, cat_a]) dX8_roll_64 (fun v26 σ27 => ?_)
      show Wo _ _ _ _ _ _ _ _ _ _ [.int v26, .int 2, .int v25, va_rf (some a0)]
      refine r_imul hC dX8_roll_67 (fun v29 => ?_)
      refine r_icmp_le hC 75 dX8_roll_68 (by decide) ?_ ?_
      · refine r_iconst hC (0) rfl dX8_roll_75 ?_
        refine Wo.sub [3, 0] rfl ?_
        exact t_X8_roll_76 hC x28_2 r13 0 (some a0) σ27
      · refine Wo.sub [3, 0] rfl ?_
        exact t_X8_roll_71 hC x28_2 r13 (some a0) σ27
  · refine Wo.sub [] rfl ?_
    exact t_X8_roll_35 hC  σ10

set_option maxRecDepth 100000 in
set_option maxHeartbeats 4000000 in
theorem t_X8_roll_0 {C : Cxt} {G : Glb} (hC : CX C G RX8 cX8_roll 4 (some .int) 3 0 0 64) (a0 : Nat) (p0 : Int32) (p1 : Int32) (σ : Mem) : Wo C G 4 (QP C G rvI 0 0) (b_X8_roll_0  a0 p0 p1 σ) σ 0 0 0 [(0, va_rf (some a0)), (1, .int p0), (2, .int p1)] [] := by
  unfold b_X8_roll_0
  refine r_aloadn hC 0 (r := (some a0)) rfl rfl dX8_roll_0 ?_
  refine r_aloadn hC 0 (r := (some a0)) rfl rfl dX8_roll_1 ?_
  refine r_iloadn hC 1 rfl rfl dX8_roll_2 ?_
  refine call_V hC (av := [.int p0]) (st := [va_rf (some a0)]) (r := (some a0)) (ci := 10) rfl rfl (fun h9 => ct_X8_isNoLot hC.hl G h9 p0 σ) q_1165 q_1167 q_19 q_44 q_1168 yd_X8_isNoLot rfl ⟨Nat.le_of_ble_eq_true rfl, Nat.le_of_ble_eq_true rfl⟩ ⟨Nat.zero_le _, Nat.zero_le _⟩ rfl (by simp [cat_rf, cat_i, cat_j, cat_d, cat_a]) dX8_roll_3 (fun v1 σ2 => ?_)
  show Wo _ _ _ _ _ _ _ _ _ _ [.int v1, va_rf (some a0)]
  refine r_iconst hC (1) rfl dX8_roll_6 ?_
  refine call_V hC (av := [.int v1, .int 1]) (st := []) (r := (some a0)) (ci := 10) rfl rfl (fun h9 => ct_X8_start hC.hl G h9 v1 1 σ2) q_882 q_884 q_12 q_44 q_885 yd_X8_start rfl ⟨Nat.le_of_ble_eq_true rfl, Nat.le_of_ble_eq_true rfl⟩ ⟨Nat.zero_le _, Nat.zero_le _⟩ rfl (Nat.le_of_ble_eq_true rfl) dX8_roll_7 (fun v4 σ5 => ?_)
  show Wo _ _ _ _ _ _ _ _ _ _ [.int v4]
  refine r_if_ne hC 35 dX8_roll_10 (by decide) ?_ ?_
  · refine Wo.sub [] rfl ?_
    exact t_X8_roll_35 hC  σ5
  · refine r_aloadn hC 0 (r := (some a0)) rfl rfl dX8_roll_13 ?_
    refine r_iloadn hC 2 rfl rfl dX8_roll_14 ?_
    refine r_iconst hC (1) rfl dX8_roll_15 ?_
    refine r_iconst hC (5) rfl dX8_roll_16 ?_
    refine call_S hC (av := [.int p1, .int 1, .int 5]) (st := [va_rf (some a0)]) (ct_X8_isIn hC.hl G p1 1 5 σ5) q_879 q_880 q_44 q_881 yd_X8_isIn rfl ⟨Nat.le_of_ble_eq_true rfl, Nat.le_of_ble_eq_true rfl⟩ ⟨Nat.zero_le _, Nat.zero_le _⟩ rfl (by simp [cat_rf, cat_i, cat_j, cat_d, cat_a]) dX8_roll_17 (fun v7 σ8 => ?_)
    show Wo _ _ _ _ _ _ _ _ _ _ [.int v7, va_rf (some a0)]
    refine r_if_ne hC 27 dX8_roll_20 (by decide) ?_ ?_
    · refine r_iconst hC (0) rfl dX8_roll_27 ?_
      exact t_X8_roll_28 hC a0 p0 p1 0 (some a0) σ8
    · refine r_iconst hC (1) rfl dX8_roll_23 ?_
      refine r_goto hC 28 dX8_roll_24 (by decide) ?_
      exact t_X8_roll_28 hC a0 p0 p1 1 (some a0) σ8

set_option maxRecDepth 100000 in
set_option maxHeartbeats 4000000 in
theorem ct_X8_roll {l : Launch} (hl : l.stackTraces = false) (G : Glb) (a0 : Nat) (p0 : Int32) (p1 : Int32) (σ : Mem) : Ct rvI l yX8_roll (Cond.code yX8_roll cX8_roll 4 (some .int) :: uW) { frames := 3, cells := 0, slots := 0, locals := 64 } 0 0 G [.ref a0, .int p0, .int p1] σ (f_X8_roll a0 p0 p1 σ) := by
  refine Ct.of hl (by decide +kernel) (Nat.le_of_ble_eq_true rfl) (fun C hC hin => ?_)
  have e : lv_args 0 [.ref a0, .int p0, .int p1] = [(0, .ref a0), (1, .int p0), (2, .int p1)] := rfl
  rw [e]
  exact t_X8_roll_0 hC a0 p0 p1 σ

noncomputable def b_X8_rest_84 (σ : Mem) : Option ((Int32) × Mem) :=
some (0, σ)

noncomputable def b_X8_rest_77 (a0 : Nat) (x77_1 : Int32) (x77_2 : Int32) (x77_3 : Int32) (y77_0 : Int32) (y77_1 : (Option Nat)) (σ : Mem) : Option ((Int32) × Mem) :=
ob 10 σ y77_1 fun h17 => cl1 (f_X8_refuse h17 y77_0 3 σ) fun v15 σ16 =>
if v15 = 0 then
gR 10 7 σ16 (some a0) fun r18 =>
ob 1 σ16 r18 fun h21 => cl1 (f_Jx4a65c_get_915e3 h21 x77_1 σ16) fun r19 σ20 =>
ck 8 σ20 r19 <|
gI 7 6 σ20 r19 fun v22 =>
nm (x77_2 * x77_3) fun v23 =>
nm (v22 + v23) fun v24 =>
nm (if v24 < 60 then v24 else 60) fun v25 =>
pI 7 6 σ20 r19 v25 fun σ26 =>
gI 7 6 σ26 r19 fun v27 =>
some (v27, σ26)
else
b_X8_rest_84 σ16

noncomputable def b_X8_rest_72 (a0 : Nat) (x72_1 : Int32) (x72_2 : Int32) (x72_3 : Int32) (y72_0 : (Option Nat)) (σ : Mem) : Option ((Int32) × Mem) :=
b_X8_rest_77 a0 x72_1 x72_2 x72_3 1 y72_0 σ

noncomputable def b_X8_rest_38 (a0 : Nat) (x38_1 : Int32) (x38_2 : Int32) (x38_3 : Int32) (y38_0 : Int32) (y38_1 : (Option Nat)) (σ : Mem) : Option ((Int32) × Mem) :=
ob 10 σ y38_1 fun h11 => cl1 (f_X8_refuse h11 y38_0 2 σ) fun v9 σ10 =>
if v9 = 0 then
ob 10 σ10 (some a0) fun h14 => cl1 (f_X8_isState h14 x38_1 1 σ10) fun v12 σ13 =>
if v12 = 0 then
b_X8_rest_72 a0 x38_1 x38_2 x38_3 (some a0) σ13
else
gR 10 7 σ13 (some a0) fun r28 =>
ob 1 σ13 r28 fun h31 => cl1 (f_Jx4a65c_get_915e3 h31 x38_1 σ13) fun r29 σ30 =>
ck 8 σ30 r29 <|
gI 7 10 σ30 r29 fun v32 =>
if v32 = 0 then
b_X8_rest_77 a0 x38_1 x38_2 x38_3 0 (some a0) σ30
else
b_X8_rest_72 a0 x38_1 x38_2 x38_3 (some a0) σ30
else
b_X8_rest_84 σ10

noncomputable def b_X8_rest_33 (a0 : Nat) (x33_1 : Int32) (x33_2 : Int32) (x33_3 : Int32) (y33_0 : (Option Nat)) (σ : Mem) : Option ((Int32) × Mem) :=
b_X8_rest_38 a0 x33_1 x33_2 x33_3 1 y33_0 σ

noncomputable def b_X8_rest_0 (a0 : Nat) (p0 : Int32) (p1 : Int32) (p2 : Int32) (σ : Mem) : Option ((Int32) × Mem) :=
ob 10 σ (some a0) fun h3 => cl1 (f_X8_isNoLot h3 p0 σ) fun v1 σ2 =>
ob 10 σ2 (some a0) fun h6 => cl1 (f_X8_start h6 v1 1 σ2) fun v4 σ5 =>
if v4 = 0 then
cl1 (f_X8_isIn p1 1 20 σ5) fun v7 σ8 =>
if v7 = 0 then
b_X8_rest_33 a0 p0 p1 p2 (some a0) σ8
else
cl1 (f_X8_isIn p2 1 4 σ8) fun v33 σ34 =>
if v33 = 0 then
b_X8_rest_33 a0 p0 p1 p2 (some a0) σ34
else
b_X8_rest_38 a0 p0 p1 p2 0 (some a0) σ34
else
b_X8_rest_84 σ5

noncomputable def f_X8_rest (a0 : Nat) (p0 : Int32) (p1 : Int32) (p2 : Int32) (σ : Mem) : Option ((Int32) × Mem) := b_X8_rest_0 a0 p0 p1 p2 σ
set_option maxRecDepth 100000 in
set_option maxHeartbeats 4000000 in
theorem t_X8_rest_84 {C : Cxt} {G : Glb} (hC : CX C G RX8 cX8_rest 5 (some .int) 4 0 0 86) (σ : Mem) : Wo C G 5 (QP C G rvI 0 0) (b_X8_rest_84   σ) σ 0 0 84 [] [] := by
  unfold b_X8_rest_84
  refine r_iconst hC (0) rfl dX8_rest_84 ?_
  exact e_I hC ⟨Nat.zero_le _, Nat.zero_le _⟩ dX8_rest_85

set_option maxRecDepth 100000 in
set_option maxHeartbeats 4000000 in
theorem t_X8_rest_77 {C : Cxt} {G : Glb} (hC : CX C G RX8 cX8_rest 5 (some .int) 4 0 0 86) (a0 : Nat) (x77_1 : Int32) (x77_2 : Int32) (x77_3 : Int32) (y77_0 : Int32) (y77_1 : (Option Nat)) (σ : Mem) : Wo C G 5 (QP C G rvI 0 0) (b_X8_rest_77  a0 x77_1 x77_2 x77_3 y77_0 y77_1 σ) σ 0 0 77 [(0, va_rf (some a0)), (1, .int x77_1), (2, .int x77_2), (3, .int x77_3)] [.int y77_0, va_rf y77_1] := by
  unfold b_X8_rest_77
  refine r_iconst hC (3) rfl dX8_rest_77 ?_
  refine call_V hC (av := [.int y77_0, .int 3]) (st := []) (r := y77_1) (ci := 10) rfl rfl (fun h9 => ct_X8_refuse hC.hl G h9 y77_0 3 σ) q_886 q_888 q_13 q_44 q_889 yd_X8_refuse rfl ⟨Nat.le_of_ble_eq_true rfl, Nat.le_of_ble_eq_true rfl⟩ ⟨Nat.zero_le _, Nat.zero_le _⟩ rfl (Nat.le_of_ble_eq_true rfl) dX8_rest_78 (fun v15 σ16 => ?_)
  show Wo _ _ _ _ _ _ _ _ _ _ [.int v15]
  refine r_if_eq hC 86 dX8_rest_81 (by decide) ?_ ?_
  · refine r_aloadn hC 0 (r := (some a0)) rfl rfl dX8_rest_86 ?_
    refine r_gR hC (k := 7) (r := (some a0)) cls_10 (by decide) rfl q_847 (Or.inl rfl) dX8_rest_87 (fun r18 => ?_)
    refine r_iloadn hC 1 rfl rfl dX8_rest_90 ?_
    refine call_V hC (av := [.int x77_1]) (st := []) (r := r18) (ci := 1) rfl rfl (fun h9 => ct_Jx4a65c_get_915e3 hC.hl G h9 x77_1 σ16) q_1057 q_1058 q_1059 q_47 q_1060 yd_Jx4a65c_get_915e3 rfl ⟨Nat.le_of_ble_eq_true rfl, Nat.le_of_ble_eq_true rfl⟩ ⟨Nat.zero_le _, Nat.zero_le _⟩ rfl (Nat.le_of_ble_eq_true rfl) dX8_rest_91 (fun r19 σ20 => ?_)
    show Wo _ _ _ _ _ _ _ _ _ _ [va_rf r19]
    refine r_ckO hC (r := r19) cls_7 q_1087 dX8_rest_94 ?_
    refine r_astore hC [(4, va_rf r19), (0, va_rf (some a0)), (1, .int x77_1), (2, .int x77_2), (3, .int x77_3)] (r := r19) (i := 4) (by decide) rfl dX8_rest_97 ?_
    refine r_aload hC 0 (r := r19) rfl dX8_rest_99 ?_
    refine r_bipush hC (60) (by decide) dX8_rest_101 ?_
    refine r_aload hC 0 (r := r19) rfl dX8_rest_103 ?_
    refine r_gI hC (k := 6) (r := r19) cls_7 (by decide) rfl q_1108 (Or.inl rfl) dX8_rest_105 (fun v22 => ?_)
    refine r_iloadn hC 3 rfl rfl dX8_rest_108 ?_
    refine r_iloadn hC 4 rfl rfl dX8_rest_109 ?_
    refine r_imul hC dX8_rest_110 (fun v23 => ?_)
    refine r_iadd hC dX8_rest_111 (fun v24 => ?_)
    refine r_min hC q_1156 q_283 q_56 q_284 (Nat.le_of_ble_eq_true rfl) (by simp [cat_rf, cat_i, cat_j, cat_d, cat_a]) ⟨Nat.zero_le _, Nat.zero_le _⟩ dX8_rest_112 (fun v25 => ?_)
    refine r_pI hC (k := 6) (r := r19) cls_7 (by decide) rfl q_1108 (Or.inl rfl) (Or.inl rfl) dX8_rest_115 (fun σ26 => ?_)
    refine r_aload hC 0 (r := r19) rfl dX8_rest_118 ?_
    refine r_gI hC (k := 6) (r := r19) cls_7 (by decide) rfl q_1108 (Or.inl rfl) dX8_rest_120 (fun v27 => ?_)
    exact e_I hC ⟨Nat.zero_le _, Nat.zero_le _⟩ dX8_rest_123
  · refine Wo.sub [] rfl ?_
    exact t_X8_rest_84 hC  σ16

set_option maxRecDepth 100000 in
set_option maxHeartbeats 4000000 in
theorem t_X8_rest_72 {C : Cxt} {G : Glb} (hC : CX C G RX8 cX8_rest 5 (some .int) 4 0 0 86) (a0 : Nat) (x72_1 : Int32) (x72_2 : Int32) (x72_3 : Int32) (y72_0 : (Option Nat)) (σ : Mem) : Wo C G 5 (QP C G rvI 0 0) (b_X8_rest_72  a0 x72_1 x72_2 x72_3 y72_0 σ) σ 0 0 72 [(0, va_rf (some a0)), (1, .int x72_1), (2, .int x72_2), (3, .int x72_3)] [va_rf y72_0] := by
  unfold b_X8_rest_72
  refine r_iconst hC (1) rfl dX8_rest_72 ?_
  refine r_goto hC 77 dX8_rest_73 (by decide) ?_
  exact t_X8_rest_77 hC a0 x72_1 x72_2 x72_3 1 y72_0 σ

set_option maxRecDepth 100000 in
set_option maxHeartbeats 4000000 in
theorem t_X8_rest_38 {C : Cxt} {G : Glb} (hC : CX C G RX8 cX8_rest 5 (some .int) 4 0 0 86) (a0 : Nat) (x38_1 : Int32) (x38_2 : Int32) (x38_3 : Int32) (y38_0 : Int32) (y38_1 : (Option Nat)) (σ : Mem) : Wo C G 5 (QP C G rvI 0 0) (b_X8_rest_38  a0 x38_1 x38_2 x38_3 y38_0 y38_1 σ) σ 0 0 38 [(0, va_rf (some a0)), (1, .int x38_1), (2, .int x38_2), (3, .int x38_3)] [.int y38_0, va_rf y38_1] := by
  unfold b_X8_rest_38
  refine r_iconst hC (2) rfl dX8_rest_38 ?_
  refine call_V hC (av := [.int y38_0, .int 2]) (st := []) (r := y38_1) (ci := 10) rfl rfl (fun h9 => ct_X8_refuse hC.hl G h9 y38_0 2 σ) q_886 q_888 q_13 q_44 q_889 yd_X8_refuse rfl ⟨Nat.le_of_ble_eq_true rfl, Nat.le_of_ble_eq_true rfl⟩ ⟨Nat.zero_le _, Nat.zero_le _⟩ rfl (Nat.le_of_ble_eq_true rfl) dX8_rest_39 (fun v9 σ10 => ?_)
  show Wo _ _ _ _ _ _ _ _ _ _ [.int v9]
  refine r_if_ne hC 84 dX8_rest_42 (by decide) ?_ ?_
  · refine Wo.sub [] rfl ?_
    exact t_X8_rest_84 hC  σ10
  · refine r_aloadn hC 0 (r := (some a0)) rfl rfl dX8_rest_45 ?_
    refine r_aloadn hC 0 (r := (some a0)) rfl rfl dX8_rest_46 ?_
    refine r_iloadn hC 1 rfl rfl dX8_rest_47 ?_
    refine r_iconst hC (1) rfl dX8_rest_48 ?_
    refine call_V hC (av := [.int x38_1, .int 1]) (st := [va_rf (some a0)]) (r := (some a0)) (ci := 10) rfl rfl (fun h9 => ct_X8_isState hC.hl G h9 x38_1 1 σ10) q_1181 q_1183 q_20 q_44 q_1184 yd_X8_isState rfl ⟨Nat.le_of_ble_eq_true rfl, Nat.le_of_ble_eq_true rfl⟩ ⟨Nat.zero_le _, Nat.zero_le _⟩ rfl (by simp [cat_rf, cat_i, cat_j, cat_d, cat_a]) dX8_rest_49 (fun v12 σ13 => ?_)
    show Wo _ _ _ _ _ _ _ _ _ _ [.int v12, va_rf (some a0)]
    refine r_if_eq hC 72 dX8_rest_52 (by decide) ?_ ?_
    · exact t_X8_rest_72 hC a0 x38_1 x38_2 x38_3 (some a0) σ13
    · refine r_aloadn hC 0 (r := (some a0)) rfl rfl dX8_rest_55 ?_
      refine r_gR hC (k := 7) (r := (some a0)) cls_10 (by decide) rfl q_847 (Or.inl rfl) dX8_rest_56 (fun r28 => ?_)
      refine r_iloadn hC 1 rfl rfl dX8_rest_59 ?_
      refine call_V hC (av := [.int x38_1]) (st := [va_rf (some a0)]) (r := r28) (ci := 1) rfl rfl (fun h9 => ct_Jx4a65c_get_915e3 hC.hl G h9 x38_1 σ13) q_1057 q_1058 q_1059 q_47 q_1060 yd_Jx4a65c_get_915e3 rfl ⟨Nat.le_of_ble_eq_true rfl, Nat.le_of_ble_eq_true rfl⟩ ⟨Nat.zero_le _, Nat.zero_le _⟩ rfl (by simp [cat_rf, cat_i, cat_j, cat_d, cat_a]) dX8_rest_60 (fun r29 σ30 => ?_)
      show Wo _ _ _ _ _ _ _ _ _ _ [va_rf r29, va_rf (some a0)]
      refine r_ckO hC (r := r29) cls_7 q_1087 dX8_rest_63 ?_
      refine r_gI hC (k := 10) (r := r29) cls_7 (by decide) rfl q_1116 (Or.inl rfl) dX8_rest_66 (fun v32 => ?_)
      refine r_if_eq hC 76 dX8_rest_69 (by decide) ?_ ?_
      · refine r_iconst hC (0) rfl dX8_rest_76 ?_
        exact t_X8_rest_77 hC a0 x38_1 x38_2 x38_3 0 (some a0) σ30
      · exact t_X8_rest_72 hC a0 x38_1 x38_2 x38_3 (some a0) σ30

set_option maxRecDepth 100000 in
set_option maxHeartbeats 4000000 in
theorem t_X8_rest_33 {C : Cxt} {G : Glb} (hC : CX C G RX8 cX8_rest 5 (some .int) 4 0 0 86) (a0 : Nat) (x33_1 : Int32) (x33_2 : Int32) (x33_3 : Int32) (y33_0 : (Option Nat)) (σ : Mem) : Wo C G 5 (QP C G rvI 0 0) (b_X8_rest_33  a0 x33_1 x33_2 x33_3 y33_0 σ) σ 0 0 33 [(0, va_rf (some a0)), (1, .int x33_1), (2, .int x33_2), (3, .int x33_3)] [va_rf y33_0] := by
  unfold b_X8_rest_33
  refine r_iconst hC (1) rfl dX8_rest_33 ?_
  refine r_goto hC 38 dX8_rest_34 (by decide) ?_
  exact t_X8_rest_38 hC a0 x33_1 x33_2 x33_3 1 y33_0 σ

set_option maxRecDepth 100000 in
set_option maxHeartbeats 4000000 in
theorem t_X8_rest_0 {C : Cxt} {G : Glb} (hC : CX C G RX8 cX8_rest 5 (some .int) 4 0 0 86) (a0 : Nat) (p0 : Int32) (p1 : Int32) (p2 : Int32) (σ : Mem) : Wo C G 5 (QP C G rvI 0 0) (b_X8_rest_0  a0 p0 p1 p2 σ) σ 0 0 0 [(0, va_rf (some a0)), (1, .int p0), (2, .int p1), (3, .int p2)] [] := by
  unfold b_X8_rest_0
  refine r_aloadn hC 0 (r := (some a0)) rfl rfl dX8_rest_0 ?_
  refine r_aloadn hC 0 (r := (some a0)) rfl rfl dX8_rest_1 ?_
  refine r_iloadn hC 1 rfl rfl dX8_rest_2 ?_
  refine call_V hC (av := [.int p0]) (st := [va_rf (some a0)]) (r := (some a0)) (ci := 10) rfl rfl (fun h9 => ct_X8_isNoLot hC.hl G h9 p0 σ) q_1165 q_1167 q_19 q_44 q_1168 yd_X8_isNoLot rfl ⟨Nat.le_of_ble_eq_true rfl, Nat.le_of_ble_eq_true rfl⟩ ⟨Nat.zero_le _, Nat.zero_le _⟩ rfl (by simp [cat_rf, cat_i, cat_j, cat_d, cat_a]) dX8_rest_3 (fun v1 σ2 => ?_)
  show Wo _ _ _ _ _ _ _ _ _ _ [.int v1, va_rf (some a0)]
  refine r_iconst hC (1) rfl dX8_rest_6 ?_
  refine call_V hC (av := [.int v1, .int 1]) (st := []) (r := (some a0)) (ci := 10) rfl rfl (fun h9 => ct_X8_start hC.hl G h9 v1 1 σ2) q_882 q_884 q_12 q_44 q_885 yd_X8_start rfl ⟨Nat.le_of_ble_eq_true rfl, Nat.le_of_ble_eq_true rfl⟩ ⟨Nat.zero_le _, Nat.zero_le _⟩ rfl (Nat.le_of_ble_eq_true rfl) dX8_rest_7 (fun v4 σ5 => ?_)
  show Wo _ _ _ _ _ _ _ _ _ _ [.int v4]
  refine r_if_ne hC 84 dX8_rest_10 (by decide) ?_ ?_
  · refine Wo.sub [] rfl ?_
    exact t_X8_rest_84 hC  σ5
  · refine r_aloadn hC 0 (r := (some a0)) rfl rfl dX8_rest_13 ?_
    refine r_iloadn hC 2 rfl rfl dX8_rest_14 ?_
    refine r_iconst hC (1) rfl dX8_rest_15 ?_
    refine r_bipush hC (20) (by decide) dX8_rest_16 ?_
    refine call_S hC (av := [.int p1, .int 1, .int 20]) (st := [va_rf (some a0)]) (ct_X8_isIn hC.hl G p1 1 20 σ5) q_879 q_880 q_44 q_881 yd_X8_isIn rfl ⟨Nat.le_of_ble_eq_true rfl, Nat.le_of_ble_eq_true rfl⟩ ⟨Nat.zero_le _, Nat.zero_le _⟩ rfl (by simp [cat_rf, cat_i, cat_j, cat_d, cat_a]) dX8_rest_18 (fun v7 σ8 => ?_)
    show Wo _ _ _ _ _ _ _ _ _ _ [.int v7, va_rf (some a0)]
    refine r_if_eq hC 33 dX8_rest_21 (by decide) ?_ ?_
    · exact t_X8_rest_33 hC a0 p0 p1 p2 (some a0) σ8
    · refine r_iloadn hC 3 rfl rfl dX8_rest_24 ?_
      refine r_iconst hC (1) rfl dX8_rest_25 ?_
      refine r_iconst hC (4) rfl dX8_rest_26 ?_
      refine call_S hC (av := [.int p2, .int 1, .int 4]) (st := [va_rf (some a0)]) (ct_X8_isIn hC.hl G p2 1 4 σ8) q_879 q_880 q_44 q_881 yd_X8_isIn rfl ⟨Nat.le_of_ble_eq_true rfl, Nat.le_of_ble_eq_true rfl⟩ ⟨Nat.zero_le _, Nat.zero_le _⟩ rfl (by simp [cat_rf, cat_i, cat_j, cat_d, cat_a]) dX8_rest_27 (fun v33 σ34 => ?_)
      show Wo _ _ _ _ _ _ _ _ _ _ [.int v33, va_rf (some a0)]
      refine r_if_ne hC 37 dX8_rest_30 (by decide) ?_ ?_
      · refine r_iconst hC (0) rfl dX8_rest_37 ?_
        exact t_X8_rest_38 hC a0 p0 p1 p2 0 (some a0) σ34
      · exact t_X8_rest_33 hC a0 p0 p1 p2 (some a0) σ34

set_option maxRecDepth 100000 in
set_option maxHeartbeats 4000000 in
theorem ct_X8_rest {l : Launch} (hl : l.stackTraces = false) (G : Glb) (a0 : Nat) (p0 : Int32) (p1 : Int32) (p2 : Int32) (σ : Mem) : Ct rvI l yX8_rest (Cond.code yX8_rest cX8_rest 5 (some .int) :: uW) { frames := 4, cells := 0, slots := 0, locals := 86 } 0 0 G [.ref a0, .int p0, .int p1, .int p2] σ (f_X8_rest a0 p0 p1 p2 σ) := by
  refine Ct.of hl (by decide +kernel) (Nat.le_of_ble_eq_true rfl) (fun C hC hin => ?_)
  have e : lv_args 0 [.ref a0, .int p0, .int p1, .int p2] = [(0, .ref a0), (1, .int p0), (2, .int p1), (3, .int p2)] := rfl
  rw [e]
  exact t_X8_rest_0 hC a0 p0 p1 p2 σ

noncomputable def b_X8_fire_67 (σ : Mem) : Option ((Int32) × Mem) :=
some (0, σ)

noncomputable def b_X8_fire_85 (k85 : Int32 → Int32 → (Option Nat) → Int32 → Mem → Option ((Int32) × Mem)) (x85_2 : Int32) (x85_3 : Int32) (x85_4 : (Option Nat)) (x85_5 : Int32) (σ : Mem) : Option ((Int32) × Mem) :=
if x85_3 ≤ x85_5 then
ob 7 σ x85_4 fun h24 => cl1 (f_X5_settle h24 σ) fun u22 σ23 =>
gI 7 3 σ23 x85_4 fun v25 =>
some (v25, σ23)
else
ob 7 σ x85_4 fun h28 => cl1 (f_X5_fire h28 x85_2 σ) fun u26 σ27 =>
nm (x85_5 + 1) fun v29 =>
k85 x85_2 x85_3 x85_4 v29 σ27

noncomputable def l_X8_fire_85 (n : Nat) : Int32 → Int32 → (Option Nat) → Int32 → Mem → Option ((Int32) × Mem) := itr (fun _ _ _ _ _ => none) (fun k => b_X8_fire_85  k) n

noncomputable def b_X8_fire_60 (a0 : Nat) (x60_1 : Int32) (x60_2 : Int32) (x60_3 : Int32) (y60_0 : Int32) (y60_1 : (Option Nat)) (σ : Mem) : Option ((Int32) × Mem) :=
ob 10 σ y60_1 fun h17 => cl1 (f_X8_refuse h17 y60_0 3 σ) fun v15 σ16 =>
if v15 = 0 then
gR 10 7 σ16 (some a0) fun r18 =>
ob 1 σ16 r18 fun h21 => cl1 (f_Jx4a65c_get_915e3 h21 x60_1 σ16) fun r19 σ20 =>
ck 8 σ20 r19 <|
l_X8_fire_85 40 x60_2 x60_3 r19 0 σ20
else
b_X8_fire_67 σ16

noncomputable def b_X8_fire_38 (a0 : Nat) (x38_1 : Int32) (x38_2 : Int32) (x38_3 : Int32) (y38_0 : Int32) (y38_1 : (Option Nat)) (σ : Mem) : Option ((Int32) × Mem) :=
ob 10 σ y38_1 fun h11 => cl1 (f_X8_refuse h11 y38_0 2 σ) fun v9 σ10 =>
if v9 = 0 then
ob 10 σ10 (some a0) fun h14 => cl1 (f_X8_isState h14 x38_1 1 σ10) fun v12 σ13 =>
if v12 = 0 then
b_X8_fire_60 a0 x38_1 x38_2 x38_3 1 (some a0) σ13
else
b_X8_fire_60 a0 x38_1 x38_2 x38_3 0 (some a0) σ13
else
b_X8_fire_67 σ10

noncomputable def b_X8_fire_33 (a0 : Nat) (x33_1 : Int32) (x33_2 : Int32) (x33_3 : Int32) (y33_0 : (Option Nat)) (σ : Mem) : Option ((Int32) × Mem) :=
b_X8_fire_38 a0 x33_1 x33_2 x33_3 1 y33_0 σ

noncomputable def b_X8_fire_0 (a0 : Nat) (p0 : Int32) (p1 : Int32) (p2 : Int32) (σ : Mem) : Option ((Int32) × Mem) :=
ob 10 σ (some a0) fun h3 => cl1 (f_X8_isNoLot h3 p0 σ) fun v1 σ2 =>
ob 10 σ2 (some a0) fun h6 => cl1 (f_X8_start h6 v1 1 σ2) fun v4 σ5 =>
if v4 = 0 then
cl1 (f_X8_isIn p1 1 5 σ5) fun v7 σ8 =>
if v7 = 0 then
b_X8_fire_33 a0 p0 p1 p2 (some a0) σ8
else
cl1 (f_X8_isIn p2 1 30 σ8) fun v30 σ31 =>
if v30 = 0 then
b_X8_fire_33 a0 p0 p1 p2 (some a0) σ31
else
b_X8_fire_38 a0 p0 p1 p2 0 (some a0) σ31
else
b_X8_fire_67 σ5

noncomputable def f_X8_fire (a0 : Nat) (p0 : Int32) (p1 : Int32) (p2 : Int32) (σ : Mem) : Option ((Int32) × Mem) := b_X8_fire_0 a0 p0 p1 p2 σ
set_option maxRecDepth 100000 in
set_option maxHeartbeats 4000000 in
theorem t_X8_fire_67 {C : Cxt} {G : Glb} (hC : CX C G RX8 cX8_fire 6 (some .int) 4 0 0 86) (σ : Mem) : Wo C G 6 (QP C G rvI 0 0) (b_X8_fire_67   σ) σ 0 0 67 [] [] := by
  unfold b_X8_fire_67
  refine r_iconst hC (0) rfl dX8_fire_67 ?_
  exact e_I hC ⟨Nat.zero_le _, Nat.zero_le _⟩ dX8_fire_68

set_option maxRecDepth 100000 in
set_option maxHeartbeats 4000000 in
theorem t_X8_fire_85 {C : Cxt} {G : Glb} (hC : CX C G RX8 cX8_fire 6 (some .int) 4 0 0 86) (k85 : Int32 → Int32 → (Option Nat) → Int32 → Mem → Option ((Int32) × Mem)) (hk85 : ∀ (x85_2 : Int32) (x85_3 : Int32) (x85_4 : (Option Nat)) (x85_5 : Int32) (σ : Mem), Wo C G 6 (QP C G rvI 0 0) (k85 x85_2 x85_3 x85_4 x85_5 σ) σ 0 0 85 [(2, .int x85_2), (3, .int x85_3), (4, va_rf x85_4), (5, .int x85_5)] []) (x85_2 : Int32) (x85_3 : Int32) (x85_4 : (Option Nat)) (x85_5 : Int32) (σ : Mem) : Wo C G 6 (QP C G rvI 0 0) (b_X8_fire_85 k85 x85_2 x85_3 x85_4 x85_5 σ) σ 0 0 85 [(2, .int x85_2), (3, .int x85_3), (4, va_rf x85_4), (5, .int x85_5)] [] := by
  unfold b_X8_fire_85
  refine r_iload hC 3 rfl dX8_fire_85 ?_
  refine r_iloadn hC 1 rfl rfl dX8_fire_87 ?_
  refine r_icmp_ge hC 103 dX8_fire_88 (by decide) ?_ ?_
  · refine r_aload hC 2 (r := x85_4) rfl dX8_fire_103 ?_
    refine call_V hC (av := []) (st := []) (r := x85_4) (ci := 7) rfl rfl (fun h9 => ct_X5_settle hC.hl G h9 σ) q_1211 q_1212 q_1213 q_63 q_1214 yd_X5_settle rfl ⟨Nat.le_of_ble_eq_true rfl, Nat.le_of_ble_eq_true rfl⟩ ⟨Nat.zero_le _, Nat.zero_le _⟩ rfl (Nat.le_of_ble_eq_true rfl) dX8_fire_105 (fun u22 σ23 => ?_)
    show Wo _ _ _ _ _ _ _ _ _ _ []
    refine r_aload hC 2 (r := x85_4) rfl dX8_fire_108 ?_
    refine r_gI hC (k := 3) (r := x85_4) cls_7 (by decide) rfl q_1102 (Or.inl rfl) dX8_fire_110 (fun v25 => ?_)
    exact e_I hC ⟨Nat.zero_le _, Nat.zero_le _⟩ dX8_fire_113
  · refine r_aload hC 2 (r := x85_4) rfl dX8_fire_91 ?_
    refine r_iloadn hC 0 rfl rfl dX8_fire_93 ?_
    refine call_V hC (av := [.int x85_2]) (st := []) (r := x85_4) (ci := 7) rfl rfl (fun h9 => ct_X5_fire hC.hl G h9 x85_2 σ) q_1207 q_1208 q_1209 q_63 q_1210 yd_X5_fire rfl ⟨Nat.le_of_ble_eq_true rfl, Nat.le_of_ble_eq_true rfl⟩ ⟨Nat.zero_le _, Nat.zero_le _⟩ rfl (Nat.le_of_ble_eq_true rfl) dX8_fire_94 (fun u26 σ27 => ?_)
    show Wo _ _ _ _ _ _ _ _ _ _ []
    refine r_iinc hC 3 (fun w => [(5, .int w), (2, .int x85_2), (3, .int x85_3), (4, va_rf x85_4)]) 1 rfl (by decide) rfl (fun w => by simp [List.filter, cat_rf, cat_i, cat_j, cat_d, cat_a]) dX8_fire_97 (fun v29 => ?_)
    refine r_goto hC 85 dX8_fire_100 (by decide) ?_
    refine Wo.sub [1, 2, 3, 0] rfl ?_
    exact hk85 x85_2 x85_3 x85_4 v29 σ27

set_option maxRecDepth 100000 in
set_option maxHeartbeats 4000000 in
theorem u_X8_fire_85 {C : Cxt} {G : Glb} (hC : CX C G RX8 cX8_fire 6 (some .int) 4 0 0 86) : ∀ (n : Nat) (x85_2 : Int32) (x85_3 : Int32) (x85_4 : (Option Nat)) (x85_5 : Int32) (σ : Mem), Wo C G 6 (QP C G rvI 0 0) (l_X8_fire_85  n x85_2 x85_3 x85_4 x85_5 σ) σ 0 0 85 [(2, .int x85_2), (3, .int x85_3), (4, va_rf x85_4), (5, .int x85_5)] [] := by
  intro n
  induction n with
  | zero => intro x85_2 x85_3 x85_4 x85_5 σ; exact Wo.none
  | succ n ih => intro x85_2 x85_3 x85_4 x85_5 σ; exact t_X8_fire_85 hC (l_X8_fire_85  n) ih x85_2 x85_3 x85_4 x85_5 σ

set_option maxRecDepth 100000 in
set_option maxHeartbeats 4000000 in
theorem t_X8_fire_60 {C : Cxt} {G : Glb} (hC : CX C G RX8 cX8_fire 6 (some .int) 4 0 0 86) (a0 : Nat) (x60_1 : Int32) (x60_2 : Int32) (x60_3 : Int32) (y60_0 : Int32) (y60_1 : (Option Nat)) (σ : Mem) : Wo C G 6 (QP C G rvI 0 0) (b_X8_fire_60  a0 x60_1 x60_2 x60_3 y60_0 y60_1 σ) σ 0 0 60 [(0, va_rf (some a0)), (1, .int x60_1), (2, .int x60_2), (3, .int x60_3)] [.int y60_0, va_rf y60_1] := by
  unfold b_X8_fire_60
  refine r_iconst hC (3) rfl dX8_fire_60 ?_
  refine call_V hC (av := [.int y60_0, .int 3]) (st := []) (r := y60_1) (ci := 10) rfl rfl (fun h9 => ct_X8_refuse hC.hl G h9 y60_0 3 σ) q_886 q_888 q_13 q_44 q_889 yd_X8_refuse rfl ⟨Nat.le_of_ble_eq_true rfl, Nat.le_of_ble_eq_true rfl⟩ ⟨Nat.zero_le _, Nat.zero_le _⟩ rfl (Nat.le_of_ble_eq_true rfl) dX8_fire_61 (fun v15 σ16 => ?_)
  show Wo _ _ _ _ _ _ _ _ _ _ [.int v15]
  refine r_if_eq hC 69 dX8_fire_64 (by decide) ?_ ?_
  · refine r_aloadn hC 0 (r := (some a0)) rfl rfl dX8_fire_69 ?_
    refine r_gR hC (k := 7) (r := (some a0)) cls_10 (by decide) rfl q_847 (Or.inl rfl) dX8_fire_70 (fun r18 => ?_)
    refine r_iloadn hC 1 rfl rfl dX8_fire_73 ?_
    refine call_V hC (av := [.int x60_1]) (st := []) (r := r18) (ci := 1) rfl rfl (fun h9 => ct_Jx4a65c_get_915e3 hC.hl G h9 x60_1 σ16) q_1057 q_1058 q_1059 q_47 q_1060 yd_Jx4a65c_get_915e3 rfl ⟨Nat.le_of_ble_eq_true rfl, Nat.le_of_ble_eq_true rfl⟩ ⟨Nat.zero_le _, Nat.zero_le _⟩ rfl (Nat.le_of_ble_eq_true rfl) dX8_fire_74 (fun r19 σ20 => ?_)
    show Wo _ _ _ _ _ _ _ _ _ _ [va_rf r19]
    refine r_ckO hC (r := r19) cls_7 q_1087 dX8_fire_77 ?_
    refine r_astore hC [(4, va_rf r19), (0, va_rf (some a0)), (1, .int x60_1), (2, .int x60_2), (3, .int x60_3)] (r := r19) (i := 4) (by decide) rfl dX8_fire_80 ?_
    refine r_iconst hC (0) rfl dX8_fire_82 ?_
    refine r_istore hC [(5, .int 0), (4, va_rf r19), (0, va_rf (some a0)), (1, .int x60_1), (2, .int x60_2), (3, .int x60_3)] (i := 5) (by decide) (by simp [List.filter, cat_rf, cat_i, cat_j, cat_d, cat_a]) dX8_fire_83 ?_
    refine Wo.sub [4, 5, 1, 0] rfl ?_
    exact u_X8_fire_85 hC 40 x60_2 x60_3 r19 0 σ20
  · refine Wo.sub [] rfl ?_
    exact t_X8_fire_67 hC  σ16

set_option maxRecDepth 100000 in
set_option maxHeartbeats 4000000 in
theorem t_X8_fire_38 {C : Cxt} {G : Glb} (hC : CX C G RX8 cX8_fire 6 (some .int) 4 0 0 86) (a0 : Nat) (x38_1 : Int32) (x38_2 : Int32) (x38_3 : Int32) (y38_0 : Int32) (y38_1 : (Option Nat)) (σ : Mem) : Wo C G 6 (QP C G rvI 0 0) (b_X8_fire_38  a0 x38_1 x38_2 x38_3 y38_0 y38_1 σ) σ 0 0 38 [(0, va_rf (some a0)), (1, .int x38_1), (2, .int x38_2), (3, .int x38_3)] [.int y38_0, va_rf y38_1] := by
  unfold b_X8_fire_38
  refine r_iconst hC (2) rfl dX8_fire_38 ?_
  refine call_V hC (av := [.int y38_0, .int 2]) (st := []) (r := y38_1) (ci := 10) rfl rfl (fun h9 => ct_X8_refuse hC.hl G h9 y38_0 2 σ) q_886 q_888 q_13 q_44 q_889 yd_X8_refuse rfl ⟨Nat.le_of_ble_eq_true rfl, Nat.le_of_ble_eq_true rfl⟩ ⟨Nat.zero_le _, Nat.zero_le _⟩ rfl (Nat.le_of_ble_eq_true rfl) dX8_fire_39 (fun v9 σ10 => ?_)
  show Wo _ _ _ _ _ _ _ _ _ _ [.int v9]
  refine r_if_ne hC 67 dX8_fire_42 (by decide) ?_ ?_
  · refine Wo.sub [] rfl ?_
    exact t_X8_fire_67 hC  σ10
  · refine r_aloadn hC 0 (r := (some a0)) rfl rfl dX8_fire_45 ?_
    refine r_aloadn hC 0 (r := (some a0)) rfl rfl dX8_fire_46 ?_
    refine r_iloadn hC 1 rfl rfl dX8_fire_47 ?_
    refine r_iconst hC (1) rfl dX8_fire_48 ?_
    refine call_V hC (av := [.int x38_1, .int 1]) (st := [va_rf (some a0)]) (r := (some a0)) (ci := 10) rfl rfl (fun h9 => ct_X8_isState hC.hl G h9 x38_1 1 σ10) q_1181 q_1183 q_20 q_44 q_1184 yd_X8_isState rfl ⟨Nat.le_of_ble_eq_true rfl, Nat.le_of_ble_eq_true rfl⟩ ⟨Nat.zero_le _, Nat.zero_le _⟩ rfl (by simp [cat_rf, cat_i, cat_j, cat_d, cat_a]) dX8_fire_49 (fun v12 σ13 => ?_)
    show Wo _ _ _ _ _ _ _ _ _ _ [.int v12, va_rf (some a0)]
    refine r_if_ne hC 59 dX8_fire_52 (by decide) ?_ ?_
    · refine r_iconst hC (0) rfl dX8_fire_59 ?_
      exact t_X8_fire_60 hC a0 x38_1 x38_2 x38_3 0 (some a0) σ13
    · refine r_iconst hC (1) rfl dX8_fire_55 ?_
      refine r_goto hC 60 dX8_fire_56 (by decide) ?_
      exact t_X8_fire_60 hC a0 x38_1 x38_2 x38_3 1 (some a0) σ13

set_option maxRecDepth 100000 in
set_option maxHeartbeats 4000000 in
theorem t_X8_fire_33 {C : Cxt} {G : Glb} (hC : CX C G RX8 cX8_fire 6 (some .int) 4 0 0 86) (a0 : Nat) (x33_1 : Int32) (x33_2 : Int32) (x33_3 : Int32) (y33_0 : (Option Nat)) (σ : Mem) : Wo C G 6 (QP C G rvI 0 0) (b_X8_fire_33  a0 x33_1 x33_2 x33_3 y33_0 σ) σ 0 0 33 [(0, va_rf (some a0)), (1, .int x33_1), (2, .int x33_2), (3, .int x33_3)] [va_rf y33_0] := by
  unfold b_X8_fire_33
  refine r_iconst hC (1) rfl dX8_fire_33 ?_
  refine r_goto hC 38 dX8_fire_34 (by decide) ?_
  exact t_X8_fire_38 hC a0 x33_1 x33_2 x33_3 1 y33_0 σ

set_option maxRecDepth 100000 in
set_option maxHeartbeats 4000000 in
theorem t_X8_fire_0 {C : Cxt} {G : Glb} (hC : CX C G RX8 cX8_fire 6 (some .int) 4 0 0 86) (a0 : Nat) (p0 : Int32) (p1 : Int32) (p2 : Int32) (σ : Mem) : Wo C G 6 (QP C G rvI 0 0) (b_X8_fire_0  a0 p0 p1 p2 σ) σ 0 0 0 [(0, va_rf (some a0)), (1, .int p0), (2, .int p1), (3, .int p2)] [] := by
  unfold b_X8_fire_0
  refine r_aloadn hC 0 (r := (some a0)) rfl rfl dX8_fire_0 ?_
  refine r_aloadn hC 0 (r := (some a0)) rfl rfl dX8_fire_1 ?_
  refine r_iloadn hC 1 rfl rfl dX8_fire_2 ?_
  refine call_V hC (av := [.int p0]) (st := [va_rf (some a0)]) (r := (some a0)) (ci := 10) rfl rfl (fun h9 => ct_X8_isNoLot hC.hl G h9 p0 σ) q_1165 q_1167 q_19 q_44 q_1168 yd_X8_isNoLot rfl ⟨Nat.le_of_ble_eq_true rfl, Nat.le_of_ble_eq_true rfl⟩ ⟨Nat.zero_le _, Nat.zero_le _⟩ rfl (by simp [cat_rf, cat_i, cat_j, cat_d, cat_a]) dX8_fire_3 (fun v1 σ2 => ?_)
  show Wo _ _ _ _ _ _ _ _ _ _ [.int v1, va_rf (some a0)]
  refine r_iconst hC (1) rfl dX8_fire_6 ?_
  refine call_V hC (av := [.int v1, .int 1]) (st := []) (r := (some a0)) (ci := 10) rfl rfl (fun h9 => ct_X8_start hC.hl G h9 v1 1 σ2) q_882 q_884 q_12 q_44 q_885 yd_X8_start rfl ⟨Nat.le_of_ble_eq_true rfl, Nat.le_of_ble_eq_true rfl⟩ ⟨Nat.zero_le _, Nat.zero_le _⟩ rfl (Nat.le_of_ble_eq_true rfl) dX8_fire_7 (fun v4 σ5 => ?_)
  show Wo _ _ _ _ _ _ _ _ _ _ [.int v4]
  refine r_if_ne hC 67 dX8_fire_10 (by decide) ?_ ?_
  · refine Wo.sub [] rfl ?_
    exact t_X8_fire_67 hC  σ5
  · refine r_aloadn hC 0 (r := (some a0)) rfl rfl dX8_fire_13 ?_
    refine r_iloadn hC 2 rfl rfl dX8_fire_14 ?_
    refine r_iconst hC (1) rfl dX8_fire_15 ?_
    refine r_iconst hC (5) rfl dX8_fire_16 ?_
    refine call_S hC (av := [.int p1, .int 1, .int 5]) (st := [va_rf (some a0)]) (ct_X8_isIn hC.hl G p1 1 5 σ5) q_879 q_880 q_44 q_881 yd_X8_isIn rfl ⟨Nat.le_of_ble_eq_true rfl, Nat.le_of_ble_eq_true rfl⟩ ⟨Nat.zero_le _, Nat.zero_le _⟩ rfl (by simp [cat_rf, cat_i, cat_j, cat_d, cat_a]) dX8_fire_17 (fun v7 σ8 => ?_)
    show Wo _ _ _ _ _ _ _ _ _ _ [.int v7, va_rf (some a0)]
    refine r_if_eq hC 33 dX8_fire_20 (by decide) ?_ ?_
    · exact t_X8_fire_33 hC a0 p0 p1 p2 (some a0) σ8
    · refine r_iloadn hC 3 rfl rfl dX8_fire_23 ?_
      refine r_iconst hC (1) rfl dX8_fire_24 ?_
      refine r_bipush hC (30) (by decide) dX8_fire_25 ?_
      refine call_S hC (av := [.int p2, .int 1, .int 30]) (st := [va_rf (some a0)]) (ct_X8_isIn hC.hl G p2 1 30 σ8) q_879 q_880 q_44 q_881 yd_X8_isIn rfl ⟨Nat.le_of_ble_eq_true rfl, Nat.le_of_ble_eq_true rfl⟩ ⟨Nat.zero_le _, Nat.zero_le _⟩ rfl (by simp [cat_rf, cat_i, cat_j, cat_d, cat_a]) dX8_fire_27 (fun v30 σ31 => ?_)
      show Wo _ _ _ _ _ _ _ _ _ _ [.int v30, va_rf (some a0)]
      refine r_if_ne hC 37 dX8_fire_30 (by decide) ?_ ?_
      · refine r_iconst hC (0) rfl dX8_fire_37 ?_
        exact t_X8_fire_38 hC a0 p0 p1 p2 0 (some a0) σ31
      · exact t_X8_fire_33 hC a0 p0 p1 p2 (some a0) σ31

set_option maxRecDepth 100000 in
set_option maxHeartbeats 4000000 in
theorem ct_X8_fire {l : Launch} (hl : l.stackTraces = false) (G : Glb) (a0 : Nat) (p0 : Int32) (p1 : Int32) (p2 : Int32) (σ : Mem) : Ct rvI l yX8_fire (Cond.code yX8_fire cX8_fire 6 (some .int) :: uW) { frames := 4, cells := 0, slots := 0, locals := 86 } 0 0 G [.ref a0, .int p0, .int p1, .int p2] σ (f_X8_fire a0 p0 p1 p2 σ) := by
  refine Ct.of hl (by decide +kernel) (Nat.le_of_ble_eq_true rfl) (fun C hC hin => ?_)
  have e : lv_args 0 [.ref a0, .int p0, .int p1, .int p2] = [(0, .ref a0), (1, .int p0), (2, .int p1), (3, .int p2)] := rfl
  rw [e]
  exact t_X8_fire_0 hC a0 p0 p1 p2 σ

noncomputable def b_X8_part_40 (y40_0 : Int32) (σ : Mem) : Option ((Int32) × Mem) :=
some (y40_0, σ)

noncomputable def b_X8_part_0 (p0 : Int32) (p1 : Int32) (p2 : Int32) (σ : Mem) : Option ((Int32) × Mem) :=
nm (p0 * p2) fun v1 =>
dv v1 40 fun v2 =>
nm (p0 * p2) fun v3 =>
dv v3 20 fun v4 =>
if p1 = 2 then
b_X8_part_40 v2 σ
else
if p1 = 1 then
b_X8_part_40 v4 σ
else
nm (p0 - v2) fun v5 =>
nm (v5 - v4) fun v6 =>
b_X8_part_40 v6 σ

noncomputable def f_X8_part (p0 : Int32) (p1 : Int32) (p2 : Int32) (σ : Mem) : Option ((Int32) × Mem) := b_X8_part_0 p0 p1 p2 σ
set_option maxRecDepth 100000 in
set_option maxHeartbeats 4000000 in
theorem t_X8_part_40 {C : Cxt} {G : Glb} (hC : CX C G RX8 cX8_part 5 (some .int) 0 0 0 0) (y40_0 : Int32) (σ : Mem) : Wo C G 5 (QP C G rvI 0 0) (b_X8_part_40  y40_0 σ) σ 0 0 40 [] [.int y40_0] := by
  unfold b_X8_part_40
  exact e_I hC ⟨Nat.zero_le _, Nat.zero_le _⟩ dX8_part_40

set_option maxRecDepth 100000 in
set_option maxHeartbeats 4000000 in
theorem t_X8_part_0 {C : Cxt} {G : Glb} (hC : CX C G RX8 cX8_part 5 (some .int) 0 0 0 0) (p0 : Int32) (p1 : Int32) (p2 : Int32) (σ : Mem) : Wo C G 5 (QP C G rvI 0 0) (b_X8_part_0  p0 p1 p2 σ) σ 0 0 0 [(0, .int p0), (1, .int p1), (2, .int p2)] [] := by
  unfold b_X8_part_0
  refine r_iloadn hC 0 rfl rfl dX8_part_0 ?_
  refine r_iloadn hC 2 rfl rfl dX8_part_1 ?_
  refine r_imul hC dX8_part_2 (fun v1 => ?_)
  refine r_bipush hC (40) (by decide) dX8_part_3 ?_
  refine r_idiv hC dX8_part_5 (fun v2 => ?_)
  refine r_istoren hC [(3, .int v2), (0, .int p0), (1, .int p1), (2, .int p2)] (i := 3) rfl (by decide) rfl dX8_part_6 ?_
  refine r_iloadn hC 1 rfl rfl dX8_part_7 ?_
  refine r_iloadn hC 3 rfl rfl dX8_part_8 ?_
  refine r_imul hC dX8_part_9 (fun v3 => ?_)
  refine r_bipush hC (20) (by decide) dX8_part_10 ?_
  refine r_idiv hC dX8_part_12 (fun v4 => ?_)
  refine r_istore hC [(4, .int v4), (3, .int v2), (0, .int p0), (1, .int p1), (2, .int p2)] (i := 4) (by decide) rfl dX8_part_13 ?_
  refine r_iloadn hC 3 rfl rfl dX8_part_15 ?_
  refine r_iconst hC (2) rfl dX8_part_16 ?_
  refine r_icmp_ne hC 24 dX8_part_17 (by decide) ?_ ?_
  · refine r_iloadn hC 3 rfl rfl dX8_part_24 ?_
    refine r_iconst hC (1) rfl dX8_part_25 ?_
    refine r_icmp_ne hC 34 dX8_part_26 (by decide) ?_ ?_
    · refine r_iloadn hC 2 rfl rfl dX8_part_34 ?_
      refine r_iloadn hC 1 rfl rfl dX8_part_35 ?_
      refine r_isub hC dX8_part_36 (fun v5 => ?_)
      refine r_iload hC 0 rfl dX8_part_37 ?_
      refine r_isub hC dX8_part_39 (fun v6 => ?_)
      refine Wo.sub [] rfl ?_
      exact t_X8_part_40 hC v6 σ
    · refine r_iload hC 0 rfl dX8_part_29 ?_
      refine r_goto hC 40 dX8_part_31 (by decide) ?_
      refine Wo.sub [] rfl ?_
      exact t_X8_part_40 hC v4 σ
  · refine r_iloadn hC 1 rfl rfl dX8_part_20 ?_
    refine r_goto hC 40 dX8_part_21 (by decide) ?_
    refine Wo.sub [] rfl ?_
    exact t_X8_part_40 hC v2 σ

set_option maxRecDepth 100000 in
set_option maxHeartbeats 4000000 in
theorem ct_X8_part {l : Launch} (hl : l.stackTraces = false) (G : Glb) (p0 : Int32) (p1 : Int32) (p2 : Int32) (σ : Mem) : Ct rvI l yX8_part (Cond.code yX8_part cX8_part 5 (some .int) :: uW) { frames := 0, cells := 0, slots := 0, locals := 0 } 0 0 G [.int p0, .int p1, .int p2] σ (f_X8_part p0 p1 p2 σ) := by
  refine Ct.of hl (by decide +kernel) (Nat.le_of_ble_eq_true rfl) (fun C hC hin => ?_)
  have e : lv_args 0 [.int p0, .int p1, .int p2] = [(0, .int p0), (1, .int p1), (2, .int p2)] := rfl
  rw [e]
  exact t_X8_part_0 hC p0 p1 p2 σ

noncomputable def b_X8_graded_115 (e0 mi : Nat) (k20 : (Option Nat) → Int32 → (Option Nat) → Int32 → Mem → Option ((Option Nat) × Mem)) (x115_0 : (Option Nat)) (x115_1 : Int32) (x115_2 : (Option Nat)) (x115_3 : Int32) (σ : Mem) : Option ((Option Nat) × Mem) :=
nm (x115_3 + 1) fun v24 =>
k20 x115_0 x115_1 x115_2 v24 σ

noncomputable def b_X8_graded_34 (e0 mi : Nat) (k20 : (Option Nat) → Int32 → (Option Nat) → Int32 → Mem → Option ((Option Nat) × Mem)) (k34 : (Option Nat) → Int32 → (Option Nat) → Int32 → (Option Nat) → Int32 → Mem → Option ((Option Nat) × Mem)) (x34_0 : (Option Nat)) (x34_1 : Int32) (x34_2 : (Option Nat)) (x34_3 : Int32) (x34_4 : (Option Nat)) (x34_5 : Int32) (σ : Mem) : Option ((Option Nat) × Mem) :=
if 4 ≤ x34_5 then
ob 7 σ x34_4 fun h13 => cl1 (f_X5_dry h13 σ) fun v11 σ12 =>
gI 7 2 σ12 x34_0 fun v14 =>
cl1 (f_X8_part v14 x34_3 x34_1 σ12) fun v15 σ16 =>
nm (if v15 < v11 then v15 else v11) fun v17 =>
pI 7 2 σ16 x34_4 v17 fun σ18 =>
pI 7 9 σ18 x34_4 x34_3 fun σ19 =>
pI 7 3 σ19 x34_4 0 fun σ20 =>
ob 7 σ20 x34_4 fun h23 => cl1 (f_X5_dry h23 σ20) fun v21 σ22 =>
if v21 ≤ 0 then
b_X8_graded_115 e0 mi k20 x34_0 x34_1 x34_2 x34_3 σ22
else
ob 1 σ22 x34_2 fun h27 => cl1 (f_Jx4a65c_add_9ea2d e0 mi h27 x34_4 σ22) fun v25 σ26 =>
b_X8_graded_115 e0 mi k20 x34_0 x34_1 x34_2 x34_3 σ26
else
gR 7 1 σ x34_4 fun r28 =>
gR 7 1 σ x34_0 fun r29 =>
aI σ r29 x34_5 fun v30 =>
cl1 (f_X8_part v30 x34_3 x34_1 σ) fun v31 σ32 =>
wI σ32 r28 x34_5 v31 fun σ33 =>
nm (x34_5 + 1) fun v34 =>
k34 x34_0 x34_1 x34_2 x34_3 x34_4 v34 σ33

noncomputable def l_X8_graded_34 (e0 mi : Nat) (k20 : (Option Nat) → Int32 → (Option Nat) → Int32 → Mem → Option ((Option Nat) × Mem)) (n : Nat) : (Option Nat) → Int32 → (Option Nat) → Int32 → (Option Nat) → Int32 → Mem → Option ((Option Nat) × Mem) := itr (fun _ _ _ _ _ _ _ => none) (fun k => b_X8_graded_34 e0 mi k20 k) n

noncomputable def b_X8_graded_20 (e0 mi : Nat) (k20 : (Option Nat) → Int32 → (Option Nat) → Int32 → Mem → Option ((Option Nat) × Mem)) (x20_0 : (Option Nat)) (x20_1 : Int32) (x20_2 : (Option Nat)) (x20_3 : Int32) (σ : Mem) : Option ((Option Nat) × Mem) :=
if 3 ≤ x20_3 then
some (x20_2, σ)
else
ob 7 σ x20_0 fun h10 => cl1 (f_X5_like e0 mi h10 σ) fun r8 σ9 =>
l_X8_graded_34 e0 mi k20 5 x20_0 x20_1 x20_2 x20_3 r8 0 σ9

noncomputable def l_X8_graded_20 (e0 mi : Nat) (n : Nat) : (Option Nat) → Int32 → (Option Nat) → Int32 → Mem → Option ((Option Nat) × Mem) := itr (fun _ _ _ _ _ => none) (fun k => b_X8_graded_20 e0 mi  k) n

noncomputable def b_X8_graded_0 (e0 mi : Nat) (p0 : (Option Nat)) (σ : Mem) : Option ((Option Nat) × Mem) :=
gI 7 5 σ p0 fun v1 =>
nm (if v1 < 10 then v1 else 10) fun v2 =>
nO 1 σ fun σ3 r4 =>
ob 1 σ3 r4 fun h7 => cl1 (f_Jx4a65c_init_da8c8 e0 mi h7 σ3) fun _ σ6 =>
l_X8_graded_20 e0 mi 4 p0 v2 r4 0 σ6

noncomputable def f_X8_graded (e0 mi : Nat) (p0 : (Option Nat)) (σ : Mem) : Option ((Option Nat) × Mem) := b_X8_graded_0 e0 mi p0 σ
set_option maxRecDepth 100000 in
set_option maxHeartbeats 4000000 in
theorem t_X8_graded_115 {C : Cxt} {G : Glb} (hC : CX C G RX8 cX8_graded 6 (some (.object "java/util/ArrayList")) 7 17 179 149) (P20 : Nat → Nat → Prop) (hm20 : ∀ a b a2 b2 : Nat, a ≤ a2 → b ≤ b2 → P20 a2 b2 → P20 a b) (k20 : (Option Nat) → Int32 → (Option Nat) → Int32 → Mem → Option ((Option Nat) × Mem)) (hk20 : ∀ (x20_0 : (Option Nat)) (x20_1 : Int32) (x20_2 : (Option Nat)) (x20_3 : Int32) (σ : Mem) (kc ks : Nat), P20 kc ks → Wo C G 6 (QP C G rvR 17 179) (k20 x20_0 x20_1 x20_2 x20_3 σ) σ kc ks 20 [(0, va_rf x20_0), (1, .int x20_1), (2, va_rf x20_2), (3, .int x20_3)] []) (x115_0 : (Option Nat)) (x115_1 : Int32) (x115_2 : (Option Nat)) (x115_3 : Int32) (σ : Mem) (kc ks : Nat) (hN : kc + 0 ≤ 17 ∧ ks + 0 ≤ 179) (hP20 : P20 (kc + 0) (ks + 0)) : Wo C G 6 (QP C G rvR 17 179) (b_X8_graded_115 G.2.2.2.1 G.2.2.2.2 k20 x115_0 x115_1 x115_2 x115_3 σ) σ kc ks 115 [(0, va_rf x115_0), (1, .int x115_1), (2, va_rf x115_2), (3, .int x115_3)] [] := by
  unfold b_X8_graded_115
  refine r_iinc hC 3 (fun w => [(3, .int w), (0, va_rf x115_0), (1, .int x115_1), (2, va_rf x115_2)]) 1 rfl (by decide) rfl (fun w => by simp [List.filter, cat_rf, cat_i, cat_j, cat_d, cat_a]) dX8_graded_115 (fun v24 => ?_)
  refine r_goto hC 20 dX8_graded_118 (by decide) ?_
  refine Wo.sub [1, 2, 3, 0] rfl ?_
  exact hk20 x115_0 x115_1 x115_2 v24 σ _ _ (hm20 _ _ _ _ (by omega) (by omega) hP20)

set_option maxRecDepth 100000 in
set_option maxHeartbeats 4000000 in
theorem t_X8_graded_34 {C : Cxt} {G : Glb} (hC : CX C G RX8 cX8_graded 6 (some (.object "java/util/ArrayList")) 7 17 179 149) (P20 : Nat → Nat → Prop) (hm20 : ∀ a b a2 b2 : Nat, a ≤ a2 → b ≤ b2 → P20 a2 b2 → P20 a b) (k20 : (Option Nat) → Int32 → (Option Nat) → Int32 → Mem → Option ((Option Nat) × Mem)) (hk20 : ∀ (x20_0 : (Option Nat)) (x20_1 : Int32) (x20_2 : (Option Nat)) (x20_3 : Int32) (σ : Mem) (kc ks : Nat), P20 kc ks → Wo C G 6 (QP C G rvR 17 179) (k20 x20_0 x20_1 x20_2 x20_3 σ) σ kc ks 20 [(0, va_rf x20_0), (1, .int x20_1), (2, va_rf x20_2), (3, .int x20_3)] []) (P34 : Nat → Nat → Prop) (hm34 : ∀ a b a2 b2 : Nat, a ≤ a2 → b ≤ b2 → P34 a2 b2 → P34 a b) (k34 : (Option Nat) → Int32 → (Option Nat) → Int32 → (Option Nat) → Int32 → Mem → Option ((Option Nat) × Mem)) (hk34 : ∀ (x34_0 : (Option Nat)) (x34_1 : Int32) (x34_2 : (Option Nat)) (x34_3 : Int32) (x34_4 : (Option Nat)) (x34_5 : Int32) (σ : Mem) (kc ks : Nat), P34 kc ks → Wo C G 6 (QP C G rvR 17 179) (k34 x34_0 x34_1 x34_2 x34_3 x34_4 x34_5 σ) σ kc ks 34 [(0, va_rf x34_0), (1, .int x34_1), (2, va_rf x34_2), (3, .int x34_3), (4, va_rf x34_4), (5, .int x34_5)] []) (x34_0 : (Option Nat)) (x34_1 : Int32) (x34_2 : (Option Nat)) (x34_3 : Int32) (x34_4 : (Option Nat)) (x34_5 : Int32) (σ : Mem) (kc ks : Nat) (hN : kc + 1 ≤ 17 ∧ ks + 22 ≤ 179) (hP20 : P20 (kc + 1) (ks + 22)) (hP34 : P34 (kc + 0) (ks + 0)) : Wo C G 6 (QP C G rvR 17 179) (b_X8_graded_34 G.2.2.2.1 G.2.2.2.2 k20 k34 x34_0 x34_1 x34_2 x34_3 x34_4 x34_5 σ) σ kc ks 34 [(0, va_rf x34_0), (1, .int x34_1), (2, va_rf x34_2), (3, .int x34_3), (4, va_rf x34_4), (5, .int x34_5)] [] := by
  unfold b_X8_graded_34
  refine r_iload hC 5 rfl dX8_graded_34 ?_
  refine r_iconst hC (4) rfl dX8_graded_36 ?_
  refine r_icmp_ge hC 66 dX8_graded_37 (by decide) ?_ ?_
  · refine r_aload hC 4 (r := x34_4) rfl dX8_graded_66 ?_
    refine r_aload hC 4 (r := x34_4) rfl dX8_graded_68 ?_
    refine call_V hC (av := []) (st := [va_rf x34_4]) (r := x34_4) (ci := 7) rfl rfl (fun h9 => ct_X5_dry hC.hl G h9 σ) q_1157 q_1158 q_1159 q_63 q_1160 yd_X5_dry rfl ⟨Nat.le_of_ble_eq_true rfl, Nat.le_of_ble_eq_true rfl⟩ ⟨by omega, by omega⟩ rfl (by simp [cat_rf, cat_i, cat_j, cat_d, cat_a]) dX8_graded_70 (fun v11 σ12 => ?_)
    show Wo _ _ _ _ _ _ _ _ _ _ [.int v11, va_rf x34_4]
    refine r_aloadn hC 0 (r := x34_0) rfl rfl dX8_graded_73 ?_
    refine r_gI hC (k := 2) (r := x34_0) cls_7 (by decide) rfl q_1100 (Or.inl rfl) dX8_graded_74 (fun v14 => ?_)
    refine r_iloadn hC 3 rfl rfl dX8_graded_77 ?_
    refine r_iloadn hC 1 rfl rfl dX8_graded_78 ?_
    refine call_S hC (av := [.int v14, .int x34_3, .int x34_1]) (st := [.int v11, va_rf x34_4]) (ct_X8_part hC.hl G v14 x34_3 x34_1 σ12) q_1236 q_1237 q_44 q_1238 yd_X8_part rfl ⟨Nat.le_of_ble_eq_true rfl, Nat.le_of_ble_eq_true rfl⟩ ⟨by omega, by omega⟩ rfl (by simp [cat_rf, cat_i, cat_j, cat_d, cat_a]) dX8_graded_79 (fun v15 σ16 => ?_)
    show Wo _ _ _ _ _ _ _ _ _ _ [.int v15, .int v11, va_rf x34_4]
    refine r_min hC q_1156 q_283 q_56 q_284 (Nat.le_of_ble_eq_true rfl) (by simp [cat_rf, cat_i, cat_j, cat_d, cat_a]) ⟨by omega, by omega⟩ dX8_graded_82 (fun v17 => ?_)
    refine r_pI hC (k := 2) (r := x34_4) cls_7 (by decide) rfl q_1100 (Or.inl rfl) (Or.inl rfl) dX8_graded_85 (fun σ18 => ?_)
    refine r_aload hC 4 (r := x34_4) rfl dX8_graded_88 ?_
    refine r_iloadn hC 3 rfl rfl dX8_graded_90 ?_
    refine r_pI hC (k := 9) (r := x34_4) cls_7 (by decide) rfl q_1114 (Or.inl rfl) (Or.inl rfl) dX8_graded_91 (fun σ19 => ?_)
    refine r_aload hC 4 (r := x34_4) rfl dX8_graded_94 ?_
    refine r_iconst hC (0) rfl dX8_graded_96 ?_
    refine r_pI hC (k := 3) (r := x34_4) cls_7 (by decide) rfl q_1102 (Or.inl rfl) (Or.inl rfl) dX8_graded_97 (fun σ20 => ?_)
    refine r_aload hC 4 (r := x34_4) rfl dX8_graded_100 ?_
    refine call_V hC (av := []) (st := []) (r := x34_4) (ci := 7) rfl rfl (fun h9 => ct_X5_dry hC.hl G h9 σ20) q_1157 q_1158 q_1159 q_63 q_1160 yd_X5_dry rfl ⟨Nat.le_of_ble_eq_true rfl, Nat.le_of_ble_eq_true rfl⟩ ⟨by omega, by omega⟩ rfl (Nat.le_of_ble_eq_true rfl) dX8_graded_102 (fun v21 σ22 => ?_)
    show Wo _ _ _ _ _ _ _ _ _ _ [.int v21]
    refine r_if_le hC 115 dX8_graded_105 (by decide) ?_ ?_
    · refine Wo.sub [0, 1, 2, 3] rfl ?_
      exact t_X8_graded_115 hC P20 hm20 k20 hk20 x34_0 x34_1 x34_2 x34_3 σ22 _ _ ⟨by omega, by omega⟩ (hm20 _ _ _ _ (by omega) (by omega) hP20)
    · refine r_aloadn hC 2 (r := x34_2) rfl rfl dX8_graded_108 ?_
      refine r_aload hC 4 (r := x34_4) rfl dX8_graded_109 ?_
      refine call_V hC (av := [va_rf x34_4]) (st := []) (r := x34_2) (ci := 1) rfl rfl (fun h9 => ct_Jx4a65c_add_9ea2d hC.hl G h9 x34_4 σ22) q_929 q_930 q_931 q_47 q_932 yd_Jx4a65c_add_9ea2d rfl ⟨Nat.le_of_ble_eq_true rfl, Nat.le_of_ble_eq_true rfl⟩ ⟨by omega, by omega⟩ rfl (Nat.le_of_ble_eq_true rfl) dX8_graded_111 (fun v25 σ26 => ?_)
      show Wo _ _ _ _ _ _ _ _ _ _ [.int v25]
      refine r_pop hC rfl dX8_graded_114 ?_
      refine Wo.sub [0, 1, 2, 3] rfl ?_
      exact t_X8_graded_115 hC P20 hm20 k20 hk20 x34_0 x34_1 x34_2 x34_3 σ26 _ _ ⟨by omega, by omega⟩ (hm20 _ _ _ _ (by omega) (by omega) hP20)
  · refine r_aload hC 4 (r := x34_4) rfl dX8_graded_40 ?_
    refine r_gR hC (k := 1) (r := x34_4) cls_7 (by decide) rfl q_1098 (Or.inl rfl) dX8_graded_42 (fun r28 => ?_)
    refine r_iload hC 5 rfl dX8_graded_45 ?_
    refine r_aloadn hC 0 (r := x34_0) rfl rfl dX8_graded_47 ?_
    refine r_gR hC (k := 1) (r := x34_0) cls_7 (by decide) rfl q_1098 (Or.inl rfl) dX8_graded_48 (fun r29 => ?_)
    refine r_iload hC 5 rfl dX8_graded_51 ?_
    refine r_aI hC (r := r29) dX8_graded_53 (fun v30 => ?_)
    refine r_iloadn hC 3 rfl rfl dX8_graded_54 ?_
    refine r_iloadn hC 1 rfl rfl dX8_graded_55 ?_
    refine call_S hC (av := [.int v30, .int x34_3, .int x34_1]) (st := [.int x34_5, va_rf r28]) (ct_X8_part hC.hl G v30 x34_3 x34_1 σ) q_1236 q_1237 q_44 q_1238 yd_X8_part rfl ⟨Nat.le_of_ble_eq_true rfl, Nat.le_of_ble_eq_true rfl⟩ ⟨by omega, by omega⟩ rfl (by simp [cat_rf, cat_i, cat_j, cat_d, cat_a]) dX8_graded_56 (fun v31 σ32 => ?_)
    show Wo _ _ _ _ _ _ _ _ _ _ [.int v31, .int x34_5, va_rf r28]
    refine r_wI hC (r := r28) dX8_graded_59 (fun σ33 => ?_)
    refine r_iinc hC 5 (fun w => [(5, .int w), (0, va_rf x34_0), (1, .int x34_1), (2, va_rf x34_2), (3, .int x34_3), (4, va_rf x34_4)]) 1 rfl (by decide) rfl (fun w => by simp [List.filter, cat_rf, cat_i, cat_j, cat_d, cat_a]) dX8_graded_60 (fun v34 => ?_)
    refine r_goto hC 34 dX8_graded_63 (by decide) ?_
    refine Wo.sub [1, 2, 3, 4, 5, 0] rfl ?_
    exact hk34 x34_0 x34_1 x34_2 x34_3 x34_4 v34 σ33 _ _ (hm34 _ _ _ _ (by omega) (by omega) hP34)

set_option maxRecDepth 100000 in
set_option maxHeartbeats 4000000 in
theorem u_X8_graded_34 {C : Cxt} {G : Glb} (hC : CX C G RX8 cX8_graded 6 (some (.object "java/util/ArrayList")) 7 17 179 149) (P20 : Nat → Nat → Prop) (hm20 : ∀ a b a2 b2 : Nat, a ≤ a2 → b ≤ b2 → P20 a2 b2 → P20 a b) (k20 : (Option Nat) → Int32 → (Option Nat) → Int32 → Mem → Option ((Option Nat) × Mem)) (hk20 : ∀ (x20_0 : (Option Nat)) (x20_1 : Int32) (x20_2 : (Option Nat)) (x20_3 : Int32) (σ : Mem) (kc ks : Nat), P20 kc ks → Wo C G 6 (QP C G rvR 17 179) (k20 x20_0 x20_1 x20_2 x20_3 σ) σ kc ks 20 [(0, va_rf x20_0), (1, .int x20_1), (2, va_rf x20_2), (3, .int x20_3)] []) : ∀ (n : Nat) (x34_0 : (Option Nat)) (x34_1 : Int32) (x34_2 : (Option Nat)) (x34_3 : Int32) (x34_4 : (Option Nat)) (x34_5 : Int32) (σ : Mem) (kc ks : Nat), (∀ m, n = m + 1 → (kc + m * 0 + 1 ≤ 17 ∧ ks + m * 0 + 22 ≤ 179) ∧ P20 (kc + m * 0 + 1) (ks + m * 0 + 22)) → Wo C G 6 (QP C G rvR 17 179) (l_X8_graded_34 G.2.2.2.1 G.2.2.2.2 k20 n x34_0 x34_1 x34_2 x34_3 x34_4 x34_5 σ) σ kc ks 34 [(0, va_rf x34_0), (1, .int x34_1), (2, va_rf x34_2), (3, .int x34_3), (4, va_rf x34_4), (5, .int x34_5)] [] := by
  intro n
  induction n with
  | zero => intro x34_0 x34_1 x34_2 x34_3 x34_4 x34_5 σ kc ks h0; exact Wo.none
  | succ n ih =>
    intro x34_0 x34_1 x34_2 x34_3 x34_4 x34_5 σ kc ks h0
    exact t_X8_graded_34 hC P20 hm20 k20 hk20 (fun kc ks => (∀ m, n = m + 1 → (kc + m * 0 + 1 ≤ 17 ∧ ks + m * 0 + 22 ≤ 179) ∧ P20 (kc + m * 0 + 1) (ks + m * 0 + 22))) (fun a b a2 b2 h1 h2 h m e => ⟨⟨by have := (h m e).1.1; omega, by have := (h m e).1.2; omega⟩, hm20 _ _ _ _ (by omega) (by omega) (h m e).2⟩) (l_X8_graded_34 G.2.2.2.1 G.2.2.2.2 k20 n) ih x34_0 x34_1 x34_2 x34_3 x34_4 x34_5 σ kc ks ⟨by have := (h0 n rfl).1.1; omega, by have := (h0 n rfl).1.2; omega⟩ (hm20 _ _ _ _ (by omega) (by omega) (h0 n rfl).2) (fun m e => by
      subst e
      exact ⟨⟨by have := (h0 _ rfl).1.1; omega, by have := (h0 _ rfl).1.2; omega⟩, hm20 _ _ _ _ (by omega) (by omega) (h0 _ rfl).2⟩)

set_option maxRecDepth 100000 in
set_option maxHeartbeats 4000000 in
theorem t_X8_graded_20 {C : Cxt} {G : Glb} (hC : CX C G RX8 cX8_graded 6 (some (.object "java/util/ArrayList")) 7 17 179 149) (P20 : Nat → Nat → Prop) (hm20 : ∀ a b a2 b2 : Nat, a ≤ a2 → b ≤ b2 → P20 a2 b2 → P20 a b) (k20 : (Option Nat) → Int32 → (Option Nat) → Int32 → Mem → Option ((Option Nat) × Mem)) (hk20 : ∀ (x20_0 : (Option Nat)) (x20_1 : Int32) (x20_2 : (Option Nat)) (x20_3 : Int32) (σ : Mem) (kc ks : Nat), P20 kc ks → Wo C G 6 (QP C G rvR 17 179) (k20 x20_0 x20_1 x20_2 x20_3 σ) σ kc ks 20 [(0, va_rf x20_0), (1, .int x20_1), (2, va_rf x20_2), (3, .int x20_3)] []) (x20_0 : (Option Nat)) (x20_1 : Int32) (x20_2 : (Option Nat)) (x20_3 : Int32) (σ : Mem) (kc ks : Nat) (hN : kc + 4 ≤ 17 ∧ ks + 44 ≤ 179) (hP20 : P20 (kc + 4) (ks + 44)) : Wo C G 6 (QP C G rvR 17 179) (b_X8_graded_20 G.2.2.2.1 G.2.2.2.2 k20 x20_0 x20_1 x20_2 x20_3 σ) σ kc ks 20 [(0, va_rf x20_0), (1, .int x20_1), (2, va_rf x20_2), (3, .int x20_3)] [] := by
  unfold b_X8_graded_20
  refine r_iloadn hC 3 rfl rfl dX8_graded_20 ?_
  refine r_iconst hC (3) rfl dX8_graded_21 ?_
  refine r_icmp_ge hC 121 dX8_graded_22 (by decide) ?_ ?_
  · refine r_aloadn hC 2 (r := x20_2) rfl rfl dX8_graded_121 ?_
    exact e_R hC (Or.inl ⟨_, rfl⟩) ⟨by omega, by omega⟩ dX8_graded_122
  · refine r_aloadn hC 0 (r := x20_0) rfl rfl dX8_graded_25 ?_
    refine call_V hC (av := []) (st := []) (r := x20_0) (ci := 7) rfl rfl (fun h9 => ct_X5_like hC.hl G h9 σ) q_1230 q_1231 q_1232 q_63 q_1233 yd_X5_like rfl ⟨Nat.le_of_ble_eq_true rfl, Nat.le_of_ble_eq_true rfl⟩ ⟨by omega, by omega⟩ rfl (Nat.le_of_ble_eq_true rfl) dX8_graded_26 (fun r8 σ9 => ?_)
    show Wo _ _ _ _ _ _ _ _ _ _ [va_rf r8]
    refine r_astore hC [(4, va_rf r8), (0, va_rf x20_0), (1, .int x20_1), (2, va_rf x20_2), (3, .int x20_3)] (r := r8) (i := 4) (by decide) rfl dX8_graded_29 ?_
    refine r_iconst hC (0) rfl dX8_graded_31 ?_
    refine r_istore hC [(5, .int 0), (4, va_rf r8), (0, va_rf x20_0), (1, .int x20_1), (2, va_rf x20_2), (3, .int x20_3)] (i := 5) (by decide) (by simp [List.filter, cat_rf, cat_i, cat_j, cat_d, cat_a]) dX8_graded_32 ?_
    refine Wo.sub [2, 3, 4, 5, 1, 0] rfl ?_
    exact u_X8_graded_34 hC P20 hm20 k20 hk20 5 x20_0 x20_1 x20_2 x20_3 r8 0 σ9 _ _ (fun m e => by cases e; exact ⟨⟨by omega, by omega⟩, hm20 _ _ _ _ (by omega) (by omega) hP20⟩)

set_option maxRecDepth 100000 in
set_option maxHeartbeats 4000000 in
theorem u_X8_graded_20 {C : Cxt} {G : Glb} (hC : CX C G RX8 cX8_graded 6 (some (.object "java/util/ArrayList")) 7 17 179 149) : ∀ (n : Nat) (x20_0 : (Option Nat)) (x20_1 : Int32) (x20_2 : (Option Nat)) (x20_3 : Int32) (σ : Mem) (kc ks : Nat), (∀ m, n = m + 1 → (kc + m * 4 + 4 ≤ 17 ∧ ks + m * 44 + 44 ≤ 179)) → Wo C G 6 (QP C G rvR 17 179) (l_X8_graded_20 G.2.2.2.1 G.2.2.2.2  n x20_0 x20_1 x20_2 x20_3 σ) σ kc ks 20 [(0, va_rf x20_0), (1, .int x20_1), (2, va_rf x20_2), (3, .int x20_3)] [] := by
  intro n
  induction n with
  | zero => intro x20_0 x20_1 x20_2 x20_3 σ kc ks h0; exact Wo.none
  | succ n ih =>
    intro x20_0 x20_1 x20_2 x20_3 σ kc ks h0
    exact t_X8_graded_20 hC (fun kc ks => (∀ m, n = m + 1 → (kc + m * 4 + 4 ≤ 17 ∧ ks + m * 44 + 44 ≤ 179))) (fun a b a2 b2 h1 h2 h m e => ⟨by have := (h m e).1; omega, by have := (h m e).2; omega⟩) (l_X8_graded_20 G.2.2.2.1 G.2.2.2.2  n) ih x20_0 x20_1 x20_2 x20_3 σ kc ks ⟨by have := (h0 n rfl).1; omega, by have := (h0 n rfl).2; omega⟩ (fun m e => by
      subst e
      exact ⟨by have := (h0 _ rfl).1; omega, by have := (h0 _ rfl).2; omega⟩)

set_option maxRecDepth 100000 in
set_option maxHeartbeats 4000000 in
theorem t_X8_graded_0 {C : Cxt} {G : Glb} (hC : CX C G RX8 cX8_graded 6 (some (.object "java/util/ArrayList")) 7 17 179 149) (p0 : (Option Nat)) (σ : Mem) (kc ks : Nat) (hN : kc + 17 ≤ 17 ∧ ks + 179 ≤ 179) : Wo C G 6 (QP C G rvR 17 179) (b_X8_graded_0 G.2.2.2.1 G.2.2.2.2  p0 σ) σ kc ks 0 [(0, va_rf p0)] [] := by
  unfold b_X8_graded_0
  refine r_bipush hC (10) (by decide) dX8_graded_0 ?_
  refine r_aloadn hC 0 (r := p0) rfl rfl dX8_graded_2 ?_
  refine r_gI hC (k := 5) (r := p0) cls_7 (by decide) rfl q_1106 (Or.inl rfl) dX8_graded_3 (fun v1 => ?_)
  refine r_min hC q_1156 q_283 q_56 q_284 (Nat.le_of_ble_eq_true rfl) (Nat.le_of_ble_eq_true rfl) ⟨by omega, by omega⟩ dX8_graded_6 (fun v2 => ?_)
  refine r_istoren hC [(1, .int v2), (0, va_rf p0)] (i := 1) rfl (by decide) (by simp [List.filter, cat_rf, cat_i, cat_j, cat_d, cat_a]) dX8_graded_9 ?_
  refine r_nO hC cls_1 q_791 q_792 q_47 ⟨by omega, by omega⟩ dX8_graded_10 (fun σ3 r4 => ?_)
  refine r_dup hC (cat_rf _) dX8_graded_13 ?_
  refine call_I hC (av := []) (st := [va_rf r4]) (r := r4) (ci := 1) (fun h9 => ct_Jx4a65c_init_da8c8 hC.hl G h9 σ3) q_793 q_794 q_47 q_795 rfl yd_Jx4a65c_init_da8c8 rfl ⟨Nat.le_of_ble_eq_true rfl, Nat.le_of_ble_eq_true rfl⟩ ⟨by omega, by omega⟩ rfl (by simp [cat_rf, cat_i, cat_j, cat_d, cat_a]) dX8_graded_14 (fun σ6 => ?_)
  refine r_astoren hC [(2, va_rf r4), (1, .int v2), (0, va_rf p0)] (r := r4) (i := 2) rfl (by decide) rfl dX8_graded_17 ?_
  refine r_iconst hC (0) rfl dX8_graded_18 ?_
  refine r_istoren hC [(3, .int 0), (2, va_rf r4), (1, .int v2), (0, va_rf p0)] (i := 3) rfl (by decide) (by simp [List.filter, cat_rf, cat_i, cat_j, cat_d, cat_a]) dX8_graded_19 ?_
  refine Wo.sub [3, 2, 1, 0] rfl ?_
  exact u_X8_graded_20 hC 4 p0 v2 r4 0 σ6 _ _ (fun m e => by cases e; exact ⟨by omega, by omega⟩)

set_option maxRecDepth 100000 in
set_option maxHeartbeats 4000000 in
theorem ct_X8_graded {l : Launch} (hl : l.stackTraces = false) (G : Glb) (p0 : (Option Nat)) (σ : Mem) : Ct rvR l yX8_graded (Cond.code yX8_graded cX8_graded 6 (some (.object "java/util/ArrayList")) :: uW) { frames := 7, cells := 17, slots := 179, locals := 149 } 17 179 G [va_rf p0] σ (f_X8_graded G.2.2.2.1 G.2.2.2.2 p0 σ) := by
  refine Ct.of hl (by decide +kernel) (by simp [lg_sl, cat_rf, cat_i, cat_j, cat_d, cat_a]) (fun C hC hin => ?_)
  have e : lv_args 0 [va_rf p0] = [(0, va_rf p0)] := by simp [lv_args, cat_rf, cat_i, cat_j, cat_d, cat_a]
  rw [e]
  exact t_X8_graded_0 hC p0 σ 0 0 ⟨Nat.le_of_ble_eq_true rfl, Nat.le_of_ble_eq_true rfl⟩

noncomputable def b_X8_sort_100 (e0 mi : Nat) (a0 : Nat) (x100_2 : (Option Nat)) (x100_3 : (Option Nat)) (y100_0 : Int32) (y100_1 : (Option Nat)) (σ : Mem) : Option ((Int32) × Mem) :=
ob 10 σ y100_1 fun h27 => cl1 (f_X8_refuse h27 y100_0 2 σ) fun v25 σ26 =>
if v25 = 0 then
ob 7 σ26 x100_2 fun h30 => cl1 (f_X5_go h30 σ26) fun u28 σ29 =>
gR 10 7 σ29 (some a0) fun r31 =>
ob 1 σ29 r31 fun h34 => cl1 (f_Jx4a65c_addAll_f0b43 e0 mi h34 x100_3 σ29) fun v32 σ33 =>
ob 1 σ33 x100_3 fun h37 => cl1 (f_Jx4a65c_size_8abf5 h37 σ33) fun v35 σ36 =>
some (v35, σ36)
else
some (0, σ26)

noncomputable def b_X8_sort_63 (e0 mi : Nat) (a0 : Nat) (x63_2 : (Option Nat)) (y63_0 : Int32) (y63_1 : (Option Nat)) (σ : Mem) : Option ((Int32) × Mem) :=
ob 10 σ y63_1 fun h14 => cl1 (f_X8_refuse h14 y63_0 2 σ) fun v12 σ13 =>
if v12 = 0 then
cl1 (f_X8_graded e0 mi x63_2 σ13) fun r15 σ16 =>
gR 10 7 σ16 (some a0) fun r17 =>
ob 1 σ16 r17 fun h20 => cl1 (f_Jx4a65c_size_8abf5 h20 σ16) fun v18 σ19 =>
ob 1 σ19 r15 fun h23 => cl1 (f_Jx4a65c_size_8abf5 h23 σ19) fun v21 σ22 =>
nm (v18 + v21) fun v24 =>
if v24 ≤ 16 then
b_X8_sort_100 e0 mi a0 x63_2 r15 0 (some a0) σ22
else
b_X8_sort_100 e0 mi a0 x63_2 r15 1 (some a0) σ22
else
some (0, σ13)

noncomputable def b_X8_sort_58 (e0 mi : Nat) (a0 : Nat) (x58_2 : (Option Nat)) (y58_0 : (Option Nat)) (σ : Mem) : Option ((Int32) × Mem) :=
b_X8_sort_63 e0 mi a0 x58_2 1 y58_0 σ

noncomputable def b_X8_sort_0 (e0 mi : Nat) (a0 : Nat) (p0 : Int32) (σ : Mem) : Option ((Int32) × Mem) :=
ob 10 σ (some a0) fun h3 => cl1 (f_X8_isNoLot h3 p0 σ) fun v1 σ2 =>
ob 10 σ2 (some a0) fun h6 => cl1 (f_X8_start h6 v1 1 σ2) fun v4 σ5 =>
if v4 = 0 then
gR 10 7 σ5 (some a0) fun r7 =>
ob 1 σ5 r7 fun h10 => cl1 (f_Jx4a65c_get_915e3 h10 p0 σ5) fun r8 σ9 =>
ck 8 σ9 r8 <|
gI 7 0 σ9 r8 fun v11 =>
if v11 = 2 then
gI 7 9 σ9 r8 fun v38 =>
if v38 = (-1) then
gR 7 12 σ9 r8 fun r39 =>
nul r39 (ob 7 σ9 r8 fun h42 => cl1 (f_X5_isOffered h42 σ9) fun v40 σ41 =>
if v40 = 0 then
b_X8_sort_63 e0 mi a0 r8 0 (some a0) σ41
else
b_X8_sort_58 e0 mi a0 r8 (some a0) σ41) (b_X8_sort_58 e0 mi a0 r8 (some a0) σ9)
else
b_X8_sort_58 e0 mi a0 r8 (some a0) σ9
else
b_X8_sort_58 e0 mi a0 r8 (some a0) σ9
else
some (0, σ5)

noncomputable def f_X8_sort (e0 mi : Nat) (a0 : Nat) (p0 : Int32) (σ : Mem) : Option ((Int32) × Mem) := b_X8_sort_0 e0 mi a0 p0 σ
set_option maxRecDepth 100000 in
set_option maxHeartbeats 4000000 in
theorem t_X8_sort_100 {C : Cxt} {G : Glb} (hC : CX C G RX8 cX8_sort 4 (some .int) 8 19 223 174) (a0 : Nat) (x100_2 : (Option Nat)) (x100_3 : (Option Nat)) (y100_0 : Int32) (y100_1 : (Option Nat)) (σ : Mem) (kc ks : Nat) (hN : kc + 2 ≤ 19 ∧ ks + 44 ≤ 223) : Wo C G 4 (QP C G rvI 19 223) (b_X8_sort_100 G.2.2.2.1 G.2.2.2.2  a0 x100_2 x100_3 y100_0 y100_1 σ) σ kc ks 100 [(0, va_rf (some a0)), (2, va_rf x100_2), (3, va_rf x100_3)] [.int y100_0, va_rf y100_1] := by
  unfold b_X8_sort_100
  refine r_iconst hC (2) rfl dX8_sort_100 ?_
  refine call_V hC (av := [.int y100_0, .int 2]) (st := []) (r := y100_1) (ci := 10) rfl rfl (fun h9 => ct_X8_refuse hC.hl G h9 y100_0 2 σ) q_886 q_888 q_13 q_44 q_889 yd_X8_refuse rfl ⟨Nat.le_of_ble_eq_true rfl, Nat.le_of_ble_eq_true rfl⟩ ⟨by omega, by omega⟩ rfl (Nat.le_of_ble_eq_true rfl) dX8_sort_101 (fun v25 σ26 => ?_)
  show Wo _ _ _ _ _ _ _ _ _ _ [.int v25]
  refine r_if_eq hC 109 dX8_sort_104 (by decide) ?_ ?_
  · refine r_aloadn hC 1 (r := x100_2) rfl rfl dX8_sort_109 ?_
    refine call_V hC (av := []) (st := []) (r := x100_2) (ci := 7) rfl rfl (fun h9 => ct_X5_go hC.hl G h9 σ26) q_1169 q_1170 q_1171 q_63 q_1172 yd_X5_go rfl ⟨Nat.le_of_ble_eq_true rfl, Nat.le_of_ble_eq_true rfl⟩ ⟨by omega, by omega⟩ rfl (Nat.le_of_ble_eq_true rfl) dX8_sort_110 (fun u28 σ29 => ?_)
    show Wo _ _ _ _ _ _ _ _ _ _ []
    refine r_aloadn hC 0 (r := (some a0)) rfl rfl dX8_sort_113 ?_
    refine r_gR hC (k := 7) (r := (some a0)) cls_10 (by decide) rfl q_847 (Or.inl rfl) dX8_sort_114 (fun r31 => ?_)
    refine r_aloadn hC 2 (r := x100_3) rfl rfl dX8_sort_117 ?_
    refine call_V hC (av := [va_rf x100_3]) (st := []) (r := r31) (ci := 1) rfl rfl (fun h9 => ct_Jx4a65c_addAll_f0b43 hC.hl G h9 x100_3 σ29) q_1239 q_1240 q_1241 q_47 q_1242 yd_Jx4a65c_addAll_f0b43 rfl ⟨Nat.le_of_ble_eq_true rfl, Nat.le_of_ble_eq_true rfl⟩ ⟨by omega, by omega⟩ rfl (Nat.le_of_ble_eq_true rfl) dX8_sort_118 (fun v32 σ33 => ?_)
    show Wo _ _ _ _ _ _ _ _ _ _ [.int v32]
    refine r_pop hC rfl dX8_sort_121 ?_
    refine r_aloadn hC 2 (r := x100_3) rfl rfl dX8_sort_122 ?_
    refine call_V hC (av := []) (st := []) (r := x100_3) (ci := 1) rfl rfl (fun h9 => ct_Jx4a65c_size_8abf5 hC.hl G h9 σ33) q_890 q_891 q_892 q_47 q_893 yd_Jx4a65c_size_8abf5 rfl ⟨Nat.le_of_ble_eq_true rfl, Nat.le_of_ble_eq_true rfl⟩ ⟨by omega, by omega⟩ rfl (Nat.le_of_ble_eq_true rfl) dX8_sort_123 (fun v35 σ36 => ?_)
    show Wo _ _ _ _ _ _ _ _ _ _ [.int v35]
    exact e_I hC ⟨by omega, by omega⟩ dX8_sort_126
  · refine r_iconst hC (0) rfl dX8_sort_107 ?_
    exact e_I hC ⟨by omega, by omega⟩ dX8_sort_108

set_option maxRecDepth 100000 in
set_option maxHeartbeats 4000000 in
theorem t_X8_sort_63 {C : Cxt} {G : Glb} (hC : CX C G RX8 cX8_sort 4 (some .int) 8 19 223 174) (a0 : Nat) (x63_2 : (Option Nat)) (y63_0 : Int32) (y63_1 : (Option Nat)) (σ : Mem) (kc ks : Nat) (hN : kc + 19 ≤ 19 ∧ ks + 223 ≤ 223) : Wo C G 4 (QP C G rvI 19 223) (b_X8_sort_63 G.2.2.2.1 G.2.2.2.2  a0 x63_2 y63_0 y63_1 σ) σ kc ks 63 [(0, va_rf (some a0)), (2, va_rf x63_2)] [.int y63_0, va_rf y63_1] := by
  unfold b_X8_sort_63
  refine r_iconst hC (2) rfl dX8_sort_63 ?_
  refine call_V hC (av := [.int y63_0, .int 2]) (st := []) (r := y63_1) (ci := 10) rfl rfl (fun h9 => ct_X8_refuse hC.hl G h9 y63_0 2 σ) q_886 q_888 q_13 q_44 q_889 yd_X8_refuse rfl ⟨Nat.le_of_ble_eq_true rfl, Nat.le_of_ble_eq_true rfl⟩ ⟨by omega, by omega⟩ rfl (Nat.le_of_ble_eq_true rfl) dX8_sort_64 (fun v12 σ13 => ?_)
  show Wo _ _ _ _ _ _ _ _ _ _ [.int v12]
  refine r_if_eq hC 72 dX8_sort_67 (by decide) ?_ ?_
  · refine r_aloadn hC 1 (r := x63_2) rfl rfl dX8_sort_72 ?_
    refine call_S hC (av := [va_rf x63_2]) (st := []) (ct_X8_graded hC.hl G x63_2 σ13) q_1227 q_1228 q_44 q_1229 yd_X8_graded rfl ⟨Nat.le_of_ble_eq_true rfl, Nat.le_of_ble_eq_true rfl⟩ ⟨by omega, by omega⟩ rfl (Nat.le_of_ble_eq_true rfl) dX8_sort_73 (fun r15 σ16 => ?_)
    show Wo _ _ _ _ _ _ _ _ _ _ [va_rf r15]
    refine r_astoren hC [(3, va_rf r15), (0, va_rf (some a0)), (2, va_rf x63_2)] (r := r15) (i := 3) rfl (by decide) (by simp [List.filter, cat_rf, cat_i, cat_j, cat_d, cat_a]) dX8_sort_76 ?_
    refine r_aloadn hC 1 (r := (some a0)) rfl rfl dX8_sort_77 ?_
    refine r_aloadn hC 1 (r := (some a0)) rfl rfl dX8_sort_78 ?_
    refine r_gR hC (k := 7) (r := (some a0)) cls_10 (by decide) rfl q_847 (Or.inl rfl) dX8_sort_79 (fun r17 => ?_)
    refine call_V hC (av := []) (st := [va_rf (some a0)]) (r := r17) (ci := 1) rfl rfl (fun h9 => ct_Jx4a65c_size_8abf5 hC.hl G h9 σ16) q_890 q_891 q_892 q_47 q_893 yd_Jx4a65c_size_8abf5 rfl ⟨Nat.le_of_ble_eq_true rfl, Nat.le_of_ble_eq_true rfl⟩ ⟨by omega, by omega⟩ rfl (by simp [cat_rf, cat_i, cat_j, cat_d, cat_a]) dX8_sort_82 (fun v18 σ19 => ?_)
    show Wo _ _ _ _ _ _ _ _ _ _ [.int v18, va_rf (some a0)]
    refine r_aloadn hC 0 (r := r15) rfl rfl dX8_sort_85 ?_
    refine call_V hC (av := []) (st := [.int v18, va_rf (some a0)]) (r := r15) (ci := 1) rfl rfl (fun h9 => ct_Jx4a65c_size_8abf5 hC.hl G h9 σ19) q_890 q_891 q_892 q_47 q_893 yd_Jx4a65c_size_8abf5 rfl ⟨Nat.le_of_ble_eq_true rfl, Nat.le_of_ble_eq_true rfl⟩ ⟨by omega, by omega⟩ rfl (by simp [cat_rf, cat_i, cat_j, cat_d, cat_a]) dX8_sort_86 (fun v21 σ22 => ?_)
    show Wo _ _ _ _ _ _ _ _ _ _ [.int v21, .int v18, va_rf (some a0)]
    refine r_iadd hC dX8_sort_89 (fun v24 => ?_)
    refine r_bipush hC (16) (by decide) dX8_sort_90 ?_
    refine r_icmp_le hC 99 dX8_sort_92 (by decide) ?_ ?_
    · refine r_iconst hC (0) rfl dX8_sort_99 ?_
      refine Wo.sub [1, 2, 0] rfl ?_
      exact t_X8_sort_100 hC a0 x63_2 r15 0 (some a0) σ22 _ _ ⟨by omega, by omega⟩
    · refine r_iconst hC (1) rfl dX8_sort_95 ?_
      refine r_goto hC 100 dX8_sort_96 (by decide) ?_
      refine Wo.sub [1, 2, 0] rfl ?_
      exact t_X8_sort_100 hC a0 x63_2 r15 1 (some a0) σ22 _ _ ⟨by omega, by omega⟩
  · refine r_iconst hC (0) rfl dX8_sort_70 ?_
    exact e_I hC ⟨by omega, by omega⟩ dX8_sort_71

set_option maxRecDepth 100000 in
set_option maxHeartbeats 4000000 in
theorem t_X8_sort_58 {C : Cxt} {G : Glb} (hC : CX C G RX8 cX8_sort 4 (some .int) 8 19 223 174) (a0 : Nat) (x58_2 : (Option Nat)) (y58_0 : (Option Nat)) (σ : Mem) (kc ks : Nat) (hN : kc + 19 ≤ 19 ∧ ks + 223 ≤ 223) : Wo C G 4 (QP C G rvI 19 223) (b_X8_sort_58 G.2.2.2.1 G.2.2.2.2  a0 x58_2 y58_0 σ) σ kc ks 58 [(0, va_rf (some a0)), (2, va_rf x58_2)] [va_rf y58_0] := by
  unfold b_X8_sort_58
  refine r_iconst hC (1) rfl dX8_sort_58 ?_
  refine r_goto hC 63 dX8_sort_59 (by decide) ?_
  exact t_X8_sort_63 hC a0 x58_2 1 y58_0 σ _ _ ⟨by omega, by omega⟩

set_option maxRecDepth 100000 in
set_option maxHeartbeats 4000000 in
theorem t_X8_sort_0 {C : Cxt} {G : Glb} (hC : CX C G RX8 cX8_sort 4 (some .int) 8 19 223 174) (a0 : Nat) (p0 : Int32) (σ : Mem) (kc ks : Nat) (hN : kc + 19 ≤ 19 ∧ ks + 223 ≤ 223) : Wo C G 4 (QP C G rvI 19 223) (b_X8_sort_0 G.2.2.2.1 G.2.2.2.2  a0 p0 σ) σ kc ks 0 [(0, va_rf (some a0)), (1, .int p0)] [] := by
  unfold b_X8_sort_0
  refine r_aloadn hC 0 (r := (some a0)) rfl rfl dX8_sort_0 ?_
  refine r_aloadn hC 0 (r := (some a0)) rfl rfl dX8_sort_1 ?_
  refine r_iloadn hC 1 rfl rfl dX8_sort_2 ?_
  refine call_V hC (av := [.int p0]) (st := [va_rf (some a0)]) (r := (some a0)) (ci := 10) rfl rfl (fun h9 => ct_X8_isNoLot hC.hl G h9 p0 σ) q_1165 q_1167 q_19 q_44 q_1168 yd_X8_isNoLot rfl ⟨Nat.le_of_ble_eq_true rfl, Nat.le_of_ble_eq_true rfl⟩ ⟨by omega, by omega⟩ rfl (by simp [cat_rf, cat_i, cat_j, cat_d, cat_a]) dX8_sort_3 (fun v1 σ2 => ?_)
  show Wo _ _ _ _ _ _ _ _ _ _ [.int v1, va_rf (some a0)]
  refine r_iconst hC (1) rfl dX8_sort_6 ?_
  refine call_V hC (av := [.int v1, .int 1]) (st := []) (r := (some a0)) (ci := 10) rfl rfl (fun h9 => ct_X8_start hC.hl G h9 v1 1 σ2) q_882 q_884 q_12 q_44 q_885 yd_X8_start rfl ⟨Nat.le_of_ble_eq_true rfl, Nat.le_of_ble_eq_true rfl⟩ ⟨by omega, by omega⟩ rfl (Nat.le_of_ble_eq_true rfl) dX8_sort_7 (fun v4 σ5 => ?_)
  show Wo _ _ _ _ _ _ _ _ _ _ [.int v4]
  refine r_if_eq hC 15 dX8_sort_10 (by decide) ?_ ?_
  · refine r_aloadn hC 0 (r := (some a0)) rfl rfl dX8_sort_15 ?_
    refine r_gR hC (k := 7) (r := (some a0)) cls_10 (by decide) rfl q_847 (Or.inl rfl) dX8_sort_16 (fun r7 => ?_)
    refine r_iloadn hC 1 rfl rfl dX8_sort_19 ?_
    refine call_V hC (av := [.int p0]) (st := []) (r := r7) (ci := 1) rfl rfl (fun h9 => ct_Jx4a65c_get_915e3 hC.hl G h9 p0 σ5) q_1057 q_1058 q_1059 q_47 q_1060 yd_Jx4a65c_get_915e3 rfl ⟨Nat.le_of_ble_eq_true rfl, Nat.le_of_ble_eq_true rfl⟩ ⟨by omega, by omega⟩ rfl (Nat.le_of_ble_eq_true rfl) dX8_sort_20 (fun r8 σ9 => ?_)
    show Wo _ _ _ _ _ _ _ _ _ _ [va_rf r8]
    refine r_ckO hC (r := r8) cls_7 q_1087 dX8_sort_23 ?_
    refine r_astoren hC [(2, va_rf r8), (0, va_rf (some a0)), (1, .int p0)] (r := r8) (i := 2) rfl (by decide) rfl dX8_sort_26 ?_
    refine r_aloadn hC 1 (r := (some a0)) rfl rfl dX8_sort_27 ?_
    refine r_aloadn hC 0 (r := r8) rfl rfl dX8_sort_28 ?_
    refine r_gI hC (k := 0) (r := r8) cls_7 (by decide) rfl q_1096 (Or.inl rfl) dX8_sort_29 (fun v11 => ?_)
    refine r_iconst hC (2) rfl dX8_sort_32 ?_
    refine r_icmp_ne hC 58 dX8_sort_33 (by decide) ?_ ?_
    · refine Wo.sub [1, 0] rfl ?_
      exact t_X8_sort_58 hC a0 r8 (some a0) σ9 _ _ ⟨by omega, by omega⟩
    · refine r_aloadn hC 0 (r := r8) rfl rfl dX8_sort_36 ?_
      refine r_gI hC (k := 9) (r := r8) cls_7 (by decide) rfl q_1114 (Or.inl rfl) dX8_sort_37 (fun v38 => ?_)
      refine r_iconst hC (-1) rfl dX8_sort_40 ?_
      refine r_icmp_ne hC 58 dX8_sort_41 (by decide) ?_ ?_
      · refine Wo.sub [1, 0] rfl ?_
        exact t_X8_sort_58 hC a0 r8 (some a0) σ9 _ _ ⟨by omega, by omega⟩
      · refine r_aloadn hC 0 (r := r8) rfl rfl dX8_sort_44 ?_
        refine r_gR hC (k := 12) (r := r8) cls_7 (by decide) rfl q_1120 (Or.inl rfl) dX8_sort_45 (fun r39 => ?_)
        refine r_ifnonnull hC 58 dX8_sort_48 (by decide) ?_ ?_
        · refine Wo.sub [1, 0] rfl ?_
          exact t_X8_sort_58 hC a0 r8 (some a0) σ9 _ _ ⟨by omega, by omega⟩
        · refine r_aloadn hC 0 (r := r8) rfl rfl dX8_sort_51 ?_
          refine call_V hC (av := []) (st := [va_rf (some a0)]) (r := r8) (ci := 7) rfl rfl (fun h9 => ct_X5_isOffered hC.hl G h9 σ9) q_1223 q_1224 q_1225 q_63 q_1226 yd_X5_isOffered rfl ⟨Nat.le_of_ble_eq_true rfl, Nat.le_of_ble_eq_true rfl⟩ ⟨by omega, by omega⟩ rfl (by simp [cat_rf, cat_i, cat_j, cat_d, cat_a]) dX8_sort_52 (fun v40 σ41 => ?_)
          show Wo _ _ _ _ _ _ _ _ _ _ [.int v40, va_rf (some a0)]
          refine r_if_eq hC 62 dX8_sort_55 (by decide) ?_ ?_
          · refine r_iconst hC (0) rfl dX8_sort_62 ?_
            refine Wo.sub [1, 0] rfl ?_
            exact t_X8_sort_63 hC a0 r8 0 (some a0) σ41 _ _ ⟨by omega, by omega⟩
          · refine Wo.sub [1, 0] rfl ?_
            exact t_X8_sort_58 hC a0 r8 (some a0) σ41 _ _ ⟨by omega, by omega⟩
  · refine r_iconst hC (0) rfl dX8_sort_13 ?_
    exact e_I hC ⟨by omega, by omega⟩ dX8_sort_14

set_option maxRecDepth 100000 in
set_option maxHeartbeats 4000000 in
theorem ct_X8_sort {l : Launch} (hl : l.stackTraces = false) (G : Glb) (a0 : Nat) (p0 : Int32) (σ : Mem) : Ct rvI l yX8_sort (Cond.code yX8_sort cX8_sort 4 (some .int) :: uW) { frames := 8, cells := 19, slots := 223, locals := 174 } 19 223 G [.ref a0, .int p0] σ (f_X8_sort G.2.2.2.1 G.2.2.2.2 a0 p0 σ) := by
  refine Ct.of hl (by decide +kernel) (Nat.le_of_ble_eq_true rfl) (fun C hC hin => ?_)
  have e : lv_args 0 [.ref a0, .int p0] = [(0, .ref a0), (1, .int p0)] := rfl
  rw [e]
  exact t_X8_sort_0 hC a0 p0 σ 0 0 ⟨Nat.le_of_ble_eq_true rfl, Nat.le_of_ble_eq_true rfl⟩

noncomputable def b_X8_canMix_31 (y31_0 : Int32) (σ : Mem) : Option ((Int32) × Mem) :=
bo y31_0 (some (y31_0, σ))

noncomputable def b_X8_canMix_30 (σ : Mem) : Option ((Int32) × Mem) :=
b_X8_canMix_31 0 σ

noncomputable def b_X8_canMix_0 (a0 : Nat) (p0 : Int32) (σ : Mem) : Option ((Int32) × Mem) :=
ob 10 σ (some a0) fun h3 => cl1 (f_X8_isState h3 p0 2 σ) fun v1 σ2 =>
if v1 = 0 then
b_X8_canMix_30 σ2
else
gR 10 7 σ2 (some a0) fun r4 =>
ob 1 σ2 r4 fun h7 => cl1 (f_Jx4a65c_get_915e3 h7 p0 σ2) fun r5 σ6 =>
ck 8 σ6 r5 <|
ob 7 σ6 r5 fun h10 => cl1 (f_X5_isOffered h10 σ6) fun v8 σ9 =>
if v8 = 0 then
b_X8_canMix_31 1 σ9
else
b_X8_canMix_30 σ9

noncomputable def f_X8_canMix (a0 : Nat) (p0 : Int32) (σ : Mem) : Option ((Int32) × Mem) := b_X8_canMix_0 a0 p0 σ
set_option maxRecDepth 100000 in
set_option maxHeartbeats 4000000 in
theorem t_X8_canMix_31 {C : Cxt} {G : Glb} (hC : CX C G RX8 cX8_canMix 2 (some .boolean) 4 0 0 86) (y31_0 : Int32) (σ : Mem) : Wo C G 2 (QP C G rvI 0 0) (b_X8_canMix_31  y31_0 σ) σ 0 0 31 [] [.int y31_0] := by
  unfold b_X8_canMix_31
  exact e_B hC ⟨Nat.zero_le _, Nat.zero_le _⟩ dX8_canMix_31

set_option maxRecDepth 100000 in
set_option maxHeartbeats 4000000 in
theorem t_X8_canMix_30 {C : Cxt} {G : Glb} (hC : CX C G RX8 cX8_canMix 2 (some .boolean) 4 0 0 86) (σ : Mem) : Wo C G 2 (QP C G rvI 0 0) (b_X8_canMix_30   σ) σ 0 0 30 [] [] := by
  unfold b_X8_canMix_30
  refine r_iconst hC (0) rfl dX8_canMix_30 ?_
  exact t_X8_canMix_31 hC 0 σ

set_option maxRecDepth 100000 in
set_option maxHeartbeats 4000000 in
theorem t_X8_canMix_0 {C : Cxt} {G : Glb} (hC : CX C G RX8 cX8_canMix 2 (some .boolean) 4 0 0 86) (a0 : Nat) (p0 : Int32) (σ : Mem) : Wo C G 2 (QP C G rvI 0 0) (b_X8_canMix_0  a0 p0 σ) σ 0 0 0 [(0, va_rf (some a0)), (1, .int p0)] [] := by
  unfold b_X8_canMix_0
  refine r_aloadn hC 0 (r := (some a0)) rfl rfl dX8_canMix_0 ?_
  refine r_iloadn hC 1 rfl rfl dX8_canMix_1 ?_
  refine r_iconst hC (2) rfl dX8_canMix_2 ?_
  refine call_V hC (av := [.int p0, .int 2]) (st := []) (r := (some a0)) (ci := 10) rfl rfl (fun h9 => ct_X8_isState hC.hl G h9 p0 2 σ) q_1181 q_1183 q_20 q_44 q_1184 yd_X8_isState rfl ⟨Nat.le_of_ble_eq_true rfl, Nat.le_of_ble_eq_true rfl⟩ ⟨Nat.zero_le _, Nat.zero_le _⟩ rfl (Nat.le_of_ble_eq_true rfl) dX8_canMix_3 (fun v1 σ2 => ?_)
  show Wo _ _ _ _ _ _ _ _ _ _ [.int v1]
  refine r_if_eq hC 30 dX8_canMix_6 (by decide) ?_ ?_
  · refine Wo.sub [] rfl ?_
    exact t_X8_canMix_30 hC  σ2
  · refine r_aloadn hC 0 (r := (some a0)) rfl rfl dX8_canMix_9 ?_
    refine r_gR hC (k := 7) (r := (some a0)) cls_10 (by decide) rfl q_847 (Or.inl rfl) dX8_canMix_10 (fun r4 => ?_)
    refine r_iloadn hC 1 rfl rfl dX8_canMix_13 ?_
    refine call_V hC (av := [.int p0]) (st := []) (r := r4) (ci := 1) rfl rfl (fun h9 => ct_Jx4a65c_get_915e3 hC.hl G h9 p0 σ2) q_1057 q_1058 q_1059 q_47 q_1060 yd_Jx4a65c_get_915e3 rfl ⟨Nat.le_of_ble_eq_true rfl, Nat.le_of_ble_eq_true rfl⟩ ⟨Nat.zero_le _, Nat.zero_le _⟩ rfl (Nat.le_of_ble_eq_true rfl) dX8_canMix_14 (fun r5 σ6 => ?_)
    show Wo _ _ _ _ _ _ _ _ _ _ [va_rf r5]
    refine r_ckO hC (r := r5) cls_7 q_1087 dX8_canMix_17 ?_
    refine call_V hC (av := []) (st := []) (r := r5) (ci := 7) rfl rfl (fun h9 => ct_X5_isOffered hC.hl G h9 σ6) q_1223 q_1224 q_1225 q_63 q_1226 yd_X5_isOffered rfl ⟨Nat.le_of_ble_eq_true rfl, Nat.le_of_ble_eq_true rfl⟩ ⟨Nat.zero_le _, Nat.zero_le _⟩ rfl (Nat.le_of_ble_eq_true rfl) dX8_canMix_20 (fun v8 σ9 => ?_)
    show Wo _ _ _ _ _ _ _ _ _ _ [.int v8]
    refine r_if_ne hC 30 dX8_canMix_23 (by decide) ?_ ?_
    · refine Wo.sub [] rfl ?_
      exact t_X8_canMix_30 hC  σ9
    · refine r_iconst hC (1) rfl dX8_canMix_26 ?_
      refine r_goto hC 31 dX8_canMix_27 (by decide) ?_
      refine Wo.sub [] rfl ?_
      exact t_X8_canMix_31 hC 1 σ9

set_option maxRecDepth 100000 in
set_option maxHeartbeats 4000000 in
theorem ct_X8_canMix {l : Launch} (hl : l.stackTraces = false) (G : Glb) (a0 : Nat) (p0 : Int32) (σ : Mem) : Ct rvI l yX8_canMix (Cond.code yX8_canMix cX8_canMix 2 (some .boolean) :: uW) { frames := 4, cells := 0, slots := 0, locals := 86 } 0 0 G [.ref a0, .int p0] σ (f_X8_canMix a0 p0 σ) := by
  refine Ct.of hl (by decide +kernel) (Nat.le_of_ble_eq_true rfl) (fun C hC hin => ?_)
  have e : lv_args 0 [.ref a0, .int p0] = [(0, .ref a0), (1, .int p0)] := rfl
  rw [e]
  exact t_X8_canMix_0 hC a0 p0 σ

noncomputable def b_X8_take_85 (σ : Mem) : Option ((Unit) × Mem) :=
some ((), σ)

noncomputable def b_X8_take_5 (k5 : (Option Nat) → (Option Nat) → Int32 → Int32 → Mem → Option ((Unit) × Mem)) (x5_0 : (Option Nat)) (x5_2 : (Option Nat)) (x5_3 : Int32) (x5_4 : Int32) (σ : Mem) : Option ((Unit) × Mem) :=
if 4 ≤ x5_4 then
gI 7 2 σ x5_0 fun v1 =>
ob 7 σ x5_0 fun h4 => cl1 (f_X5_dry h4 σ) fun v2 σ3 =>
nm (if v2 < v1 then v2 else v1) fun v5 =>
pI 7 2 σ3 x5_0 v5 fun σ6 =>
ob 7 σ6 x5_0 fun h9 => cl1 (f_X5_dry h9 σ6) fun v7 σ8 =>
if v7 = 0 then
ob 7 σ8 x5_0 fun h12 => cl1 (f_X5_go h12 σ8) fun u10 σ11 =>
b_X8_take_85 σ11
else
b_X8_take_85 σ8
else
gR 7 1 σ x5_0 fun r13 =>
aI σ r13 x5_4 fun v14 =>
nm (if v14 < x5_3 then v14 else x5_3) fun v15 =>
gR 7 1 σ x5_0 fun r16 =>
aI σ r16 x5_4 fun v17 =>
nm (v17 - v15) fun v18 =>
wI σ r16 x5_4 v18 fun σ19 =>
gR 7 1 σ19 x5_2 fun r20 =>
aI σ19 r20 x5_4 fun v21 =>
nm (v21 + v15) fun v22 =>
wI σ19 r20 x5_4 v22 fun σ23 =>
nm (x5_3 - v15) fun v24 =>
nm (x5_4 + 1) fun v25 =>
k5 x5_0 x5_2 v24 v25 σ23

noncomputable def l_X8_take_5 (n : Nat) : (Option Nat) → (Option Nat) → Int32 → Int32 → Mem → Option ((Unit) × Mem) := itr (fun _ _ _ _ _ => none) (fun k => b_X8_take_5  k) n

noncomputable def b_X8_take_0 (p0 : (Option Nat)) (p1 : Int32) (p2 : (Option Nat)) (σ : Mem) : Option ((Unit) × Mem) :=
l_X8_take_5 40 p0 p2 p1 0 σ

noncomputable def f_X8_take (p0 : (Option Nat)) (p1 : Int32) (p2 : (Option Nat)) (σ : Mem) : Option ((Unit) × Mem) := b_X8_take_0 p0 p1 p2 σ
set_option maxRecDepth 100000 in
set_option maxHeartbeats 4000000 in
theorem t_X8_take_85 {C : Cxt} {G : Glb} (hC : CX C G RX8 cX8_take 6 none 2 0 0 44) (σ : Mem) : Wo C G 6 (QP C G rvU 0 0) (b_X8_take_85   σ) σ 0 0 85 [] [] := by
  unfold b_X8_take_85
  exact e_U hC ⟨Nat.zero_le _, Nat.zero_le _⟩ dX8_take_85

set_option maxRecDepth 100000 in
set_option maxHeartbeats 4000000 in
theorem t_X8_take_5 {C : Cxt} {G : Glb} (hC : CX C G RX8 cX8_take 6 none 2 0 0 44) (k5 : (Option Nat) → (Option Nat) → Int32 → Int32 → Mem → Option ((Unit) × Mem)) (hk5 : ∀ (x5_0 : (Option Nat)) (x5_2 : (Option Nat)) (x5_3 : Int32) (x5_4 : Int32) (σ : Mem), Wo C G 6 (QP C G rvU 0 0) (k5 x5_0 x5_2 x5_3 x5_4 σ) σ 0 0 5 [(0, va_rf x5_0), (2, va_rf x5_2), (3, .int x5_3), (4, .int x5_4)] []) (x5_0 : (Option Nat)) (x5_2 : (Option Nat)) (x5_3 : Int32) (x5_4 : Int32) (σ : Mem) : Wo C G 6 (QP C G rvU 0 0) (b_X8_take_5 k5 x5_0 x5_2 x5_3 x5_4 σ) σ 0 0 5 [(0, va_rf x5_0), (2, va_rf x5_2), (3, .int x5_3), (4, .int x5_4)] [] := by
  unfold b_X8_take_5
  refine r_iload hC 3 rfl dX8_take_5 ?_
  refine r_iconst hC (4) rfl dX8_take_7 ?_
  refine r_icmp_ge hC 59 dX8_take_8 (by decide) ?_ ?_
  · refine r_aloadn hC 0 (r := x5_0) rfl rfl dX8_take_59 ?_
    refine r_aloadn hC 0 (r := x5_0) rfl rfl dX8_take_60 ?_
    refine r_gI hC (k := 2) (r := x5_0) cls_7 (by decide) rfl q_1100 (Or.inl rfl) dX8_take_61 (fun v1 => ?_)
    refine r_aloadn hC 0 (r := x5_0) rfl rfl dX8_take_64 ?_
    refine call_V hC (av := []) (st := [.int v1, va_rf x5_0]) (r := x5_0) (ci := 7) rfl rfl (fun h9 => ct_X5_dry hC.hl G h9 σ) q_1157 q_1158 q_1159 q_63 q_1160 yd_X5_dry rfl ⟨Nat.le_of_ble_eq_true rfl, Nat.le_of_ble_eq_true rfl⟩ ⟨Nat.zero_le _, Nat.zero_le _⟩ rfl (by simp [cat_rf, cat_i, cat_j, cat_d, cat_a]) dX8_take_65 (fun v2 σ3 => ?_)
    show Wo _ _ _ _ _ _ _ _ _ _ [.int v2, .int v1, va_rf x5_0]
    refine r_min hC q_1156 q_283 q_56 q_284 (Nat.le_of_ble_eq_true rfl) (by simp [cat_rf, cat_i, cat_j, cat_d, cat_a]) ⟨Nat.zero_le _, Nat.zero_le _⟩ dX8_take_68 (fun v5 => ?_)
    refine r_pI hC (k := 2) (r := x5_0) cls_7 (by decide) rfl q_1100 (Or.inl rfl) (Or.inl rfl) dX8_take_71 (fun σ6 => ?_)
    refine r_aloadn hC 0 (r := x5_0) rfl rfl dX8_take_74 ?_
    refine call_V hC (av := []) (st := []) (r := x5_0) (ci := 7) rfl rfl (fun h9 => ct_X5_dry hC.hl G h9 σ6) q_1157 q_1158 q_1159 q_63 q_1160 yd_X5_dry rfl ⟨Nat.le_of_ble_eq_true rfl, Nat.le_of_ble_eq_true rfl⟩ ⟨Nat.zero_le _, Nat.zero_le _⟩ rfl (Nat.le_of_ble_eq_true rfl) dX8_take_75 (fun v7 σ8 => ?_)
    show Wo _ _ _ _ _ _ _ _ _ _ [.int v7]
    refine r_if_ne hC 85 dX8_take_78 (by decide) ?_ ?_
    · refine Wo.sub [] rfl ?_
      exact t_X8_take_85 hC  σ8
    · refine r_aloadn hC 0 (r := x5_0) rfl rfl dX8_take_81 ?_
      refine call_V hC (av := []) (st := []) (r := x5_0) (ci := 7) rfl rfl (fun h9 => ct_X5_go hC.hl G h9 σ8) q_1169 q_1170 q_1171 q_63 q_1172 yd_X5_go rfl ⟨Nat.le_of_ble_eq_true rfl, Nat.le_of_ble_eq_true rfl⟩ ⟨Nat.zero_le _, Nat.zero_le _⟩ rfl (Nat.le_of_ble_eq_true rfl) dX8_take_82 (fun u10 σ11 => ?_)
      show Wo _ _ _ _ _ _ _ _ _ _ []
      refine Wo.sub [] rfl ?_
      exact t_X8_take_85 hC  σ11
  · refine r_iloadn hC 2 rfl rfl dX8_take_11 ?_
    refine r_aloadn hC 0 (r := x5_0) rfl rfl dX8_take_12 ?_
    refine r_gR hC (k := 1) (r := x5_0) cls_7 (by decide) rfl q_1098 (Or.inl rfl) dX8_take_13 (fun r13 => ?_)
    refine r_iload hC 3 rfl dX8_take_16 ?_
    refine r_aI hC (r := r13) dX8_take_18 (fun v14 => ?_)
    refine r_min hC q_1156 q_283 q_56 q_284 (Nat.le_of_ble_eq_true rfl) (Nat.le_of_ble_eq_true rfl) ⟨Nat.zero_le _, Nat.zero_le _⟩ dX8_take_19 (fun v15 => ?_)
    refine r_istore hC [(5, .int v15), (0, va_rf x5_0), (2, va_rf x5_2), (3, .int x5_3), (4, .int x5_4)] (i := 5) (by decide) rfl dX8_take_22 ?_
    refine r_aloadn hC 1 (r := x5_0) rfl rfl dX8_take_24 ?_
    refine r_gR hC (k := 1) (r := x5_0) cls_7 (by decide) rfl q_1098 (Or.inl rfl) dX8_take_25 (fun r16 => ?_)
    refine r_iload hC 4 rfl dX8_take_28 ?_
    refine r_dup2 hC rfl (cat_rf _) dX8_take_30 ?_
    refine r_aI hC (r := r16) dX8_take_31 (fun v17 => ?_)
    refine r_iload hC 0 rfl dX8_take_32 ?_
    refine r_isub hC dX8_take_34 (fun v18 => ?_)
    refine r_wI hC (r := r16) dX8_take_35 (fun σ19 => ?_)
    refine r_aloadn hC 2 (r := x5_2) rfl rfl dX8_take_36 ?_
    refine r_gR hC (k := 1) (r := x5_2) cls_7 (by decide) rfl q_1098 (Or.inl rfl) dX8_take_37 (fun r20 => ?_)
    refine r_iload hC 4 rfl dX8_take_40 ?_
    refine r_dup2 hC rfl (cat_rf _) dX8_take_42 ?_
    refine r_aI hC (r := r20) dX8_take_43 (fun v21 => ?_)
    refine r_iload hC 0 rfl dX8_take_44 ?_
    refine r_iadd hC dX8_take_46 (fun v22 => ?_)
    refine r_wI hC (r := r20) dX8_take_47 (fun σ23 => ?_)
    refine r_iloadn hC 3 rfl rfl dX8_take_48 ?_
    refine r_iload hC 0 rfl dX8_take_49 ?_
    refine r_isub hC dX8_take_51 (fun v24 => ?_)
    refine r_istoren hC [(3, .int v24), (5, .int v15), (0, va_rf x5_0), (2, va_rf x5_2), (4, .int x5_4)] (i := 3) rfl (by decide) (by simp [List.filter, cat_rf, cat_i, cat_j, cat_d, cat_a]) dX8_take_52 ?_
    refine r_iinc hC 4 (fun w => [(4, .int w), (3, .int v24), (5, .int v15), (0, va_rf x5_0), (2, va_rf x5_2)]) 1 rfl (by decide) rfl (fun w => rfl) dX8_take_53 (fun v25 => ?_)
    refine r_goto hC 5 dX8_take_56 (by decide) ?_
    refine Wo.sub [3, 4, 1, 0] rfl ?_
    exact hk5 x5_0 x5_2 v24 v25 σ23

set_option maxRecDepth 100000 in
set_option maxHeartbeats 4000000 in
theorem u_X8_take_5 {C : Cxt} {G : Glb} (hC : CX C G RX8 cX8_take 6 none 2 0 0 44) : ∀ (n : Nat) (x5_0 : (Option Nat)) (x5_2 : (Option Nat)) (x5_3 : Int32) (x5_4 : Int32) (σ : Mem), Wo C G 6 (QP C G rvU 0 0) (l_X8_take_5  n x5_0 x5_2 x5_3 x5_4 σ) σ 0 0 5 [(0, va_rf x5_0), (2, va_rf x5_2), (3, .int x5_3), (4, .int x5_4)] [] := by
  intro n
  induction n with
  | zero => intro x5_0 x5_2 x5_3 x5_4 σ; exact Wo.none
  | succ n ih => intro x5_0 x5_2 x5_3 x5_4 σ; exact t_X8_take_5 hC (l_X8_take_5  n) ih x5_0 x5_2 x5_3 x5_4 σ

set_option maxRecDepth 100000 in
set_option maxHeartbeats 4000000 in
theorem t_X8_take_0 {C : Cxt} {G : Glb} (hC : CX C G RX8 cX8_take 6 none 2 0 0 44) (p0 : (Option Nat)) (p1 : Int32) (p2 : (Option Nat)) (σ : Mem) : Wo C G 6 (QP C G rvU 0 0) (b_X8_take_0  p0 p1 p2 σ) σ 0 0 0 [(0, va_rf p0), (1, .int p1), (2, va_rf p2)] [] := by
  unfold b_X8_take_0
  refine r_iloadn hC 1 rfl rfl dX8_take_0 ?_
  refine r_istoren hC [(3, .int p1), (0, va_rf p0), (1, .int p1), (2, va_rf p2)] (i := 3) rfl (by decide) (by simp [List.filter, cat_rf, cat_i, cat_j, cat_d, cat_a]) dX8_take_1 ?_
  refine r_iconst hC (0) rfl dX8_take_2 ?_
  refine r_istore hC [(4, .int 0), (3, .int p1), (0, va_rf p0), (1, .int p1), (2, va_rf p2)] (i := 4) (by decide) rfl dX8_take_3 ?_
  refine Wo.sub [2, 4, 1, 0] rfl ?_
  exact u_X8_take_5 hC 40 p0 p2 p1 0 σ

set_option maxRecDepth 100000 in
set_option maxHeartbeats 4000000 in
theorem ct_X8_take {l : Launch} (hl : l.stackTraces = false) (G : Glb) (p0 : (Option Nat)) (p1 : Int32) (p2 : (Option Nat)) (σ : Mem) : Ct rvU l yX8_take (Cond.code yX8_take cX8_take 6 none :: uW) { frames := 2, cells := 0, slots := 0, locals := 44 } 0 0 G [va_rf p0, .int p1, va_rf p2] σ (f_X8_take p0 p1 p2 σ) := by
  refine Ct.of hl (by decide +kernel) (by simp [lg_sl, cat_rf, cat_i, cat_j, cat_d, cat_a]) (fun C hC hin => ?_)
  have e : lv_args 0 [va_rf p0, .int p1, va_rf p2] = [(0, va_rf p0), (1, .int p1), (2, va_rf p2)] := by simp [lv_args, cat_rf, cat_i, cat_j, cat_d, cat_a]
  rw [e]
  exact t_X8_take_0 hC p0 p1 p2 σ

noncomputable def b_X8_mix_47 (e0 mi : Nat) (σ : Mem) : Option ((Int32) × Mem) :=
some (0, σ)

noncomputable def b_X8_mix_197 (e0 mi : Nat) (k197 : Nat → Int32 → Int32 → (Option Nat) → (Option Nat) → (Option Nat) → Int32 → Mem → Option ((Int32) × Mem)) (a0 : Nat) (x197_2 : Int32) (x197_4 : Int32) (x197_5 : (Option Nat)) (x197_6 : (Option Nat)) (x197_7 : (Option Nat)) (x197_8 : Int32) (σ : Mem) : Option ((Int32) × Mem) :=
if 3 ≤ x197_8 then
cl1 (f_X8_take x197_5 x197_2 x197_7 σ) fun u35 σ36 =>
cl1 (f_X8_take x197_6 x197_4 x197_7 σ36) fun u37 σ38 =>
gR 10 7 σ38 (some a0) fun r39 =>
ob 1 σ38 r39 fun h42 => cl1 (f_Jx4a65c_add_9ea2d e0 mi h42 x197_7 σ38) fun v40 σ41 =>
gR 10 7 σ41 (some a0) fun r43 =>
ob 1 σ41 r43 fun h46 => cl1 (f_Jx4a65c_size_8abf5 h46 σ41) fun v44 σ45 =>
nm (v44 - 1) fun v47 =>
some (v47, σ45)
else
gR 7 12 σ x197_7 fun r48 =>
ob 7 σ x197_5 fun h51 => cl1 (f_X5_note h51 x197_8 σ) fun v49 σ50 =>
nm (v49 * x197_2) fun v52 =>
ob 7 σ50 x197_6 fun h55 => cl1 (f_X5_note h55 x197_8 σ50) fun v53 σ54 =>
nm (v53 * x197_4) fun v56 =>
nm (v52 + v56) fun v57 =>
nm (x197_2 + x197_4) fun v58 =>
dv v57 v58 fun v59 =>
wI σ54 r48 x197_8 v59 fun σ60 =>
nm (x197_8 + 1) fun v61 =>
k197 a0 x197_2 x197_4 x197_5 x197_6 x197_7 v61 σ60

noncomputable def l_X8_mix_197 (e0 mi : Nat) (n : Nat) : Nat → Int32 → Int32 → (Option Nat) → (Option Nat) → (Option Nat) → Int32 → Mem → Option ((Int32) × Mem) := itr (fun _ _ _ _ _ _ _ _ => none) (fun k => b_X8_mix_197 e0 mi  k) n

noncomputable def b_X8_mix_183 (e0 mi : Nat) (a0 : Nat) (x183_2 : Int32) (x183_4 : Int32) (x183_5 : (Option Nat)) (x183_6 : (Option Nat)) (x183_7 : (Option Nat)) (y183_0 : Int32) (y183_1 : (Option Nat)) (σ : Mem) : Option ((Int32) × Mem) :=
pB 7 11 σ y183_1 y183_0 fun σ31 =>
nA 0 3 σ31 3 fun σ32 r33 =>
pR 7 12 σ32 x183_7 r33 fun σ34 =>
l_X8_mix_197 e0 mi 40 a0 x183_2 x183_4 x183_5 x183_6 x183_7 0 σ34

noncomputable def b_X8_mix_178 (e0 mi : Nat) (a0 : Nat) (x178_2 : Int32) (x178_4 : Int32) (x178_5 : (Option Nat)) (x178_6 : (Option Nat)) (x178_7 : (Option Nat)) (y178_0 : (Option Nat)) (σ : Mem) : Option ((Int32) × Mem) :=
b_X8_mix_183 e0 mi a0 x178_2 x178_4 x178_5 x178_6 x178_7 1 y178_0 σ

noncomputable def b_X8_mix_136 (e0 mi : Nat) (a0 : Nat) (x136_2 : Int32) (x136_4 : Int32) (x136_5 : (Option Nat)) (x136_6 : (Option Nat)) (y136_0 : Int32) (y136_1 : (Option Nat)) (σ : Mem) : Option ((Int32) × Mem) :=
ob 10 σ y136_1 fun h23 => cl1 (f_X8_refuse h23 y136_0 3 σ) fun v21 σ22 =>
if v21 = 0 then
nO 7 σ22 fun σ24 r25 =>
ob 7 σ24 r25 fun h28 => cl1 (f_X5_init e0 mi h28 σ24) fun _ σ27 =>
pI 7 0 σ27 r25 2 fun σ29 =>
gI 7 11 σ29 x136_5 fun v30 =>
if v30 = 0 then
gI 7 11 σ29 x136_6 fun v62 =>
if v62 = 0 then
b_X8_mix_183 e0 mi a0 x136_2 x136_4 x136_5 x136_6 r25 0 r25 σ29
else
b_X8_mix_178 e0 mi a0 x136_2 x136_4 x136_5 x136_6 r25 r25 σ29
else
b_X8_mix_178 e0 mi a0 x136_2 x136_4 x136_5 x136_6 r25 r25 σ29
else
some (0, σ22)

noncomputable def b_X8_mix_131 (e0 mi : Nat) (a0 : Nat) (x131_2 : Int32) (x131_4 : Int32) (x131_5 : (Option Nat)) (x131_6 : (Option Nat)) (y131_0 : (Option Nat)) (σ : Mem) : Option ((Int32) × Mem) :=
b_X8_mix_136 e0 mi a0 x131_2 x131_4 x131_5 x131_6 1 y131_0 σ

noncomputable def b_X8_mix_40 (e0 mi : Nat) (a0 : Nat) (x40_1 : Int32) (x40_2 : Int32) (x40_3 : Int32) (x40_4 : Int32) (y40_0 : Int32) (y40_1 : (Option Nat)) (σ : Mem) : Option ((Int32) × Mem) :=
ob 10 σ y40_1 fun h9 => cl1 (f_X8_refuse h9 y40_0 2 σ) fun v7 σ8 =>
if v7 = 0 then
gR 10 7 σ8 (some a0) fun r10 =>
ob 1 σ8 r10 fun h13 => cl1 (f_Jx4a65c_get_915e3 h13 x40_1 σ8) fun r11 σ12 =>
ck 8 σ12 r11 <|
gR 10 7 σ12 (some a0) fun r14 =>
ob 1 σ12 r14 fun h17 => cl1 (f_Jx4a65c_get_915e3 h17 x40_3 σ12) fun r15 σ16 =>
ck 8 σ16 r15 <|
ob 10 σ16 (some a0) fun h20 => cl1 (f_X8_canMix h20 x40_1 σ16) fun v18 σ19 =>
if v18 = 0 then
b_X8_mix_131 e0 mi a0 x40_2 x40_4 r11 r15 (some a0) σ19
else
ob 10 σ19 (some a0) fun h65 => cl1 (f_X8_canMix h65 x40_3 σ19) fun v63 σ64 =>
if v63 = 0 then
b_X8_mix_131 e0 mi a0 x40_2 x40_4 r11 r15 (some a0) σ64
else
ob 7 σ64 r11 fun h68 => cl1 (f_X5_dry h68 σ64) fun v66 σ67 =>
cl1 (f_X8_isIn x40_2 1 v66 σ67) fun v69 σ70 =>
if v69 = 0 then
b_X8_mix_131 e0 mi a0 x40_2 x40_4 r11 r15 (some a0) σ70
else
ob 7 σ70 r15 fun h73 => cl1 (f_X5_dry h73 σ70) fun v71 σ72 =>
cl1 (f_X8_isIn x40_4 1 v71 σ72) fun v74 σ75 =>
if v74 = 0 then
b_X8_mix_131 e0 mi a0 x40_2 x40_4 r11 r15 (some a0) σ75
else
gR 10 7 σ75 (some a0) fun r76 =>
ob 1 σ75 r76 fun h79 => cl1 (f_Jx4a65c_size_8abf5 h79 σ75) fun v77 σ78 =>
if v77 = 16 then
b_X8_mix_131 e0 mi a0 x40_2 x40_4 r11 r15 (some a0) σ78
else
b_X8_mix_136 e0 mi a0 x40_2 x40_4 r11 r15 0 (some a0) σ78
else
b_X8_mix_47 e0 mi σ8

noncomputable def b_X8_mix_22 (e0 mi : Nat) (a0 : Nat) (x22_1 : Int32) (x22_2 : Int32) (x22_3 : Int32) (x22_4 : Int32) (y22_0 : Int32) (y22_1 : (Option Nat)) (σ : Mem) : Option ((Int32) × Mem) :=
ob 10 σ y22_1 fun h6 => cl1 (f_X8_start h6 y22_0 1 σ) fun v4 σ5 =>
if v4 = 0 then
if x22_1 = x22_3 then
b_X8_mix_40 e0 mi a0 x22_1 x22_2 x22_3 x22_4 1 (some a0) σ5
else
b_X8_mix_40 e0 mi a0 x22_1 x22_2 x22_3 x22_4 0 (some a0) σ5
else
b_X8_mix_47 e0 mi σ5

noncomputable def b_X8_mix_17 (e0 mi : Nat) (a0 : Nat) (x17_1 : Int32) (x17_2 : Int32) (x17_3 : Int32) (x17_4 : Int32) (y17_0 : (Option Nat)) (σ : Mem) : Option ((Int32) × Mem) :=
b_X8_mix_22 e0 mi a0 x17_1 x17_2 x17_3 x17_4 1 y17_0 σ

noncomputable def b_X8_mix_0 (e0 mi : Nat) (a0 : Nat) (p0 : Int32) (p1 : Int32) (p2 : Int32) (p3 : Int32) (σ : Mem) : Option ((Int32) × Mem) :=
ob 10 σ (some a0) fun h3 => cl1 (f_X8_isNoLot h3 p0 σ) fun v1 σ2 =>
if v1 = 0 then
ob 10 σ2 (some a0) fun h82 => cl1 (f_X8_isNoLot h82 p2 σ2) fun v80 σ81 =>
if v80 = 0 then
b_X8_mix_22 e0 mi a0 p0 p1 p2 p3 0 (some a0) σ81
else
b_X8_mix_17 e0 mi a0 p0 p1 p2 p3 (some a0) σ81
else
b_X8_mix_17 e0 mi a0 p0 p1 p2 p3 (some a0) σ2

noncomputable def f_X8_mix (e0 mi : Nat) (a0 : Nat) (p0 : Int32) (p1 : Int32) (p2 : Int32) (p3 : Int32) (σ : Mem) : Option ((Int32) × Mem) := b_X8_mix_0 e0 mi a0 p0 p1 p2 p3 σ
set_option maxRecDepth 100000 in
set_option maxHeartbeats 4000000 in
theorem t_X8_mix_47 {C : Cxt} {G : Glb} (hC : CX C G RX8 cX8_mix 9 (some .int) 7 5 47 149) (σ : Mem) (kc ks : Nat) (hN : kc + 0 ≤ 5 ∧ ks + 0 ≤ 47) : Wo C G 9 (QP C G rvI 5 47) (b_X8_mix_47 G.2.2.2.1 G.2.2.2.2   σ) σ kc ks 47 [] [] := by
  unfold b_X8_mix_47
  refine r_iconst hC (0) rfl dX8_mix_47 ?_
  exact e_I hC ⟨by omega, by omega⟩ dX8_mix_48

set_option maxRecDepth 100000 in
set_option maxHeartbeats 4000000 in
theorem t_X8_mix_197 {C : Cxt} {G : Glb} (hC : CX C G RX8 cX8_mix 9 (some .int) 7 5 47 149) (P197 : Nat → Nat → Prop) (hm197 : ∀ a b a2 b2 : Nat, a ≤ a2 → b ≤ b2 → P197 a2 b2 → P197 a b) (k197 : Nat → Int32 → Int32 → (Option Nat) → (Option Nat) → (Option Nat) → Int32 → Mem → Option ((Int32) × Mem)) (hk197 : ∀ (a0 : Nat) (x197_2 : Int32) (x197_4 : Int32) (x197_5 : (Option Nat)) (x197_6 : (Option Nat)) (x197_7 : (Option Nat)) (x197_8 : Int32) (σ : Mem) (kc ks : Nat), P197 kc ks → Wo C G 9 (QP C G rvI 5 47) (k197 a0 x197_2 x197_4 x197_5 x197_6 x197_7 x197_8 σ) σ kc ks 197 [(0, va_rf (some a0)), (2, .int x197_2), (4, .int x197_4), (5, va_rf x197_5), (6, va_rf x197_6), (7, va_rf x197_7), (8, .int x197_8)] []) (a0 : Nat) (x197_2 : Int32) (x197_4 : Int32) (x197_5 : (Option Nat)) (x197_6 : (Option Nat)) (x197_7 : (Option Nat)) (x197_8 : Int32) (σ : Mem) (kc ks : Nat) (hN : kc + 1 ≤ 5 ∧ ks + 22 ≤ 47) (hP197 : P197 (kc + 0) (ks + 0)) : Wo C G 9 (QP C G rvI 5 47) (b_X8_mix_197 G.2.2.2.1 G.2.2.2.2 k197 a0 x197_2 x197_4 x197_5 x197_6 x197_7 x197_8 σ) σ kc ks 197 [(0, va_rf (some a0)), (2, .int x197_2), (4, .int x197_4), (5, va_rf x197_5), (6, va_rf x197_6), (7, va_rf x197_7), (8, .int x197_8)] [] := by
  unfold b_X8_mix_197
  refine r_iload hC 6 rfl dX8_mix_197 ?_
  refine r_iconst hC (3) rfl dX8_mix_199 ?_
  refine r_icmp_ge hC 242 dX8_mix_200 (by decide) ?_ ?_
  · refine r_aload hC 3 (r := x197_5) rfl dX8_mix_242 ?_
    refine r_iloadn hC 1 rfl rfl dX8_mix_244 ?_
    refine r_aload hC 5 (r := x197_7) rfl dX8_mix_245 ?_
    refine call_S hC (av := [va_rf x197_5, .int x197_2, va_rf x197_7]) (st := []) (ct_X8_take hC.hl G x197_5 x197_2 x197_7 σ) q_1272 q_1273 q_44 q_1274 yd_X8_take rfl ⟨Nat.le_of_ble_eq_true rfl, Nat.le_of_ble_eq_true rfl⟩ ⟨by omega, by omega⟩ rfl (Nat.le_of_ble_eq_true rfl) dX8_mix_247 (fun u35 σ36 => ?_)
    show Wo _ _ _ _ _ _ _ _ _ _ []
    refine r_aload hC 4 (r := x197_6) rfl dX8_mix_250 ?_
    refine r_iload hC 2 rfl dX8_mix_252 ?_
    refine r_aload hC 5 (r := x197_7) rfl dX8_mix_254 ?_
    refine call_S hC (av := [va_rf x197_6, .int x197_4, va_rf x197_7]) (st := []) (ct_X8_take hC.hl G x197_6 x197_4 x197_7 σ36) q_1272 q_1273 q_44 q_1274 yd_X8_take rfl ⟨Nat.le_of_ble_eq_true rfl, Nat.le_of_ble_eq_true rfl⟩ ⟨by omega, by omega⟩ rfl (Nat.le_of_ble_eq_true rfl) dX8_mix_256 (fun u37 σ38 => ?_)
    show Wo _ _ _ _ _ _ _ _ _ _ []
    refine r_aloadn hC 0 (r := (some a0)) rfl rfl dX8_mix_259 ?_
    refine r_gR hC (k := 7) (r := (some a0)) cls_10 (by decide) rfl q_847 (Or.inl rfl) dX8_mix_260 (fun r39 => ?_)
    refine r_aload hC 5 (r := x197_7) rfl dX8_mix_263 ?_
    refine call_V hC (av := [va_rf x197_7]) (st := []) (r := r39) (ci := 1) rfl rfl (fun h9 => ct_Jx4a65c_add_9ea2d hC.hl G h9 x197_7 σ38) q_929 q_930 q_931 q_47 q_932 yd_Jx4a65c_add_9ea2d rfl ⟨Nat.le_of_ble_eq_true rfl, Nat.le_of_ble_eq_true rfl⟩ ⟨by omega, by omega⟩ rfl (Nat.le_of_ble_eq_true rfl) dX8_mix_265 (fun v40 σ41 => ?_)
    show Wo _ _ _ _ _ _ _ _ _ _ [.int v40]
    refine r_pop hC rfl dX8_mix_268 ?_
    refine r_aloadn hC 0 (r := (some a0)) rfl rfl dX8_mix_269 ?_
    refine r_gR hC (k := 7) (r := (some a0)) cls_10 (by decide) rfl q_847 (Or.inl rfl) dX8_mix_270 (fun r43 => ?_)
    refine call_V hC (av := []) (st := []) (r := r43) (ci := 1) rfl rfl (fun h9 => ct_Jx4a65c_size_8abf5 hC.hl G h9 σ41) q_890 q_891 q_892 q_47 q_893 yd_Jx4a65c_size_8abf5 rfl ⟨Nat.le_of_ble_eq_true rfl, Nat.le_of_ble_eq_true rfl⟩ ⟨by omega, by omega⟩ rfl (Nat.le_of_ble_eq_true rfl) dX8_mix_273 (fun v44 σ45 => ?_)
    show Wo _ _ _ _ _ _ _ _ _ _ [.int v44]
    refine r_iconst hC (1) rfl dX8_mix_276 ?_
    refine r_isub hC dX8_mix_277 (fun v47 => ?_)
    exact e_I hC ⟨by omega, by omega⟩ dX8_mix_278
  · refine r_aload hC 5 (r := x197_7) rfl dX8_mix_203 ?_
    refine r_gR hC (k := 12) (r := x197_7) cls_7 (by decide) rfl q_1120 (Or.inl rfl) dX8_mix_205 (fun r48 => ?_)
    refine r_iload hC 6 rfl dX8_mix_208 ?_
    refine r_aload hC 3 (r := x197_5) rfl dX8_mix_210 ?_
    refine r_iload hC 6 rfl dX8_mix_212 ?_
    refine call_V hC (av := [.int x197_8]) (st := [.int x197_8, va_rf r48]) (r := x197_5) (ci := 7) rfl rfl (fun h9 => ct_X5_note hC.hl G h9 x197_8 σ) q_1262 q_1263 q_1264 q_63 q_1265 yd_X5_note rfl ⟨Nat.le_of_ble_eq_true rfl, Nat.le_of_ble_eq_true rfl⟩ ⟨by omega, by omega⟩ rfl (by simp [cat_rf, cat_i, cat_j, cat_d, cat_a]) dX8_mix_214 (fun v49 σ50 => ?_)
    show Wo _ _ _ _ _ _ _ _ _ _ [.int v49, .int x197_8, va_rf r48]
    refine r_iloadn hC 1 rfl rfl dX8_mix_217 ?_
    refine r_imul hC dX8_mix_218 (fun v52 => ?_)
    refine r_aload hC 4 (r := x197_6) rfl dX8_mix_219 ?_
    refine r_iload hC 6 rfl dX8_mix_221 ?_
    refine call_V hC (av := [.int x197_8]) (st := [.int v52, .int x197_8, va_rf r48]) (r := x197_6) (ci := 7) rfl rfl (fun h9 => ct_X5_note hC.hl G h9 x197_8 σ50) q_1262 q_1263 q_1264 q_63 q_1265 yd_X5_note rfl ⟨Nat.le_of_ble_eq_true rfl, Nat.le_of_ble_eq_true rfl⟩ ⟨by omega, by omega⟩ rfl (by simp [cat_rf, cat_i, cat_j, cat_d, cat_a]) dX8_mix_223 (fun v53 σ54 => ?_)
    show Wo _ _ _ _ _ _ _ _ _ _ [.int v53, .int v52, .int x197_8, va_rf r48]
    refine r_iload hC 2 rfl dX8_mix_226 ?_
    refine r_imul hC dX8_mix_228 (fun v56 => ?_)
    refine r_iadd hC dX8_mix_229 (fun v57 => ?_)
    refine r_iloadn hC 1 rfl rfl dX8_mix_230 ?_
    refine r_iload hC 2 rfl dX8_mix_231 ?_
    refine r_iadd hC dX8_mix_233 (fun v58 => ?_)
    refine r_idiv hC dX8_mix_234 (fun v59 => ?_)
    refine r_wI hC (r := r48) dX8_mix_235 (fun σ60 => ?_)
    refine r_iinc hC 6 (fun w => [(8, .int w), (0, va_rf (some a0)), (2, .int x197_2), (4, .int x197_4), (5, va_rf x197_5), (6, va_rf x197_6), (7, va_rf x197_7)]) 1 rfl (by decide) rfl (fun w => by simp [List.filter, cat_rf, cat_i, cat_j, cat_d, cat_a]) dX8_mix_236 (fun v61 => ?_)
    refine r_goto hC 197 dX8_mix_239 (by decide) ?_
    refine Wo.sub [1, 2, 3, 4, 5, 6, 0] rfl ?_
    exact hk197 a0 x197_2 x197_4 x197_5 x197_6 x197_7 v61 σ60 _ _ (hm197 _ _ _ _ (by omega) (by omega) hP197)

set_option maxRecDepth 100000 in
set_option maxHeartbeats 4000000 in
theorem u_X8_mix_197 {C : Cxt} {G : Glb} (hC : CX C G RX8 cX8_mix 9 (some .int) 7 5 47 149) : ∀ (n : Nat) (a0 : Nat) (x197_2 : Int32) (x197_4 : Int32) (x197_5 : (Option Nat)) (x197_6 : (Option Nat)) (x197_7 : (Option Nat)) (x197_8 : Int32) (σ : Mem) (kc ks : Nat), (∀ m, n = m + 1 → (kc + m * 0 + 1 ≤ 5 ∧ ks + m * 0 + 22 ≤ 47)) → Wo C G 9 (QP C G rvI 5 47) (l_X8_mix_197 G.2.2.2.1 G.2.2.2.2  n a0 x197_2 x197_4 x197_5 x197_6 x197_7 x197_8 σ) σ kc ks 197 [(0, va_rf (some a0)), (2, .int x197_2), (4, .int x197_4), (5, va_rf x197_5), (6, va_rf x197_6), (7, va_rf x197_7), (8, .int x197_8)] [] := by
  intro n
  induction n with
  | zero => intro a0 x197_2 x197_4 x197_5 x197_6 x197_7 x197_8 σ kc ks h0; exact Wo.none
  | succ n ih =>
    intro a0 x197_2 x197_4 x197_5 x197_6 x197_7 x197_8 σ kc ks h0
    exact t_X8_mix_197 hC (fun kc ks => (∀ m, n = m + 1 → (kc + m * 0 + 1 ≤ 5 ∧ ks + m * 0 + 22 ≤ 47))) (fun a b a2 b2 h1 h2 h m e => ⟨by have := (h m e).1; omega, by have := (h m e).2; omega⟩) (l_X8_mix_197 G.2.2.2.1 G.2.2.2.2  n) ih a0 x197_2 x197_4 x197_5 x197_6 x197_7 x197_8 σ kc ks ⟨by have := (h0 n rfl).1; omega, by have := (h0 n rfl).2; omega⟩ (fun m e => by
      subst e
      exact ⟨by have := (h0 _ rfl).1; omega, by have := (h0 _ rfl).2; omega⟩)

set_option maxRecDepth 100000 in
set_option maxHeartbeats 4000000 in
theorem t_X8_mix_183 {C : Cxt} {G : Glb} (hC : CX C G RX8 cX8_mix 9 (some .int) 7 5 47 149) (a0 : Nat) (x183_2 : Int32) (x183_4 : Int32) (x183_5 : (Option Nat)) (x183_6 : (Option Nat)) (x183_7 : (Option Nat)) (y183_0 : Int32) (y183_1 : (Option Nat)) (σ : Mem) (kc ks : Nat) (hN : kc + 2 ≤ 5 ∧ ks + 25 ≤ 47) : Wo C G 9 (QP C G rvI 5 47) (b_X8_mix_183 G.2.2.2.1 G.2.2.2.2  a0 x183_2 x183_4 x183_5 x183_6 x183_7 y183_0 y183_1 σ) σ kc ks 183 [(0, va_rf (some a0)), (2, .int x183_2), (4, .int x183_4), (5, va_rf x183_5), (6, va_rf x183_6), (7, va_rf x183_7)] [.int y183_0, va_rf y183_1] := by
  unfold b_X8_mix_183
  refine r_pB hC (k := 11) (r := y183_1) cls_7 (by decide) rfl q_1118 (Or.inl rfl) (Or.inl rfl) dX8_mix_183 (fun σ31 => ?_)
  refine r_aload hC 5 (r := x183_7) rfl dX8_mix_186 ?_
  refine r_iconst hC (3) rfl dX8_mix_188 ?_
  refine r_nA hC (t := 0) (b := 3) (ty := .int) rfl rfl rfl (fun _ h => va_nm_int h) q_102 (Nat.le_of_ble_eq_true rfl) ⟨by omega, by omega⟩ dX8_mix_189 (fun σ32 r33 => ?_)
  refine r_pR hC (k := 12) (r := x183_7) (v := r33) cls_7 (by decide) rfl (Or.inr ⟨_, rfl⟩) q_1120 (Or.inl rfl) (Or.inl rfl) dX8_mix_191 (fun σ34 => ?_)
  refine r_iconst hC (0) rfl dX8_mix_194 ?_
  refine r_istore hC [(8, .int 0), (0, va_rf (some a0)), (2, .int x183_2), (4, .int x183_4), (5, va_rf x183_5), (6, va_rf x183_6), (7, va_rf x183_7)] (i := 8) (by decide) (by simp [List.filter, cat_rf, cat_i, cat_j, cat_d, cat_a]) dX8_mix_195 ?_
  refine Wo.sub [1, 2, 3, 4, 5, 6, 0] rfl ?_
  exact u_X8_mix_197 hC 40 a0 x183_2 x183_4 x183_5 x183_6 x183_7 0 σ34 _ _ (fun m e => by cases e; exact ⟨by omega, by omega⟩)

set_option maxRecDepth 100000 in
set_option maxHeartbeats 4000000 in
theorem t_X8_mix_178 {C : Cxt} {G : Glb} (hC : CX C G RX8 cX8_mix 9 (some .int) 7 5 47 149) (a0 : Nat) (x178_2 : Int32) (x178_4 : Int32) (x178_5 : (Option Nat)) (x178_6 : (Option Nat)) (x178_7 : (Option Nat)) (y178_0 : (Option Nat)) (σ : Mem) (kc ks : Nat) (hN : kc + 2 ≤ 5 ∧ ks + 25 ≤ 47) : Wo C G 9 (QP C G rvI 5 47) (b_X8_mix_178 G.2.2.2.1 G.2.2.2.2  a0 x178_2 x178_4 x178_5 x178_6 x178_7 y178_0 σ) σ kc ks 178 [(0, va_rf (some a0)), (2, .int x178_2), (4, .int x178_4), (5, va_rf x178_5), (6, va_rf x178_6), (7, va_rf x178_7)] [va_rf y178_0] := by
  unfold b_X8_mix_178
  refine r_iconst hC (1) rfl dX8_mix_178 ?_
  refine r_goto hC 183 dX8_mix_179 (by decide) ?_
  exact t_X8_mix_183 hC a0 x178_2 x178_4 x178_5 x178_6 x178_7 1 y178_0 σ _ _ ⟨by omega, by omega⟩

set_option maxRecDepth 100000 in
set_option maxHeartbeats 4000000 in
theorem t_X8_mix_136 {C : Cxt} {G : Glb} (hC : CX C G RX8 cX8_mix 9 (some .int) 7 5 47 149) (a0 : Nat) (x136_2 : Int32) (x136_4 : Int32) (x136_5 : (Option Nat)) (x136_6 : (Option Nat)) (y136_0 : Int32) (y136_1 : (Option Nat)) (σ : Mem) (kc ks : Nat) (hN : kc + 5 ≤ 5 ∧ ks + 47 ≤ 47) : Wo C G 9 (QP C G rvI 5 47) (b_X8_mix_136 G.2.2.2.1 G.2.2.2.2  a0 x136_2 x136_4 x136_5 x136_6 y136_0 y136_1 σ) σ kc ks 136 [(0, va_rf (some a0)), (2, .int x136_2), (4, .int x136_4), (5, va_rf x136_5), (6, va_rf x136_6)] [.int y136_0, va_rf y136_1] := by
  unfold b_X8_mix_136
  refine r_iconst hC (3) rfl dX8_mix_136 ?_
  refine call_V hC (av := [.int y136_0, .int 3]) (st := []) (r := y136_1) (ci := 10) rfl rfl (fun h9 => ct_X8_refuse hC.hl G h9 y136_0 3 σ) q_886 q_888 q_13 q_44 q_889 yd_X8_refuse rfl ⟨Nat.le_of_ble_eq_true rfl, Nat.le_of_ble_eq_true rfl⟩ ⟨by omega, by omega⟩ rfl (Nat.le_of_ble_eq_true rfl) dX8_mix_137 (fun v21 σ22 => ?_)
  show Wo _ _ _ _ _ _ _ _ _ _ [.int v21]
  refine r_if_eq hC 145 dX8_mix_140 (by decide) ?_ ?_
  · refine r_nO hC cls_7 q_1087 q_1088 q_63 ⟨by omega, by omega⟩ dX8_mix_145 (fun σ24 r25 => ?_)
    refine r_dup hC (cat_rf _) dX8_mix_148 ?_
    refine call_IN hC (av := []) (st := [va_rf r25]) (r := r25) (ci := 7) (fun h9 => ct_X5_init hC.hl G h9 σ24) z_1089 q_1090 q_63 q_1091 rfl yd_X5_init rfl ⟨Nat.le_of_ble_eq_true rfl, Nat.le_of_ble_eq_true rfl⟩ ⟨by omega, by omega⟩ rfl (by simp [cat_rf, cat_i, cat_j, cat_d, cat_a]) dX8_mix_149 (fun σ27 => ?_)
    refine r_astore hC [(7, va_rf r25), (0, va_rf (some a0)), (2, .int x136_2), (4, .int x136_4), (5, va_rf x136_5), (6, va_rf x136_6)] (r := r25) (i := 7) (by decide) (by simp [List.filter, cat_rf, cat_i, cat_j, cat_d, cat_a]) dX8_mix_152 ?_
    refine r_aload hC 0 (r := r25) rfl dX8_mix_154 ?_
    refine r_iconst hC (2) rfl dX8_mix_156 ?_
    refine r_pI hC (k := 0) (r := r25) cls_7 (by decide) rfl q_1096 (Or.inl rfl) (Or.inl rfl) dX8_mix_157 (fun σ29 => ?_)
    refine r_aload hC 0 (r := r25) rfl dX8_mix_160 ?_
    refine r_aload hC 4 (r := x136_5) rfl dX8_mix_162 ?_
    refine r_gI hC (k := 11) (r := x136_5) cls_7 (by decide) rfl q_1118 (Or.inl rfl) dX8_mix_164 (fun v30 => ?_)
    refine r_if_ne hC 178 dX8_mix_167 (by decide) ?_ ?_
    · refine Wo.sub [1, 2, 3, 4, 5, 0] rfl ?_
      exact t_X8_mix_178 hC a0 x136_2 x136_4 x136_5 x136_6 r25 r25 σ29 _ _ ⟨by omega, by omega⟩
    · refine r_aload hC 5 (r := x136_6) rfl dX8_mix_170 ?_
      refine r_gI hC (k := 11) (r := x136_6) cls_7 (by decide) rfl q_1118 (Or.inl rfl) dX8_mix_172 (fun v62 => ?_)
      refine r_if_eq hC 182 dX8_mix_175 (by decide) ?_ ?_
      · refine r_iconst hC (0) rfl dX8_mix_182 ?_
        refine Wo.sub [1, 2, 3, 4, 5, 0] rfl ?_
        exact t_X8_mix_183 hC a0 x136_2 x136_4 x136_5 x136_6 r25 0 r25 σ29 _ _ ⟨by omega, by omega⟩
      · refine Wo.sub [1, 2, 3, 4, 5, 0] rfl ?_
        exact t_X8_mix_178 hC a0 x136_2 x136_4 x136_5 x136_6 r25 r25 σ29 _ _ ⟨by omega, by omega⟩
  · refine r_iconst hC (0) rfl dX8_mix_143 ?_
    exact e_I hC ⟨by omega, by omega⟩ dX8_mix_144

set_option maxRecDepth 100000 in
set_option maxHeartbeats 4000000 in
theorem t_X8_mix_131 {C : Cxt} {G : Glb} (hC : CX C G RX8 cX8_mix 9 (some .int) 7 5 47 149) (a0 : Nat) (x131_2 : Int32) (x131_4 : Int32) (x131_5 : (Option Nat)) (x131_6 : (Option Nat)) (y131_0 : (Option Nat)) (σ : Mem) (kc ks : Nat) (hN : kc + 5 ≤ 5 ∧ ks + 47 ≤ 47) : Wo C G 9 (QP C G rvI 5 47) (b_X8_mix_131 G.2.2.2.1 G.2.2.2.2  a0 x131_2 x131_4 x131_5 x131_6 y131_0 σ) σ kc ks 131 [(0, va_rf (some a0)), (2, .int x131_2), (4, .int x131_4), (5, va_rf x131_5), (6, va_rf x131_6)] [va_rf y131_0] := by
  unfold b_X8_mix_131
  refine r_iconst hC (1) rfl dX8_mix_131 ?_
  refine r_goto hC 136 dX8_mix_132 (by decide) ?_
  exact t_X8_mix_136 hC a0 x131_2 x131_4 x131_5 x131_6 1 y131_0 σ _ _ ⟨by omega, by omega⟩

set_option maxRecDepth 100000 in
set_option maxHeartbeats 4000000 in
theorem t_X8_mix_40 {C : Cxt} {G : Glb} (hC : CX C G RX8 cX8_mix 9 (some .int) 7 5 47 149) (a0 : Nat) (x40_1 : Int32) (x40_2 : Int32) (x40_3 : Int32) (x40_4 : Int32) (y40_0 : Int32) (y40_1 : (Option Nat)) (σ : Mem) (kc ks : Nat) (hN : kc + 5 ≤ 5 ∧ ks + 47 ≤ 47) : Wo C G 9 (QP C G rvI 5 47) (b_X8_mix_40 G.2.2.2.1 G.2.2.2.2  a0 x40_1 x40_2 x40_3 x40_4 y40_0 y40_1 σ) σ kc ks 40 [(0, va_rf (some a0)), (1, .int x40_1), (2, .int x40_2), (3, .int x40_3), (4, .int x40_4)] [.int y40_0, va_rf y40_1] := by
  unfold b_X8_mix_40
  refine r_iconst hC (2) rfl dX8_mix_40 ?_
  refine call_V hC (av := [.int y40_0, .int 2]) (st := []) (r := y40_1) (ci := 10) rfl rfl (fun h9 => ct_X8_refuse hC.hl G h9 y40_0 2 σ) q_886 q_888 q_13 q_44 q_889 yd_X8_refuse rfl ⟨Nat.le_of_ble_eq_true rfl, Nat.le_of_ble_eq_true rfl⟩ ⟨by omega, by omega⟩ rfl (Nat.le_of_ble_eq_true rfl) dX8_mix_41 (fun v7 σ8 => ?_)
  show Wo _ _ _ _ _ _ _ _ _ _ [.int v7]
  refine r_if_eq hC 49 dX8_mix_44 (by decide) ?_ ?_
  · refine r_aloadn hC 0 (r := (some a0)) rfl rfl dX8_mix_49 ?_
    refine r_gR hC (k := 7) (r := (some a0)) cls_10 (by decide) rfl q_847 (Or.inl rfl) dX8_mix_50 (fun r10 => ?_)
    refine r_iloadn hC 1 rfl rfl dX8_mix_53 ?_
    refine call_V hC (av := [.int x40_1]) (st := []) (r := r10) (ci := 1) rfl rfl (fun h9 => ct_Jx4a65c_get_915e3 hC.hl G h9 x40_1 σ8) q_1057 q_1058 q_1059 q_47 q_1060 yd_Jx4a65c_get_915e3 rfl ⟨Nat.le_of_ble_eq_true rfl, Nat.le_of_ble_eq_true rfl⟩ ⟨by omega, by omega⟩ rfl (Nat.le_of_ble_eq_true rfl) dX8_mix_54 (fun r11 σ12 => ?_)
    show Wo _ _ _ _ _ _ _ _ _ _ [va_rf r11]
    refine r_ckO hC (r := r11) cls_7 q_1087 dX8_mix_57 ?_
    refine r_astore hC [(5, va_rf r11), (0, va_rf (some a0)), (1, .int x40_1), (2, .int x40_2), (3, .int x40_3), (4, .int x40_4)] (r := r11) (i := 5) (by decide) rfl dX8_mix_60 ?_
    refine r_aloadn hC 1 (r := (some a0)) rfl rfl dX8_mix_62 ?_
    refine r_gR hC (k := 7) (r := (some a0)) cls_10 (by decide) rfl q_847 (Or.inl rfl) dX8_mix_63 (fun r14 => ?_)
    refine r_iloadn hC 4 rfl rfl dX8_mix_66 ?_
    refine call_V hC (av := [.int x40_3]) (st := []) (r := r14) (ci := 1) rfl rfl (fun h9 => ct_Jx4a65c_get_915e3 hC.hl G h9 x40_3 σ12) q_1057 q_1058 q_1059 q_47 q_1060 yd_Jx4a65c_get_915e3 rfl ⟨Nat.le_of_ble_eq_true rfl, Nat.le_of_ble_eq_true rfl⟩ ⟨by omega, by omega⟩ rfl (Nat.le_of_ble_eq_true rfl) dX8_mix_67 (fun r15 σ16 => ?_)
    show Wo _ _ _ _ _ _ _ _ _ _ [va_rf r15]
    refine r_ckO hC (r := r15) cls_7 q_1087 dX8_mix_70 ?_
    refine r_astore hC [(6, va_rf r15), (5, va_rf r11), (0, va_rf (some a0)), (1, .int x40_1), (2, .int x40_2), (3, .int x40_3), (4, .int x40_4)] (r := r15) (i := 6) (by decide) (by simp [List.filter, cat_rf, cat_i, cat_j, cat_d, cat_a]) dX8_mix_73 ?_
    refine r_aloadn hC 2 (r := (some a0)) rfl rfl dX8_mix_75 ?_
    refine r_aloadn hC 2 (r := (some a0)) rfl rfl dX8_mix_76 ?_
    refine r_iloadn hC 3 rfl rfl dX8_mix_77 ?_
    refine call_V hC (av := [.int x40_1]) (st := [va_rf (some a0)]) (r := (some a0)) (ci := 10) rfl rfl (fun h9 => ct_X8_canMix hC.hl G h9 x40_1 σ16) q_1258 q_1260 q_21 q_44 q_1261 yd_X8_canMix rfl ⟨Nat.le_of_ble_eq_true rfl, Nat.le_of_ble_eq_true rfl⟩ ⟨by omega, by omega⟩ rfl (by simp [cat_rf, cat_i, cat_j, cat_d, cat_a]) dX8_mix_78 (fun v18 σ19 => ?_)
    show Wo _ _ _ _ _ _ _ _ _ _ [.int v18, va_rf (some a0)]
    refine r_if_eq hC 131 dX8_mix_81 (by decide) ?_ ?_
    · refine Wo.sub [2, 4, 6, 1, 0] rfl ?_
      exact t_X8_mix_131 hC a0 x40_2 x40_4 r11 r15 (some a0) σ19 _ _ ⟨by omega, by omega⟩
    · refine r_aloadn hC 2 (r := (some a0)) rfl rfl dX8_mix_84 ?_
      refine r_iloadn hC 5 rfl rfl dX8_mix_85 ?_
      refine call_V hC (av := [.int x40_3]) (st := [va_rf (some a0)]) (r := (some a0)) (ci := 10) rfl rfl (fun h9 => ct_X8_canMix hC.hl G h9 x40_3 σ19) q_1258 q_1260 q_21 q_44 q_1261 yd_X8_canMix rfl ⟨Nat.le_of_ble_eq_true rfl, Nat.le_of_ble_eq_true rfl⟩ ⟨by omega, by omega⟩ rfl (by simp [cat_rf, cat_i, cat_j, cat_d, cat_a]) dX8_mix_86 (fun v63 σ64 => ?_)
      show Wo _ _ _ _ _ _ _ _ _ _ [.int v63, va_rf (some a0)]
      refine r_if_eq hC 131 dX8_mix_89 (by decide) ?_ ?_
      · refine Wo.sub [2, 4, 6, 1, 0] rfl ?_
        exact t_X8_mix_131 hC a0 x40_2 x40_4 r11 r15 (some a0) σ64 _ _ ⟨by omega, by omega⟩
      · refine r_iloadn hC 4 rfl rfl dX8_mix_92 ?_
        refine r_iconst hC (1) rfl dX8_mix_93 ?_
        refine r_aload hC 1 (r := r11) rfl dX8_mix_94 ?_
        refine call_V hC (av := []) (st := [.int 1, .int x40_2, va_rf (some a0)]) (r := r11) (ci := 7) rfl rfl (fun h9 => ct_X5_dry hC.hl G h9 σ64) q_1157 q_1158 q_1159 q_63 q_1160 yd_X5_dry rfl ⟨Nat.le_of_ble_eq_true rfl, Nat.le_of_ble_eq_true rfl⟩ ⟨by omega, by omega⟩ rfl (by simp [cat_rf, cat_i, cat_j, cat_d, cat_a]) dX8_mix_96 (fun v66 σ67 => ?_)
        show Wo _ _ _ _ _ _ _ _ _ _ [.int v66, .int 1, .int x40_2, va_rf (some a0)]
        refine call_S hC (av := [.int x40_2, .int 1, .int v66]) (st := [va_rf (some a0)]) (ct_X8_isIn hC.hl G x40_2 1 v66 σ67) q_879 q_880 q_44 q_881 yd_X8_isIn rfl ⟨Nat.le_of_ble_eq_true rfl, Nat.le_of_ble_eq_true rfl⟩ ⟨by omega, by omega⟩ rfl (by simp [cat_rf, cat_i, cat_j, cat_d, cat_a]) dX8_mix_99 (fun v69 σ70 => ?_)
        show Wo _ _ _ _ _ _ _ _ _ _ [.int v69, va_rf (some a0)]
        refine r_if_eq hC 131 dX8_mix_102 (by decide) ?_ ?_
        · refine Wo.sub [2, 4, 6, 1, 0] rfl ?_
          exact t_X8_mix_131 hC a0 x40_2 x40_4 r11 r15 (some a0) σ70 _ _ ⟨by omega, by omega⟩
        · refine r_iload hC 6 rfl dX8_mix_105 ?_
          refine r_iconst hC (1) rfl dX8_mix_107 ?_
          refine r_aload hC 0 (r := r15) rfl dX8_mix_108 ?_
          refine call_V hC (av := []) (st := [.int 1, .int x40_4, va_rf (some a0)]) (r := r15) (ci := 7) rfl rfl (fun h9 => ct_X5_dry hC.hl G h9 σ70) q_1157 q_1158 q_1159 q_63 q_1160 yd_X5_dry rfl ⟨Nat.le_of_ble_eq_true rfl, Nat.le_of_ble_eq_true rfl⟩ ⟨by omega, by omega⟩ rfl (by simp [cat_rf, cat_i, cat_j, cat_d, cat_a]) dX8_mix_110 (fun v71 σ72 => ?_)
          show Wo _ _ _ _ _ _ _ _ _ _ [.int v71, .int 1, .int x40_4, va_rf (some a0)]
          refine call_S hC (av := [.int x40_4, .int 1, .int v71]) (st := [va_rf (some a0)]) (ct_X8_isIn hC.hl G x40_4 1 v71 σ72) q_879 q_880 q_44 q_881 yd_X8_isIn rfl ⟨Nat.le_of_ble_eq_true rfl, Nat.le_of_ble_eq_true rfl⟩ ⟨by omega, by omega⟩ rfl (by simp [cat_rf, cat_i, cat_j, cat_d, cat_a]) dX8_mix_113 (fun v74 σ75 => ?_)
          show Wo _ _ _ _ _ _ _ _ _ _ [.int v74, va_rf (some a0)]
          refine r_if_eq hC 131 dX8_mix_116 (by decide) ?_ ?_
          · refine Wo.sub [2, 4, 6, 1, 0] rfl ?_
            exact t_X8_mix_131 hC a0 x40_2 x40_4 r11 r15 (some a0) σ75 _ _ ⟨by omega, by omega⟩
          · refine r_aloadn hC 2 (r := (some a0)) rfl rfl dX8_mix_119 ?_
            refine r_gR hC (k := 7) (r := (some a0)) cls_10 (by decide) rfl q_847 (Or.inl rfl) dX8_mix_120 (fun r76 => ?_)
            refine call_V hC (av := []) (st := [va_rf (some a0)]) (r := r76) (ci := 1) rfl rfl (fun h9 => ct_Jx4a65c_size_8abf5 hC.hl G h9 σ75) q_890 q_891 q_892 q_47 q_893 yd_Jx4a65c_size_8abf5 rfl ⟨Nat.le_of_ble_eq_true rfl, Nat.le_of_ble_eq_true rfl⟩ ⟨by omega, by omega⟩ rfl (by simp [cat_rf, cat_i, cat_j, cat_d, cat_a]) dX8_mix_123 (fun v77 σ78 => ?_)
            show Wo _ _ _ _ _ _ _ _ _ _ [.int v77, va_rf (some a0)]
            refine r_bipush hC (16) (by decide) dX8_mix_126 ?_
            refine r_icmp_ne hC 135 dX8_mix_128 (by decide) ?_ ?_
            · refine r_iconst hC (0) rfl dX8_mix_135 ?_
              refine Wo.sub [2, 4, 6, 1, 0] rfl ?_
              exact t_X8_mix_136 hC a0 x40_2 x40_4 r11 r15 0 (some a0) σ78 _ _ ⟨by omega, by omega⟩
            · refine Wo.sub [2, 4, 6, 1, 0] rfl ?_
              exact t_X8_mix_131 hC a0 x40_2 x40_4 r11 r15 (some a0) σ78 _ _ ⟨by omega, by omega⟩
  · refine Wo.sub [] rfl ?_
    exact t_X8_mix_47 hC  σ8 _ _ ⟨by omega, by omega⟩

set_option maxRecDepth 100000 in
set_option maxHeartbeats 4000000 in
theorem t_X8_mix_22 {C : Cxt} {G : Glb} (hC : CX C G RX8 cX8_mix 9 (some .int) 7 5 47 149) (a0 : Nat) (x22_1 : Int32) (x22_2 : Int32) (x22_3 : Int32) (x22_4 : Int32) (y22_0 : Int32) (y22_1 : (Option Nat)) (σ : Mem) (kc ks : Nat) (hN : kc + 5 ≤ 5 ∧ ks + 47 ≤ 47) : Wo C G 9 (QP C G rvI 5 47) (b_X8_mix_22 G.2.2.2.1 G.2.2.2.2  a0 x22_1 x22_2 x22_3 x22_4 y22_0 y22_1 σ) σ kc ks 22 [(0, va_rf (some a0)), (1, .int x22_1), (2, .int x22_2), (3, .int x22_3), (4, .int x22_4)] [.int y22_0, va_rf y22_1] := by
  unfold b_X8_mix_22
  refine r_iconst hC (1) rfl dX8_mix_22 ?_
  refine call_V hC (av := [.int y22_0, .int 1]) (st := []) (r := y22_1) (ci := 10) rfl rfl (fun h9 => ct_X8_start hC.hl G h9 y22_0 1 σ) q_882 q_884 q_12 q_44 q_885 yd_X8_start rfl ⟨Nat.le_of_ble_eq_true rfl, Nat.le_of_ble_eq_true rfl⟩ ⟨by omega, by omega⟩ rfl (Nat.le_of_ble_eq_true rfl) dX8_mix_23 (fun v4 σ5 => ?_)
  show Wo _ _ _ _ _ _ _ _ _ _ [.int v4]
  refine r_if_ne hC 47 dX8_mix_26 (by decide) ?_ ?_
  · refine Wo.sub [] rfl ?_
    exact t_X8_mix_47 hC  σ5 _ _ ⟨by omega, by omega⟩
  · refine r_aloadn hC 0 (r := (some a0)) rfl rfl dX8_mix_29 ?_
    refine r_iloadn hC 1 rfl rfl dX8_mix_30 ?_
    refine r_iloadn hC 3 rfl rfl dX8_mix_31 ?_
    refine r_icmp_ne hC 39 dX8_mix_32 (by decide) ?_ ?_
    · refine r_iconst hC (0) rfl dX8_mix_39 ?_
      exact t_X8_mix_40 hC a0 x22_1 x22_2 x22_3 x22_4 0 (some a0) σ5 _ _ ⟨by omega, by omega⟩
    · refine r_iconst hC (1) rfl dX8_mix_35 ?_
      refine r_goto hC 40 dX8_mix_36 (by decide) ?_
      exact t_X8_mix_40 hC a0 x22_1 x22_2 x22_3 x22_4 1 (some a0) σ5 _ _ ⟨by omega, by omega⟩

set_option maxRecDepth 100000 in
set_option maxHeartbeats 4000000 in
theorem t_X8_mix_17 {C : Cxt} {G : Glb} (hC : CX C G RX8 cX8_mix 9 (some .int) 7 5 47 149) (a0 : Nat) (x17_1 : Int32) (x17_2 : Int32) (x17_3 : Int32) (x17_4 : Int32) (y17_0 : (Option Nat)) (σ : Mem) (kc ks : Nat) (hN : kc + 5 ≤ 5 ∧ ks + 47 ≤ 47) : Wo C G 9 (QP C G rvI 5 47) (b_X8_mix_17 G.2.2.2.1 G.2.2.2.2  a0 x17_1 x17_2 x17_3 x17_4 y17_0 σ) σ kc ks 17 [(0, va_rf (some a0)), (1, .int x17_1), (2, .int x17_2), (3, .int x17_3), (4, .int x17_4)] [va_rf y17_0] := by
  unfold b_X8_mix_17
  refine r_iconst hC (1) rfl dX8_mix_17 ?_
  refine r_goto hC 22 dX8_mix_18 (by decide) ?_
  exact t_X8_mix_22 hC a0 x17_1 x17_2 x17_3 x17_4 1 y17_0 σ _ _ ⟨by omega, by omega⟩

set_option maxRecDepth 100000 in
set_option maxHeartbeats 4000000 in
theorem t_X8_mix_0 {C : Cxt} {G : Glb} (hC : CX C G RX8 cX8_mix 9 (some .int) 7 5 47 149) (a0 : Nat) (p0 : Int32) (p1 : Int32) (p2 : Int32) (p3 : Int32) (σ : Mem) (kc ks : Nat) (hN : kc + 5 ≤ 5 ∧ ks + 47 ≤ 47) : Wo C G 9 (QP C G rvI 5 47) (b_X8_mix_0 G.2.2.2.1 G.2.2.2.2  a0 p0 p1 p2 p3 σ) σ kc ks 0 [(0, va_rf (some a0)), (1, .int p0), (2, .int p1), (3, .int p2), (4, .int p3)] [] := by
  unfold b_X8_mix_0
  refine r_aloadn hC 0 (r := (some a0)) rfl rfl dX8_mix_0 ?_
  refine r_aloadn hC 0 (r := (some a0)) rfl rfl dX8_mix_1 ?_
  refine r_iloadn hC 1 rfl rfl dX8_mix_2 ?_
  refine call_V hC (av := [.int p0]) (st := [va_rf (some a0)]) (r := (some a0)) (ci := 10) rfl rfl (fun h9 => ct_X8_isNoLot hC.hl G h9 p0 σ) q_1165 q_1167 q_19 q_44 q_1168 yd_X8_isNoLot rfl ⟨Nat.le_of_ble_eq_true rfl, Nat.le_of_ble_eq_true rfl⟩ ⟨by omega, by omega⟩ rfl (by simp [cat_rf, cat_i, cat_j, cat_d, cat_a]) dX8_mix_3 (fun v1 σ2 => ?_)
  show Wo _ _ _ _ _ _ _ _ _ _ [.int v1, va_rf (some a0)]
  refine r_if_ne hC 17 dX8_mix_6 (by decide) ?_ ?_
  · exact t_X8_mix_17 hC a0 p0 p1 p2 p3 (some a0) σ2 _ _ ⟨by omega, by omega⟩
  · refine r_aloadn hC 0 (r := (some a0)) rfl rfl dX8_mix_9 ?_
    refine r_iloadn hC 3 rfl rfl dX8_mix_10 ?_
    refine call_V hC (av := [.int p2]) (st := [va_rf (some a0)]) (r := (some a0)) (ci := 10) rfl rfl (fun h9 => ct_X8_isNoLot hC.hl G h9 p2 σ2) q_1165 q_1167 q_19 q_44 q_1168 yd_X8_isNoLot rfl ⟨Nat.le_of_ble_eq_true rfl, Nat.le_of_ble_eq_true rfl⟩ ⟨by omega, by omega⟩ rfl (by simp [cat_rf, cat_i, cat_j, cat_d, cat_a]) dX8_mix_11 (fun v80 σ81 => ?_)
    show Wo _ _ _ _ _ _ _ _ _ _ [.int v80, va_rf (some a0)]
    refine r_if_eq hC 21 dX8_mix_14 (by decide) ?_ ?_
    · refine r_iconst hC (0) rfl dX8_mix_21 ?_
      exact t_X8_mix_22 hC a0 p0 p1 p2 p3 0 (some a0) σ81 _ _ ⟨by omega, by omega⟩
    · exact t_X8_mix_17 hC a0 p0 p1 p2 p3 (some a0) σ81 _ _ ⟨by omega, by omega⟩

set_option maxRecDepth 100000 in
set_option maxHeartbeats 4000000 in
theorem ct_X8_mix {l : Launch} (hl : l.stackTraces = false) (G : Glb) (a0 : Nat) (p0 : Int32) (p1 : Int32) (p2 : Int32) (p3 : Int32) (σ : Mem) : Ct rvI l yX8_mix (Cond.code yX8_mix cX8_mix 9 (some .int) :: uW) { frames := 7, cells := 5, slots := 47, locals := 149 } 5 47 G [.ref a0, .int p0, .int p1, .int p2, .int p3] σ (f_X8_mix G.2.2.2.1 G.2.2.2.2 a0 p0 p1 p2 p3 σ) := by
  refine Ct.of hl (by decide +kernel) (Nat.le_of_ble_eq_true rfl) (fun C hC hin => ?_)
  have e : lv_args 0 [.ref a0, .int p0, .int p1, .int p2, .int p3] = [(0, .ref a0), (1, .int p0), (2, .int p1), (3, .int p2), (4, .int p3)] := rfl
  rw [e]
  exact t_X8_mix_0 hC a0 p0 p1 p2 p3 σ 0 0 ⟨Nat.le_of_ble_eq_true rfl, Nat.le_of_ble_eq_true rfl⟩

noncomputable def b_X8_isNoTaster_14 (y14_0 : Int32) (σ : Mem) : Option ((Int32) × Mem) :=
bo y14_0 (some (y14_0, σ))

noncomputable def b_X8_isNoTaster_0 (p0 : Int32) (σ : Mem) : Option ((Int32) × Mem) :=
cl1 (f_X8_isIn p0 0 2 σ) fun v1 σ2 =>
if v1 = 0 then
b_X8_isNoTaster_14 1 σ2
else
b_X8_isNoTaster_14 0 σ2

noncomputable def f_X8_isNoTaster (p0 : Int32) (σ : Mem) : Option ((Int32) × Mem) := b_X8_isNoTaster_0 p0 σ
set_option maxRecDepth 100000 in
set_option maxHeartbeats 4000000 in
theorem t_X8_isNoTaster_14 {C : Cxt} {G : Glb} (hC : CX C G RX8 cX8_isNoTaster 1 (some .boolean) 1 0 0 22) (y14_0 : Int32) (σ : Mem) : Wo C G 1 (QP C G rvI 0 0) (b_X8_isNoTaster_14  y14_0 σ) σ 0 0 14 [] [.int y14_0] := by
  unfold b_X8_isNoTaster_14
  exact e_B hC ⟨Nat.zero_le _, Nat.zero_le _⟩ dX8_isNoTaster_14

set_option maxRecDepth 100000 in
set_option maxHeartbeats 4000000 in
theorem t_X8_isNoTaster_0 {C : Cxt} {G : Glb} (hC : CX C G RX8 cX8_isNoTaster 1 (some .boolean) 1 0 0 22) (p0 : Int32) (σ : Mem) : Wo C G 1 (QP C G rvI 0 0) (b_X8_isNoTaster_0  p0 σ) σ 0 0 0 [(0, .int p0)] [] := by
  unfold b_X8_isNoTaster_0
  refine r_iloadn hC 0 rfl rfl dX8_isNoTaster_0 ?_
  refine r_iconst hC (0) rfl dX8_isNoTaster_1 ?_
  refine r_iconst hC (2) rfl dX8_isNoTaster_2 ?_
  refine call_S hC (av := [.int p0, .int 0, .int 2]) (st := []) (ct_X8_isIn hC.hl G p0 0 2 σ) q_879 q_880 q_44 q_881 yd_X8_isIn rfl ⟨Nat.le_of_ble_eq_true rfl, Nat.le_of_ble_eq_true rfl⟩ ⟨Nat.zero_le _, Nat.zero_le _⟩ rfl (Nat.le_of_ble_eq_true rfl) dX8_isNoTaster_3 (fun v1 σ2 => ?_)
  show Wo _ _ _ _ _ _ _ _ _ _ [.int v1]
  refine r_if_ne hC 13 dX8_isNoTaster_6 (by decide) ?_ ?_
  · refine r_iconst hC (0) rfl dX8_isNoTaster_13 ?_
    refine Wo.sub [] rfl ?_
    exact t_X8_isNoTaster_14 hC 0 σ2
  · refine r_iconst hC (1) rfl dX8_isNoTaster_9 ?_
    refine r_goto hC 14 dX8_isNoTaster_10 (by decide) ?_
    refine Wo.sub [] rfl ?_
    exact t_X8_isNoTaster_14 hC 1 σ2

set_option maxRecDepth 100000 in
set_option maxHeartbeats 4000000 in
theorem ct_X8_isNoTaster {l : Launch} (hl : l.stackTraces = false) (G : Glb) (p0 : Int32) (σ : Mem) : Ct rvI l yX8_isNoTaster (Cond.code yX8_isNoTaster cX8_isNoTaster 1 (some .boolean) :: uW) { frames := 1, cells := 0, slots := 0, locals := 22 } 0 0 G [.int p0] σ (f_X8_isNoTaster p0 σ) := by
  refine Ct.of hl (by decide +kernel) (Nat.le_of_ble_eq_true rfl) (fun C hC hin => ?_)
  have e : lv_args 0 [.int p0] = [(0, .int p0)] := rfl
  rw [e]
  exact t_X8_isNoTaster_0 hC p0 σ

noncomputable def b_X8_isNoBuyer_14 (y14_0 : Int32) (σ : Mem) : Option ((Int32) × Mem) :=
bo y14_0 (some (y14_0, σ))

noncomputable def b_X8_isNoBuyer_0 (p0 : Int32) (σ : Mem) : Option ((Int32) × Mem) :=
cl1 (f_X8_isIn p0 0 3 σ) fun v1 σ2 =>
if v1 = 0 then
b_X8_isNoBuyer_14 1 σ2
else
b_X8_isNoBuyer_14 0 σ2

noncomputable def f_X8_isNoBuyer (p0 : Int32) (σ : Mem) : Option ((Int32) × Mem) := b_X8_isNoBuyer_0 p0 σ
set_option maxRecDepth 100000 in
set_option maxHeartbeats 4000000 in
theorem t_X8_isNoBuyer_14 {C : Cxt} {G : Glb} (hC : CX C G RX8 cX8_isNoBuyer 1 (some .boolean) 1 0 0 22) (y14_0 : Int32) (σ : Mem) : Wo C G 1 (QP C G rvI 0 0) (b_X8_isNoBuyer_14  y14_0 σ) σ 0 0 14 [] [.int y14_0] := by
  unfold b_X8_isNoBuyer_14
  exact e_B hC ⟨Nat.zero_le _, Nat.zero_le _⟩ dX8_isNoBuyer_14

set_option maxRecDepth 100000 in
set_option maxHeartbeats 4000000 in
theorem t_X8_isNoBuyer_0 {C : Cxt} {G : Glb} (hC : CX C G RX8 cX8_isNoBuyer 1 (some .boolean) 1 0 0 22) (p0 : Int32) (σ : Mem) : Wo C G 1 (QP C G rvI 0 0) (b_X8_isNoBuyer_0  p0 σ) σ 0 0 0 [(0, .int p0)] [] := by
  unfold b_X8_isNoBuyer_0
  refine r_iloadn hC 0 rfl rfl dX8_isNoBuyer_0 ?_
  refine r_iconst hC (0) rfl dX8_isNoBuyer_1 ?_
  refine r_iconst hC (3) rfl dX8_isNoBuyer_2 ?_
  refine call_S hC (av := [.int p0, .int 0, .int 3]) (st := []) (ct_X8_isIn hC.hl G p0 0 3 σ) q_879 q_880 q_44 q_881 yd_X8_isIn rfl ⟨Nat.le_of_ble_eq_true rfl, Nat.le_of_ble_eq_true rfl⟩ ⟨Nat.zero_le _, Nat.zero_le _⟩ rfl (Nat.le_of_ble_eq_true rfl) dX8_isNoBuyer_3 (fun v1 σ2 => ?_)
  show Wo _ _ _ _ _ _ _ _ _ _ [.int v1]
  refine r_if_ne hC 13 dX8_isNoBuyer_6 (by decide) ?_ ?_
  · refine r_iconst hC (0) rfl dX8_isNoBuyer_13 ?_
    refine Wo.sub [] rfl ?_
    exact t_X8_isNoBuyer_14 hC 0 σ2
  · refine r_iconst hC (1) rfl dX8_isNoBuyer_9 ?_
    refine r_goto hC 14 dX8_isNoBuyer_10 (by decide) ?_
    refine Wo.sub [] rfl ?_
    exact t_X8_isNoBuyer_14 hC 1 σ2

set_option maxRecDepth 100000 in
set_option maxHeartbeats 4000000 in
theorem ct_X8_isNoBuyer {l : Launch} (hl : l.stackTraces = false) (G : Glb) (p0 : Int32) (σ : Mem) : Ct rvI l yX8_isNoBuyer (Cond.code yX8_isNoBuyer cX8_isNoBuyer 1 (some .boolean) :: uW) { frames := 1, cells := 0, slots := 0, locals := 22 } 0 0 G [.int p0] σ (f_X8_isNoBuyer p0 σ) := by
  refine Ct.of hl (by decide +kernel) (Nat.le_of_ble_eq_true rfl) (fun C hC hin => ?_)
  have e : lv_args 0 [.int p0] = [(0, .int p0)] := rfl
  rw [e]
  exact t_X8_isNoBuyer_0 hC p0 σ

noncomputable def b_X8_lean_35 (σ : Mem) : Option ((Int32) × Mem) :=
some (0, σ)

noncomputable def b_X8_lean_28 (a0 : Nat) (x28_1 : Int32) (x28_2 : Int32) (y28_0 : Int32) (y28_1 : (Option Nat)) (σ : Mem) : Option ((Int32) × Mem) :=
ob 10 σ y28_1 fun h10 => cl1 (f_X8_refuse h10 y28_0 2 σ) fun v8 σ9 =>
if v8 = 0 then
gR 10 8 σ9 (some a0) fun r11 =>
aR 5 σ9 r11 x28_1 fun r12 =>
gI 9 0 σ9 r12 fun v13 =>
gR 10 8 σ9 (some a0) fun r14 =>
aR 5 σ9 r14 x28_1 fun r15 =>
pI 9 0 σ9 r15 x28_2 fun σ16 =>
some (v13, σ16)
else
b_X8_lean_35 σ9

noncomputable def b_X8_lean_0 (a0 : Nat) (p0 : Int32) (p1 : Int32) (σ : Mem) : Option ((Int32) × Mem) :=
cl1 (f_X8_isNoTaster p0 σ) fun v1 σ2 =>
ob 10 σ2 (some a0) fun h5 => cl1 (f_X8_start h5 v1 1 σ2) fun v3 σ4 =>
if v3 = 0 then
cl1 (f_X8_isIn p1 (-2) 2 σ4) fun v6 σ7 =>
if v6 = 0 then
b_X8_lean_28 a0 p0 p1 1 (some a0) σ7
else
b_X8_lean_28 a0 p0 p1 0 (some a0) σ7
else
b_X8_lean_35 σ4

noncomputable def f_X8_lean (a0 : Nat) (p0 : Int32) (p1 : Int32) (σ : Mem) : Option ((Int32) × Mem) := b_X8_lean_0 a0 p0 p1 σ
set_option maxRecDepth 100000 in
set_option maxHeartbeats 4000000 in
theorem t_X8_lean_35 {C : Cxt} {G : Glb} (hC : CX C G RX8 cX8_lean 4 (some .int) 2 0 0 44) (σ : Mem) : Wo C G 4 (QP C G rvI 0 0) (b_X8_lean_35   σ) σ 0 0 35 [] [] := by
  unfold b_X8_lean_35
  refine r_iconst hC (0) rfl dX8_lean_35 ?_
  exact e_I hC ⟨Nat.zero_le _, Nat.zero_le _⟩ dX8_lean_36

set_option maxRecDepth 100000 in
set_option maxHeartbeats 4000000 in
theorem t_X8_lean_28 {C : Cxt} {G : Glb} (hC : CX C G RX8 cX8_lean 4 (some .int) 2 0 0 44) (a0 : Nat) (x28_1 : Int32) (x28_2 : Int32) (y28_0 : Int32) (y28_1 : (Option Nat)) (σ : Mem) : Wo C G 4 (QP C G rvI 0 0) (b_X8_lean_28  a0 x28_1 x28_2 y28_0 y28_1 σ) σ 0 0 28 [(0, va_rf (some a0)), (1, .int x28_1), (2, .int x28_2)] [.int y28_0, va_rf y28_1] := by
  unfold b_X8_lean_28
  refine r_iconst hC (2) rfl dX8_lean_28 ?_
  refine call_V hC (av := [.int y28_0, .int 2]) (st := []) (r := y28_1) (ci := 10) rfl rfl (fun h9 => ct_X8_refuse hC.hl G h9 y28_0 2 σ) q_886 q_888 q_13 q_44 q_889 yd_X8_refuse rfl ⟨Nat.le_of_ble_eq_true rfl, Nat.le_of_ble_eq_true rfl⟩ ⟨Nat.zero_le _, Nat.zero_le _⟩ rfl (Nat.le_of_ble_eq_true rfl) dX8_lean_29 (fun v8 σ9 => ?_)
  show Wo _ _ _ _ _ _ _ _ _ _ [.int v8]
  refine r_if_eq hC 37 dX8_lean_32 (by decide) ?_ ?_
  · refine r_aloadn hC 0 (r := (some a0)) rfl rfl dX8_lean_37 ?_
    refine r_gR hC (k := 8) (r := (some a0)) cls_10 (by decide) rfl q_848 (Or.inl rfl) dX8_lean_38 (fun r11 => ?_)
    refine r_iloadn hC 1 rfl rfl dX8_lean_41 ?_
    refine r_aR hC (t := 5) (r := r11) rfl rfl dX8_lean_42 (fun r12 => ?_)
    refine r_gI hC (k := 0) (r := r12) cls_9 (by decide) rfl q_828 (Or.inl rfl) dX8_lean_43 (fun v13 => ?_)
    refine r_istoren hC [(3, .int v13), (0, va_rf (some a0)), (1, .int x28_1), (2, .int x28_2)] (i := 3) rfl (by decide) rfl dX8_lean_46 ?_
    refine r_aloadn hC 1 (r := (some a0)) rfl rfl dX8_lean_47 ?_
    refine r_gR hC (k := 8) (r := (some a0)) cls_10 (by decide) rfl q_848 (Or.inl rfl) dX8_lean_48 (fun r14 => ?_)
    refine r_iloadn hC 2 rfl rfl dX8_lean_51 ?_
    refine r_aR hC (t := 5) (r := r14) rfl rfl dX8_lean_52 (fun r15 => ?_)
    refine r_iloadn hC 3 rfl rfl dX8_lean_53 ?_
    refine r_pI hC (k := 0) (r := r15) cls_9 (by decide) rfl q_828 (Or.inl rfl) (Or.inl rfl) dX8_lean_54 (fun σ16 => ?_)
    refine r_iloadn hC 0 rfl rfl dX8_lean_57 ?_
    exact e_I hC ⟨Nat.zero_le _, Nat.zero_le _⟩ dX8_lean_58
  · refine Wo.sub [] rfl ?_
    exact t_X8_lean_35 hC  σ9

set_option maxRecDepth 100000 in
set_option maxHeartbeats 4000000 in
theorem t_X8_lean_0 {C : Cxt} {G : Glb} (hC : CX C G RX8 cX8_lean 4 (some .int) 2 0 0 44) (a0 : Nat) (p0 : Int32) (p1 : Int32) (σ : Mem) : Wo C G 4 (QP C G rvI 0 0) (b_X8_lean_0  a0 p0 p1 σ) σ 0 0 0 [(0, va_rf (some a0)), (1, .int p0), (2, .int p1)] [] := by
  unfold b_X8_lean_0
  refine r_aloadn hC 0 (r := (some a0)) rfl rfl dX8_lean_0 ?_
  refine r_iloadn hC 1 rfl rfl dX8_lean_1 ?_
  refine call_S hC (av := [.int p0]) (st := [va_rf (some a0)]) (ct_X8_isNoTaster hC.hl G p0 σ) q_1279 q_1280 q_44 q_1281 yd_X8_isNoTaster rfl ⟨Nat.le_of_ble_eq_true rfl, Nat.le_of_ble_eq_true rfl⟩ ⟨Nat.zero_le _, Nat.zero_le _⟩ rfl (by simp [cat_rf, cat_i, cat_j, cat_d, cat_a]) dX8_lean_2 (fun v1 σ2 => ?_)
  show Wo _ _ _ _ _ _ _ _ _ _ [.int v1, va_rf (some a0)]
  refine r_iconst hC (1) rfl dX8_lean_5 ?_
  refine call_V hC (av := [.int v1, .int 1]) (st := []) (r := (some a0)) (ci := 10) rfl rfl (fun h9 => ct_X8_start hC.hl G h9 v1 1 σ2) q_882 q_884 q_12 q_44 q_885 yd_X8_start rfl ⟨Nat.le_of_ble_eq_true rfl, Nat.le_of_ble_eq_true rfl⟩ ⟨Nat.zero_le _, Nat.zero_le _⟩ rfl (Nat.le_of_ble_eq_true rfl) dX8_lean_6 (fun v3 σ4 => ?_)
  show Wo _ _ _ _ _ _ _ _ _ _ [.int v3]
  refine r_if_ne hC 35 dX8_lean_9 (by decide) ?_ ?_
  · refine Wo.sub [] rfl ?_
    exact t_X8_lean_35 hC  σ4
  · refine r_aloadn hC 0 (r := (some a0)) rfl rfl dX8_lean_12 ?_
    refine r_iloadn hC 2 rfl rfl dX8_lean_13 ?_
    refine r_bipush hC (-2) (by decide) dX8_lean_14 ?_
    refine r_iconst hC (2) rfl dX8_lean_16 ?_
    refine call_S hC (av := [.int p1, .int (-2), .int 2]) (st := [va_rf (some a0)]) (ct_X8_isIn hC.hl G p1 (-2) 2 σ4) q_879 q_880 q_44 q_881 yd_X8_isIn rfl ⟨Nat.le_of_ble_eq_true rfl, Nat.le_of_ble_eq_true rfl⟩ ⟨Nat.zero_le _, Nat.zero_le _⟩ rfl (by simp [cat_rf, cat_i, cat_j, cat_d, cat_a]) dX8_lean_17 (fun v6 σ7 => ?_)
    show Wo _ _ _ _ _ _ _ _ _ _ [.int v6, va_rf (some a0)]
    refine r_if_ne hC 27 dX8_lean_20 (by decide) ?_ ?_
    · refine r_iconst hC (0) rfl dX8_lean_27 ?_
      exact t_X8_lean_28 hC a0 p0 p1 0 (some a0) σ7
    · refine r_iconst hC (1) rfl dX8_lean_23 ?_
      refine r_goto hC 28 dX8_lean_24 (by decide) ?_
      exact t_X8_lean_28 hC a0 p0 p1 1 (some a0) σ7

set_option maxRecDepth 100000 in
set_option maxHeartbeats 4000000 in
theorem ct_X8_lean {l : Launch} (hl : l.stackTraces = false) (G : Glb) (a0 : Nat) (p0 : Int32) (p1 : Int32) (σ : Mem) : Ct rvI l yX8_lean (Cond.code yX8_lean cX8_lean 4 (some .int) :: uW) { frames := 2, cells := 0, slots := 0, locals := 44 } 0 0 G [.ref a0, .int p0, .int p1] σ (f_X8_lean a0 p0 p1 σ) := by
  refine Ct.of hl (by decide +kernel) (Nat.le_of_ble_eq_true rfl) (fun C hC hin => ?_)
  have e : lv_args 0 [.ref a0, .int p0, .int p1] = [(0, .ref a0), (1, .int p0), (2, .int p1)] := rfl
  rw [e]
  exact t_X8_lean_0 hC a0 p0 p1 σ

noncomputable def b_X8_repeat_50 (σ : Mem) : Option ((Int32) × Mem) :=
some (0, σ)

noncomputable def b_X8_repeat_62 (k62 : Nat → Int32 → (Option Nat) → Int32 → Mem → Option ((Int32) × Mem)) (a0 : Nat) (x62_2 : Int32) (x62_3 : (Option Nat)) (x62_4 : Int32) (σ : Mem) : Option ((Int32) × Mem) :=
if 3 ≤ x62_4 then
gI 9 2 σ x62_3 fun v14 =>
nm (v14 + 1) fun v15 =>
pI 9 2 σ x62_3 v15 fun σ16 =>
ob 9 σ16 x62_3 fun h19 => cl1 (f_X7_guess h19 σ16) fun v17 σ18 =>
some (v17, σ18)
else
gI 9 1 σ x62_3 fun v20 =>
gR 10 7 σ (some a0) fun r21 =>
ob 1 σ r21 fun h24 => cl1 (f_Jx4a65c_get_915e3 h24 x62_2 σ) fun r22 σ23 =>
ck 8 σ23 r22 <|
ob 7 σ23 r22 fun h27 => cl1 (f_X5_note h27 x62_4 σ23) fun v25 σ26 =>
ob 9 σ26 x62_3 fun h30 => cl1 (f_X7_tells h30 v25 σ26) fun v28 σ29 =>
gR 10 7 σ29 (some a0) fun r31 =>
ob 1 σ29 r31 fun h34 => cl1 (f_Jx4a65c_get_915e3 h34 x62_2 σ29) fun r32 σ33 =>
ck 8 σ33 r32 <|
ob 7 σ33 r32 fun h37 => cl1 (f_X5_note h37 x62_4 σ33) fun v35 σ36 =>
nm (v28 - v35) fun v38 =>
nm (v20 + v38) fun v39 =>
pI 9 1 σ36 x62_3 v39 fun σ40 =>
nm (x62_4 + 1) fun v41 =>
k62 a0 x62_2 x62_3 v41 σ40

noncomputable def l_X8_repeat_62 (n : Nat) : Nat → Int32 → (Option Nat) → Int32 → Mem → Option ((Int32) × Mem) := itr (fun _ _ _ _ _ => none) (fun k => b_X8_repeat_62  k) n

noncomputable def b_X8_repeat_43 (a0 : Nat) (x43_1 : Int32) (x43_2 : Int32) (y43_0 : Int32) (y43_1 : (Option Nat)) (σ : Mem) : Option ((Int32) × Mem) :=
ob 10 σ y43_1 fun h11 => cl1 (f_X8_refuse h11 y43_0 2 σ) fun v9 σ10 =>
if v9 = 0 then
gR 10 8 σ10 (some a0) fun r12 =>
aR 5 σ10 r12 x43_1 fun r13 =>
l_X8_repeat_62 40 a0 x43_2 r13 0 σ10
else
b_X8_repeat_50 σ10

noncomputable def b_X8_repeat_21 (a0 : Nat) (x21_1 : Int32) (x21_2 : Int32) (y21_0 : Int32) (y21_1 : (Option Nat)) (σ : Mem) : Option ((Int32) × Mem) :=
ob 10 σ y21_1 fun h5 => cl1 (f_X8_start h5 y21_0 1 σ) fun v3 σ4 =>
if v3 = 0 then
ob 10 σ4 (some a0) fun h8 => cl1 (f_X8_isState h8 x21_2 2 σ4) fun v6 σ7 =>
if v6 = 0 then
b_X8_repeat_43 a0 x21_1 x21_2 1 (some a0) σ7
else
b_X8_repeat_43 a0 x21_1 x21_2 0 (some a0) σ7
else
b_X8_repeat_50 σ4

noncomputable def b_X8_repeat_16 (a0 : Nat) (x16_1 : Int32) (x16_2 : Int32) (y16_0 : (Option Nat)) (σ : Mem) : Option ((Int32) × Mem) :=
b_X8_repeat_21 a0 x16_1 x16_2 1 y16_0 σ

noncomputable def b_X8_repeat_0 (a0 : Nat) (p0 : Int32) (p1 : Int32) (σ : Mem) : Option ((Int32) × Mem) :=
cl1 (f_X8_isNoTaster p0 σ) fun v1 σ2 =>
if v1 = 0 then
ob 10 σ2 (some a0) fun h44 => cl1 (f_X8_isNoLot h44 p1 σ2) fun v42 σ43 =>
if v42 = 0 then
b_X8_repeat_21 a0 p0 p1 0 (some a0) σ43
else
b_X8_repeat_16 a0 p0 p1 (some a0) σ43
else
b_X8_repeat_16 a0 p0 p1 (some a0) σ2

noncomputable def f_X8_repeat (a0 : Nat) (p0 : Int32) (p1 : Int32) (σ : Mem) : Option ((Int32) × Mem) := b_X8_repeat_0 a0 p0 p1 σ
set_option maxRecDepth 100000 in
set_option maxHeartbeats 4000000 in
theorem t_X8_repeat_50 {C : Cxt} {G : Glb} (hC : CX C G RX8 cX8_repeat 5 (some .int) 4 0 0 86) (σ : Mem) : Wo C G 5 (QP C G rvI 0 0) (b_X8_repeat_50   σ) σ 0 0 50 [] [] := by
  unfold b_X8_repeat_50
  refine r_iconst hC (0) rfl dX8_repeat_50 ?_
  exact e_I hC ⟨Nat.zero_le _, Nat.zero_le _⟩ dX8_repeat_51

set_option maxRecDepth 100000 in
set_option maxHeartbeats 4000000 in
theorem t_X8_repeat_62 {C : Cxt} {G : Glb} (hC : CX C G RX8 cX8_repeat 5 (some .int) 4 0 0 86) (k62 : Nat → Int32 → (Option Nat) → Int32 → Mem → Option ((Int32) × Mem)) (hk62 : ∀ (a0 : Nat) (x62_2 : Int32) (x62_3 : (Option Nat)) (x62_4 : Int32) (σ : Mem), Wo C G 5 (QP C G rvI 0 0) (k62 a0 x62_2 x62_3 x62_4 σ) σ 0 0 62 [(0, va_rf (some a0)), (2, .int x62_2), (3, va_rf x62_3), (4, .int x62_4)] []) (a0 : Nat) (x62_2 : Int32) (x62_3 : (Option Nat)) (x62_4 : Int32) (σ : Mem) : Wo C G 5 (QP C G rvI 0 0) (b_X8_repeat_62 k62 a0 x62_2 x62_3 x62_4 σ) σ 0 0 62 [(0, va_rf (some a0)), (2, .int x62_2), (3, va_rf x62_3), (4, .int x62_4)] [] := by
  unfold b_X8_repeat_62
  refine r_iload hC 3 rfl dX8_repeat_62 ?_
  refine r_iconst hC (3) rfl dX8_repeat_64 ?_
  refine r_icmp_ge hC 120 dX8_repeat_65 (by decide) ?_ ?_
  · refine r_aloadn hC 2 (r := x62_3) rfl rfl dX8_repeat_120 ?_
    refine r_dup hC (cat_rf _) dX8_repeat_121 ?_
    refine r_gI hC (k := 2) (r := x62_3) cls_9 (by decide) rfl q_832 (Or.inl rfl) dX8_repeat_122 (fun v14 => ?_)
    refine r_iconst hC (1) rfl dX8_repeat_125 ?_
    refine r_iadd hC dX8_repeat_126 (fun v15 => ?_)
    refine r_pI hC (k := 2) (r := x62_3) cls_9 (by decide) rfl q_832 (Or.inl rfl) (Or.inl rfl) dX8_repeat_127 (fun σ16 => ?_)
    refine r_aloadn hC 2 (r := x62_3) rfl rfl dX8_repeat_130 ?_
    refine call_V hC (av := []) (st := []) (r := x62_3) (ci := 9) rfl rfl (fun h9 => ct_X7_guess hC.hl G h9 σ16) q_1291 q_1292 q_1293 q_48 q_1294 yd_X7_guess rfl ⟨Nat.le_of_ble_eq_true rfl, Nat.le_of_ble_eq_true rfl⟩ ⟨Nat.zero_le _, Nat.zero_le _⟩ rfl (Nat.le_of_ble_eq_true rfl) dX8_repeat_131 (fun v17 σ18 => ?_)
    show Wo _ _ _ _ _ _ _ _ _ _ [.int v17]
    exact e_I hC ⟨Nat.zero_le _, Nat.zero_le _⟩ dX8_repeat_134
  · refine r_aloadn hC 2 (r := x62_3) rfl rfl dX8_repeat_68 ?_
    refine r_dup hC (cat_rf _) dX8_repeat_69 ?_
    refine r_gI hC (k := 1) (r := x62_3) cls_9 (by decide) rfl q_830 (Or.inl rfl) dX8_repeat_70 (fun v20 => ?_)
    refine r_aloadn hC 2 (r := x62_3) rfl rfl dX8_repeat_73 ?_
    refine r_aloadn hC 0 (r := (some a0)) rfl rfl dX8_repeat_74 ?_
    refine r_gR hC (k := 7) (r := (some a0)) cls_10 (by decide) rfl q_847 (Or.inl rfl) dX8_repeat_75 (fun r21 => ?_)
    refine r_iloadn hC 1 rfl rfl dX8_repeat_78 ?_
    refine call_V hC (av := [.int x62_2]) (st := [va_rf x62_3, .int v20, va_rf x62_3]) (r := r21) (ci := 1) rfl rfl (fun h9 => ct_Jx4a65c_get_915e3 hC.hl G h9 x62_2 σ) q_1057 q_1058 q_1059 q_47 q_1060 yd_Jx4a65c_get_915e3 rfl ⟨Nat.le_of_ble_eq_true rfl, Nat.le_of_ble_eq_true rfl⟩ ⟨Nat.zero_le _, Nat.zero_le _⟩ rfl (by simp [cat_rf, cat_i, cat_j, cat_d, cat_a]) dX8_repeat_79 (fun r22 σ23 => ?_)
    show Wo _ _ _ _ _ _ _ _ _ _ [va_rf r22, va_rf x62_3, .int v20, va_rf x62_3]
    refine r_ckO hC (r := r22) cls_7 q_1087 dX8_repeat_82 ?_
    refine r_iload hC 3 rfl dX8_repeat_85 ?_
    refine call_V hC (av := [.int x62_4]) (st := [va_rf x62_3, .int v20, va_rf x62_3]) (r := r22) (ci := 7) rfl rfl (fun h9 => ct_X5_note hC.hl G h9 x62_4 σ23) q_1262 q_1263 q_1264 q_63 q_1265 yd_X5_note rfl ⟨Nat.le_of_ble_eq_true rfl, Nat.le_of_ble_eq_true rfl⟩ ⟨Nat.zero_le _, Nat.zero_le _⟩ rfl (by simp [cat_rf, cat_i, cat_j, cat_d, cat_a]) dX8_repeat_87 (fun v25 σ26 => ?_)
    show Wo _ _ _ _ _ _ _ _ _ _ [.int v25, va_rf x62_3, .int v20, va_rf x62_3]
    refine call_V hC (av := [.int v25]) (st := [.int v20, va_rf x62_3]) (r := x62_3) (ci := 9) rfl rfl (fun h9 => ct_X7_tells hC.hl G h9 v25 σ26) q_1286 q_1287 q_1288 q_48 q_1289 yd_X7_tells rfl ⟨Nat.le_of_ble_eq_true rfl, Nat.le_of_ble_eq_true rfl⟩ ⟨Nat.zero_le _, Nat.zero_le _⟩ rfl (by simp [cat_rf, cat_i, cat_j, cat_d, cat_a]) dX8_repeat_90 (fun v28 σ29 => ?_)
    show Wo _ _ _ _ _ _ _ _ _ _ [.int v28, .int v20, va_rf x62_3]
    refine r_aloadn hC 0 (r := (some a0)) rfl rfl dX8_repeat_93 ?_
    refine r_gR hC (k := 7) (r := (some a0)) cls_10 (by decide) rfl q_847 (Or.inl rfl) dX8_repeat_94 (fun r31 => ?_)
    refine r_iloadn hC 1 rfl rfl dX8_repeat_97 ?_
    refine call_V hC (av := [.int x62_2]) (st := [.int v28, .int v20, va_rf x62_3]) (r := r31) (ci := 1) rfl rfl (fun h9 => ct_Jx4a65c_get_915e3 hC.hl G h9 x62_2 σ29) q_1057 q_1058 q_1059 q_47 q_1060 yd_Jx4a65c_get_915e3 rfl ⟨Nat.le_of_ble_eq_true rfl, Nat.le_of_ble_eq_true rfl⟩ ⟨Nat.zero_le _, Nat.zero_le _⟩ rfl (by simp [cat_rf, cat_i, cat_j, cat_d, cat_a]) dX8_repeat_98 (fun r32 σ33 => ?_)
    show Wo _ _ _ _ _ _ _ _ _ _ [va_rf r32, .int v28, .int v20, va_rf x62_3]
    refine r_ckO hC (r := r32) cls_7 q_1087 dX8_repeat_101 ?_
    refine r_iload hC 3 rfl dX8_repeat_104 ?_
    refine call_V hC (av := [.int x62_4]) (st := [.int v28, .int v20, va_rf x62_3]) (r := r32) (ci := 7) rfl rfl (fun h9 => ct_X5_note hC.hl G h9 x62_4 σ33) q_1262 q_1263 q_1264 q_63 q_1265 yd_X5_note rfl ⟨Nat.le_of_ble_eq_true rfl, Nat.le_of_ble_eq_true rfl⟩ ⟨Nat.zero_le _, Nat.zero_le _⟩ rfl (by simp [cat_rf, cat_i, cat_j, cat_d, cat_a]) dX8_repeat_106 (fun v35 σ36 => ?_)
    show Wo _ _ _ _ _ _ _ _ _ _ [.int v35, .int v28, .int v20, va_rf x62_3]
    refine r_isub hC dX8_repeat_109 (fun v38 => ?_)
    refine r_iadd hC dX8_repeat_110 (fun v39 => ?_)
    refine r_pI hC (k := 1) (r := x62_3) cls_9 (by decide) rfl q_830 (Or.inl rfl) (Or.inl rfl) dX8_repeat_111 (fun σ40 => ?_)
    refine r_iinc hC 3 (fun w => [(4, .int w), (0, va_rf (some a0)), (2, .int x62_2), (3, va_rf x62_3)]) 1 rfl (by decide) rfl (fun w => by simp [List.filter, cat_rf, cat_i, cat_j, cat_d, cat_a]) dX8_repeat_114 (fun v41 => ?_)
    refine r_goto hC 62 dX8_repeat_117 (by decide) ?_
    refine Wo.sub [1, 2, 3, 0] rfl ?_
    exact hk62 a0 x62_2 x62_3 v41 σ40

set_option maxRecDepth 100000 in
set_option maxHeartbeats 4000000 in
theorem u_X8_repeat_62 {C : Cxt} {G : Glb} (hC : CX C G RX8 cX8_repeat 5 (some .int) 4 0 0 86) : ∀ (n : Nat) (a0 : Nat) (x62_2 : Int32) (x62_3 : (Option Nat)) (x62_4 : Int32) (σ : Mem), Wo C G 5 (QP C G rvI 0 0) (l_X8_repeat_62  n a0 x62_2 x62_3 x62_4 σ) σ 0 0 62 [(0, va_rf (some a0)), (2, .int x62_2), (3, va_rf x62_3), (4, .int x62_4)] [] := by
  intro n
  induction n with
  | zero => intro a0 x62_2 x62_3 x62_4 σ; exact Wo.none
  | succ n ih => intro a0 x62_2 x62_3 x62_4 σ; exact t_X8_repeat_62 hC (l_X8_repeat_62  n) ih a0 x62_2 x62_3 x62_4 σ

set_option maxRecDepth 100000 in
set_option maxHeartbeats 4000000 in
theorem t_X8_repeat_43 {C : Cxt} {G : Glb} (hC : CX C G RX8 cX8_repeat 5 (some .int) 4 0 0 86) (a0 : Nat) (x43_1 : Int32) (x43_2 : Int32) (y43_0 : Int32) (y43_1 : (Option Nat)) (σ : Mem) : Wo C G 5 (QP C G rvI 0 0) (b_X8_repeat_43  a0 x43_1 x43_2 y43_0 y43_1 σ) σ 0 0 43 [(0, va_rf (some a0)), (1, .int x43_1), (2, .int x43_2)] [.int y43_0, va_rf y43_1] := by
  unfold b_X8_repeat_43
  refine r_iconst hC (2) rfl dX8_repeat_43 ?_
  refine call_V hC (av := [.int y43_0, .int 2]) (st := []) (r := y43_1) (ci := 10) rfl rfl (fun h9 => ct_X8_refuse hC.hl G h9 y43_0 2 σ) q_886 q_888 q_13 q_44 q_889 yd_X8_refuse rfl ⟨Nat.le_of_ble_eq_true rfl, Nat.le_of_ble_eq_true rfl⟩ ⟨Nat.zero_le _, Nat.zero_le _⟩ rfl (Nat.le_of_ble_eq_true rfl) dX8_repeat_44 (fun v9 σ10 => ?_)
  show Wo _ _ _ _ _ _ _ _ _ _ [.int v9]
  refine r_if_eq hC 52 dX8_repeat_47 (by decide) ?_ ?_
  · refine r_aloadn hC 0 (r := (some a0)) rfl rfl dX8_repeat_52 ?_
    refine r_gR hC (k := 8) (r := (some a0)) cls_10 (by decide) rfl q_848 (Or.inl rfl) dX8_repeat_53 (fun r12 => ?_)
    refine r_iloadn hC 1 rfl rfl dX8_repeat_56 ?_
    refine r_aR hC (t := 5) (r := r12) rfl rfl dX8_repeat_57 (fun r13 => ?_)
    refine r_astoren hC [(3, va_rf r13), (0, va_rf (some a0)), (1, .int x43_1), (2, .int x43_2)] (r := r13) (i := 3) rfl (by decide) rfl dX8_repeat_58 ?_
    refine r_iconst hC (0) rfl dX8_repeat_59 ?_
    refine r_istore hC [(4, .int 0), (3, va_rf r13), (0, va_rf (some a0)), (1, .int x43_1), (2, .int x43_2)] (i := 4) (by decide) (by simp [List.filter, cat_rf, cat_i, cat_j, cat_d, cat_a]) dX8_repeat_60 ?_
    refine Wo.sub [2, 4, 1, 0] rfl ?_
    exact u_X8_repeat_62 hC 40 a0 x43_2 r13 0 σ10
  · refine Wo.sub [] rfl ?_
    exact t_X8_repeat_50 hC  σ10

set_option maxRecDepth 100000 in
set_option maxHeartbeats 4000000 in
theorem t_X8_repeat_21 {C : Cxt} {G : Glb} (hC : CX C G RX8 cX8_repeat 5 (some .int) 4 0 0 86) (a0 : Nat) (x21_1 : Int32) (x21_2 : Int32) (y21_0 : Int32) (y21_1 : (Option Nat)) (σ : Mem) : Wo C G 5 (QP C G rvI 0 0) (b_X8_repeat_21  a0 x21_1 x21_2 y21_0 y21_1 σ) σ 0 0 21 [(0, va_rf (some a0)), (1, .int x21_1), (2, .int x21_2)] [.int y21_0, va_rf y21_1] := by
  unfold b_X8_repeat_21
  refine r_iconst hC (1) rfl dX8_repeat_21 ?_
  refine call_V hC (av := [.int y21_0, .int 1]) (st := []) (r := y21_1) (ci := 10) rfl rfl (fun h9 => ct_X8_start hC.hl G h9 y21_0 1 σ) q_882 q_884 q_12 q_44 q_885 yd_X8_start rfl ⟨Nat.le_of_ble_eq_true rfl, Nat.le_of_ble_eq_true rfl⟩ ⟨Nat.zero_le _, Nat.zero_le _⟩ rfl (Nat.le_of_ble_eq_true rfl) dX8_repeat_22 (fun v3 σ4 => ?_)
  show Wo _ _ _ _ _ _ _ _ _ _ [.int v3]
  refine r_if_ne hC 50 dX8_repeat_25 (by decide) ?_ ?_
  · refine Wo.sub [] rfl ?_
    exact t_X8_repeat_50 hC  σ4
  · refine r_aloadn hC 0 (r := (some a0)) rfl rfl dX8_repeat_28 ?_
    refine r_aloadn hC 0 (r := (some a0)) rfl rfl dX8_repeat_29 ?_
    refine r_iloadn hC 2 rfl rfl dX8_repeat_30 ?_
    refine r_iconst hC (2) rfl dX8_repeat_31 ?_
    refine call_V hC (av := [.int x21_2, .int 2]) (st := [va_rf (some a0)]) (r := (some a0)) (ci := 10) rfl rfl (fun h9 => ct_X8_isState hC.hl G h9 x21_2 2 σ4) q_1181 q_1183 q_20 q_44 q_1184 yd_X8_isState rfl ⟨Nat.le_of_ble_eq_true rfl, Nat.le_of_ble_eq_true rfl⟩ ⟨Nat.zero_le _, Nat.zero_le _⟩ rfl (by simp [cat_rf, cat_i, cat_j, cat_d, cat_a]) dX8_repeat_32 (fun v6 σ7 => ?_)
    show Wo _ _ _ _ _ _ _ _ _ _ [.int v6, va_rf (some a0)]
    refine r_if_ne hC 42 dX8_repeat_35 (by decide) ?_ ?_
    · refine r_iconst hC (0) rfl dX8_repeat_42 ?_
      exact t_X8_repeat_43 hC a0 x21_1 x21_2 0 (some a0) σ7
    · refine r_iconst hC (1) rfl dX8_repeat_38 ?_
      refine r_goto hC 43 dX8_repeat_39 (by decide) ?_
      exact t_X8_repeat_43 hC a0 x21_1 x21_2 1 (some a0) σ7

set_option maxRecDepth 100000 in
set_option maxHeartbeats 4000000 in
theorem t_X8_repeat_16 {C : Cxt} {G : Glb} (hC : CX C G RX8 cX8_repeat 5 (some .int) 4 0 0 86) (a0 : Nat) (x16_1 : Int32) (x16_2 : Int32) (y16_0 : (Option Nat)) (σ : Mem) : Wo C G 5 (QP C G rvI 0 0) (b_X8_repeat_16  a0 x16_1 x16_2 y16_0 σ) σ 0 0 16 [(0, va_rf (some a0)), (1, .int x16_1), (2, .int x16_2)] [va_rf y16_0] := by
  unfold b_X8_repeat_16
  refine r_iconst hC (1) rfl dX8_repeat_16 ?_
  refine r_goto hC 21 dX8_repeat_17 (by decide) ?_
  exact t_X8_repeat_21 hC a0 x16_1 x16_2 1 y16_0 σ

set_option maxRecDepth 100000 in
set_option maxHeartbeats 4000000 in
theorem t_X8_repeat_0 {C : Cxt} {G : Glb} (hC : CX C G RX8 cX8_repeat 5 (some .int) 4 0 0 86) (a0 : Nat) (p0 : Int32) (p1 : Int32) (σ : Mem) : Wo C G 5 (QP C G rvI 0 0) (b_X8_repeat_0  a0 p0 p1 σ) σ 0 0 0 [(0, va_rf (some a0)), (1, .int p0), (2, .int p1)] [] := by
  unfold b_X8_repeat_0
  refine r_aloadn hC 0 (r := (some a0)) rfl rfl dX8_repeat_0 ?_
  refine r_iloadn hC 1 rfl rfl dX8_repeat_1 ?_
  refine call_S hC (av := [.int p0]) (st := [va_rf (some a0)]) (ct_X8_isNoTaster hC.hl G p0 σ) q_1279 q_1280 q_44 q_1281 yd_X8_isNoTaster rfl ⟨Nat.le_of_ble_eq_true rfl, Nat.le_of_ble_eq_true rfl⟩ ⟨Nat.zero_le _, Nat.zero_le _⟩ rfl (by simp [cat_rf, cat_i, cat_j, cat_d, cat_a]) dX8_repeat_2 (fun v1 σ2 => ?_)
  show Wo _ _ _ _ _ _ _ _ _ _ [.int v1, va_rf (some a0)]
  refine r_if_ne hC 16 dX8_repeat_5 (by decide) ?_ ?_
  · exact t_X8_repeat_16 hC a0 p0 p1 (some a0) σ2
  · refine r_aloadn hC 0 (r := (some a0)) rfl rfl dX8_repeat_8 ?_
    refine r_iloadn hC 2 rfl rfl dX8_repeat_9 ?_
    refine call_V hC (av := [.int p1]) (st := [va_rf (some a0)]) (r := (some a0)) (ci := 10) rfl rfl (fun h9 => ct_X8_isNoLot hC.hl G h9 p1 σ2) q_1165 q_1167 q_19 q_44 q_1168 yd_X8_isNoLot rfl ⟨Nat.le_of_ble_eq_true rfl, Nat.le_of_ble_eq_true rfl⟩ ⟨Nat.zero_le _, Nat.zero_le _⟩ rfl (by simp [cat_rf, cat_i, cat_j, cat_d, cat_a]) dX8_repeat_10 (fun v42 σ43 => ?_)
    show Wo _ _ _ _ _ _ _ _ _ _ [.int v42, va_rf (some a0)]
    refine r_if_eq hC 20 dX8_repeat_13 (by decide) ?_ ?_
    · refine r_iconst hC (0) rfl dX8_repeat_20 ?_
      exact t_X8_repeat_21 hC a0 p0 p1 0 (some a0) σ43
    · exact t_X8_repeat_16 hC a0 p0 p1 (some a0) σ43

set_option maxRecDepth 100000 in
set_option maxHeartbeats 4000000 in
theorem ct_X8_repeat {l : Launch} (hl : l.stackTraces = false) (G : Glb) (a0 : Nat) (p0 : Int32) (p1 : Int32) (σ : Mem) : Ct rvI l yX8_repeat (Cond.code yX8_repeat cX8_repeat 5 (some .int) :: uW) { frames := 4, cells := 0, slots := 0, locals := 86 } 0 0 G [.ref a0, .int p0, .int p1] σ (f_X8_repeat a0 p0 p1 σ) := by
  refine Ct.of hl (by decide +kernel) (Nat.le_of_ble_eq_true rfl) (fun C hC hin => ?_)
  have e : lv_args 0 [.ref a0, .int p0, .int p1] = [(0, .ref a0), (1, .int p0), (2, .int p1)] := rfl
  rw [e]
  exact t_X8_repeat_0 hC a0 p0 p1 σ

noncomputable def b_X8_purse_36 (σ : Mem) : Option ((Int32) × Mem) :=
some (0, σ)

noncomputable def b_X8_purse_29 (a0 : Nat) (x29_1 : Int32) (x29_2 : Int32) (y29_0 : Int32) (y29_1 : (Option Nat)) (σ : Mem) : Option ((Int32) × Mem) :=
ob 10 σ y29_1 fun h10 => cl1 (f_X8_refuse h10 y29_0 2 σ) fun v8 σ9 =>
if v8 = 0 then
gR 10 9 σ9 (some a0) fun r11 =>
aI σ9 r11 x29_1 fun v12 =>
nm (v12 + x29_2) fun v13 =>
wI σ9 r11 x29_1 v13 fun σ14 =>
gR 10 9 σ14 (some a0) fun r15 =>
aI σ14 r15 x29_1 fun v16 =>
some (v16, σ14)
else
b_X8_purse_36 σ9

noncomputable def b_X8_purse_0 (a0 : Nat) (p0 : Int32) (p1 : Int32) (σ : Mem) : Option ((Int32) × Mem) :=
cl1 (f_X8_isNoBuyer p0 σ) fun v1 σ2 =>
ob 10 σ2 (some a0) fun h5 => cl1 (f_X8_start h5 v1 1 σ2) fun v3 σ4 =>
if v3 = 0 then
cl1 (f_X8_isIn p1 1 9999 σ4) fun v6 σ7 =>
if v6 = 0 then
b_X8_purse_29 a0 p0 p1 1 (some a0) σ7
else
b_X8_purse_29 a0 p0 p1 0 (some a0) σ7
else
b_X8_purse_36 σ4

noncomputable def f_X8_purse (a0 : Nat) (p0 : Int32) (p1 : Int32) (σ : Mem) : Option ((Int32) × Mem) := b_X8_purse_0 a0 p0 p1 σ
set_option maxRecDepth 100000 in
set_option maxHeartbeats 4000000 in
theorem t_X8_purse_36 {C : Cxt} {G : Glb} (hC : CX C G RX8 cX8_purse 3 (some .int) 2 0 0 44) (σ : Mem) : Wo C G 3 (QP C G rvI 0 0) (b_X8_purse_36   σ) σ 0 0 36 [] [] := by
  unfold b_X8_purse_36
  refine r_iconst hC (0) rfl dX8_purse_36 ?_
  exact e_I hC ⟨Nat.zero_le _, Nat.zero_le _⟩ dX8_purse_37

set_option maxRecDepth 100000 in
set_option maxHeartbeats 4000000 in
theorem t_X8_purse_29 {C : Cxt} {G : Glb} (hC : CX C G RX8 cX8_purse 3 (some .int) 2 0 0 44) (a0 : Nat) (x29_1 : Int32) (x29_2 : Int32) (y29_0 : Int32) (y29_1 : (Option Nat)) (σ : Mem) : Wo C G 3 (QP C G rvI 0 0) (b_X8_purse_29  a0 x29_1 x29_2 y29_0 y29_1 σ) σ 0 0 29 [(0, va_rf (some a0)), (1, .int x29_1), (2, .int x29_2)] [.int y29_0, va_rf y29_1] := by
  unfold b_X8_purse_29
  refine r_iconst hC (2) rfl dX8_purse_29 ?_
  refine call_V hC (av := [.int y29_0, .int 2]) (st := []) (r := y29_1) (ci := 10) rfl rfl (fun h9 => ct_X8_refuse hC.hl G h9 y29_0 2 σ) q_886 q_888 q_13 q_44 q_889 yd_X8_refuse rfl ⟨Nat.le_of_ble_eq_true rfl, Nat.le_of_ble_eq_true rfl⟩ ⟨Nat.zero_le _, Nat.zero_le _⟩ rfl (Nat.le_of_ble_eq_true rfl) dX8_purse_30 (fun v8 σ9 => ?_)
  show Wo _ _ _ _ _ _ _ _ _ _ [.int v8]
  refine r_if_eq hC 38 dX8_purse_33 (by decide) ?_ ?_
  · refine r_aloadn hC 0 (r := (some a0)) rfl rfl dX8_purse_38 ?_
    refine r_gR hC (k := 9) (r := (some a0)) cls_10 (by decide) rfl q_849 (Or.inl rfl) dX8_purse_39 (fun r11 => ?_)
    refine r_iloadn hC 1 rfl rfl dX8_purse_42 ?_
    refine r_dup2 hC rfl (cat_rf _) dX8_purse_43 ?_
    refine r_aI hC (r := r11) dX8_purse_44 (fun v12 => ?_)
    refine r_iloadn hC 2 rfl rfl dX8_purse_45 ?_
    refine r_iadd hC dX8_purse_46 (fun v13 => ?_)
    refine r_wI hC (r := r11) dX8_purse_47 (fun σ14 => ?_)
    refine r_aloadn hC 0 (r := (some a0)) rfl rfl dX8_purse_48 ?_
    refine r_gR hC (k := 9) (r := (some a0)) cls_10 (by decide) rfl q_849 (Or.inl rfl) dX8_purse_49 (fun r15 => ?_)
    refine r_iloadn hC 1 rfl rfl dX8_purse_52 ?_
    refine r_aI hC (r := r15) dX8_purse_53 (fun v16 => ?_)
    exact e_I hC ⟨Nat.zero_le _, Nat.zero_le _⟩ dX8_purse_54
  · refine Wo.sub [] rfl ?_
    exact t_X8_purse_36 hC  σ9

set_option maxRecDepth 100000 in
set_option maxHeartbeats 4000000 in
theorem t_X8_purse_0 {C : Cxt} {G : Glb} (hC : CX C G RX8 cX8_purse 3 (some .int) 2 0 0 44) (a0 : Nat) (p0 : Int32) (p1 : Int32) (σ : Mem) : Wo C G 3 (QP C G rvI 0 0) (b_X8_purse_0  a0 p0 p1 σ) σ 0 0 0 [(0, va_rf (some a0)), (1, .int p0), (2, .int p1)] [] := by
  unfold b_X8_purse_0
  refine r_aloadn hC 0 (r := (some a0)) rfl rfl dX8_purse_0 ?_
  refine r_iloadn hC 1 rfl rfl dX8_purse_1 ?_
  refine call_S hC (av := [.int p0]) (st := [va_rf (some a0)]) (ct_X8_isNoBuyer hC.hl G p0 σ) q_1300 q_1301 q_44 q_1302 yd_X8_isNoBuyer rfl ⟨Nat.le_of_ble_eq_true rfl, Nat.le_of_ble_eq_true rfl⟩ ⟨Nat.zero_le _, Nat.zero_le _⟩ rfl (by simp [cat_rf, cat_i, cat_j, cat_d, cat_a]) dX8_purse_2 (fun v1 σ2 => ?_)
  show Wo _ _ _ _ _ _ _ _ _ _ [.int v1, va_rf (some a0)]
  refine r_iconst hC (1) rfl dX8_purse_5 ?_
  refine call_V hC (av := [.int v1, .int 1]) (st := []) (r := (some a0)) (ci := 10) rfl rfl (fun h9 => ct_X8_start hC.hl G h9 v1 1 σ2) q_882 q_884 q_12 q_44 q_885 yd_X8_start rfl ⟨Nat.le_of_ble_eq_true rfl, Nat.le_of_ble_eq_true rfl⟩ ⟨Nat.zero_le _, Nat.zero_le _⟩ rfl (Nat.le_of_ble_eq_true rfl) dX8_purse_6 (fun v3 σ4 => ?_)
  show Wo _ _ _ _ _ _ _ _ _ _ [.int v3]
  refine r_if_ne hC 36 dX8_purse_9 (by decide) ?_ ?_
  · refine Wo.sub [] rfl ?_
    exact t_X8_purse_36 hC  σ4
  · refine r_aloadn hC 0 (r := (some a0)) rfl rfl dX8_purse_12 ?_
    refine r_iloadn hC 2 rfl rfl dX8_purse_13 ?_
    refine r_iconst hC (1) rfl dX8_purse_14 ?_
    refine r_sipush hC (9999) (by decide) dX8_purse_15 ?_
    refine call_S hC (av := [.int p1, .int 1, .int 9999]) (st := [va_rf (some a0)]) (ct_X8_isIn hC.hl G p1 1 9999 σ4) q_879 q_880 q_44 q_881 yd_X8_isIn rfl ⟨Nat.le_of_ble_eq_true rfl, Nat.le_of_ble_eq_true rfl⟩ ⟨Nat.zero_le _, Nat.zero_le _⟩ rfl (by simp [cat_rf, cat_i, cat_j, cat_d, cat_a]) dX8_purse_18 (fun v6 σ7 => ?_)
    show Wo _ _ _ _ _ _ _ _ _ _ [.int v6, va_rf (some a0)]
    refine r_if_ne hC 28 dX8_purse_21 (by decide) ?_ ?_
    · refine r_iconst hC (0) rfl dX8_purse_28 ?_
      exact t_X8_purse_29 hC a0 p0 p1 0 (some a0) σ7
    · refine r_iconst hC (1) rfl dX8_purse_24 ?_
      refine r_goto hC 29 dX8_purse_25 (by decide) ?_
      exact t_X8_purse_29 hC a0 p0 p1 1 (some a0) σ7

set_option maxRecDepth 100000 in
set_option maxHeartbeats 4000000 in
theorem ct_X8_purse {l : Launch} (hl : l.stackTraces = false) (G : Glb) (a0 : Nat) (p0 : Int32) (p1 : Int32) (σ : Mem) : Ct rvI l yX8_purse (Cond.code yX8_purse cX8_purse 3 (some .int) :: uW) { frames := 2, cells := 0, slots := 0, locals := 44 } 0 0 G [.ref a0, .int p0, .int p1] σ (f_X8_purse a0 p0 p1 σ) := by
  refine Ct.of hl (by decide +kernel) (Nat.le_of_ble_eq_true rfl) (fun C hC hin => ?_)
  have e : lv_args 0 [.ref a0, .int p0, .int p1] = [(0, .ref a0), (1, .int p0), (2, .int p1)] := rfl
  rw [e]
  exact t_X8_purse_0 hC a0 p0 p1 σ

noncomputable def b_X8_offer_58 (e0 mi : Nat) (σ : Mem) : Option ((Int32) × Mem) :=
some (0, σ)

noncomputable def b_X8_offer_122 (e0 mi : Nat) (k86 : Int32 → (Option Nat) → Mem → Option ((Int32) × Mem)) (x122_4 : (Option Nat)) (y122_0 : Int32) (y122_1 : Int32) (σ : Mem) : Option ((Int32) × Mem) :=
nm (y122_1 + y122_0) fun v36 =>
k86 v36 x122_4 σ

noncomputable def b_X8_offer_86 (e0 mi : Nat) (k86 : Int32 → (Option Nat) → Mem → Option ((Int32) × Mem)) (x86_3 : Int32) (x86_4 : (Option Nat)) (σ : Mem) : Option ((Int32) × Mem) :=
ob 0 σ x86_4 fun h29 => cl1 (f_Jx35411_hasNext_aae02 h29 σ) fun v27 σ28 =>
if v27 = 0 then
some (x86_3, σ28)
else
ob 0 σ28 x86_4 fun h32 => cl1 (f_Jx35411_next_0502b e0 mi h32 σ28) fun r30 σ31 =>
ck 8 σ31 r30 <|
ob 7 σ31 r30 fun h35 => cl1 (f_X5_isOffered h35 σ31) fun v33 σ34 =>
if v33 = 0 then
b_X8_offer_122 e0 mi k86 x86_4 0 x86_3 σ34
else
b_X8_offer_122 e0 mi k86 x86_4 1 x86_3 σ34

noncomputable def l_X8_offer_86 (e0 mi : Nat) (n : Nat) : Int32 → (Option Nat) → Mem → Option ((Int32) × Mem) := itr (fun _ _ _ => none) (fun k => b_X8_offer_86 e0 mi  k) n

noncomputable def b_X8_offer_51 (e0 mi : Nat) (a0 : Nat) (x51_1 : Int32) (x51_2 : Int32) (y51_0 : Int32) (y51_1 : (Option Nat)) (σ : Mem) : Option ((Int32) × Mem) :=
ob 10 σ y51_1 fun h17 => cl1 (f_X8_refuse h17 y51_0 3 σ) fun v15 σ16 =>
if v15 = 0 then
gR 10 7 σ16 (some a0) fun r18 =>
ob 1 σ16 r18 fun h21 => cl1 (f_Jx4a65c_get_915e3 h21 x51_1 σ16) fun r19 σ20 =>
ck 8 σ20 r19 <|
pI 7 13 σ20 r19 x51_2 fun σ22 =>
gR 10 7 σ22 (some a0) fun r23 =>
ob 1 σ22 r23 fun h26 => cl1 (f_Jx4a65c_iterator_32c93 h26 σ22) fun r24 σ25 =>
l_X8_offer_86 e0 mi 40 0 r24 σ25
else
b_X8_offer_58 e0 mi σ16

noncomputable def b_X8_offer_29 (e0 mi : Nat) (a0 : Nat) (x29_1 : Int32) (x29_2 : Int32) (y29_0 : Int32) (y29_1 : (Option Nat)) (σ : Mem) : Option ((Int32) × Mem) :=
ob 10 σ y29_1 fun h11 => cl1 (f_X8_refuse h11 y29_0 2 σ) fun v9 σ10 =>
if v9 = 0 then
ob 10 σ10 (some a0) fun h14 => cl1 (f_X8_isState h14 x29_1 2 σ10) fun v12 σ13 =>
if v12 = 0 then
b_X8_offer_51 e0 mi a0 x29_1 x29_2 1 (some a0) σ13
else
b_X8_offer_51 e0 mi a0 x29_1 x29_2 0 (some a0) σ13
else
b_X8_offer_58 e0 mi σ10

noncomputable def b_X8_offer_0 (e0 mi : Nat) (a0 : Nat) (p0 : Int32) (p1 : Int32) (σ : Mem) : Option ((Int32) × Mem) :=
ob 10 σ (some a0) fun h3 => cl1 (f_X8_isNoLot h3 p0 σ) fun v1 σ2 =>
ob 10 σ2 (some a0) fun h6 => cl1 (f_X8_start h6 v1 1 σ2) fun v4 σ5 =>
if v4 = 0 then
cl1 (f_X8_isIn p1 1 99 σ5) fun v7 σ8 =>
if v7 = 0 then
b_X8_offer_29 e0 mi a0 p0 p1 1 (some a0) σ8
else
b_X8_offer_29 e0 mi a0 p0 p1 0 (some a0) σ8
else
b_X8_offer_58 e0 mi σ5

noncomputable def f_X8_offer (e0 mi : Nat) (a0 : Nat) (p0 : Int32) (p1 : Int32) (σ : Mem) : Option ((Int32) × Mem) := b_X8_offer_0 e0 mi a0 p0 p1 σ
set_option maxRecDepth 100000 in
set_option maxHeartbeats 4000000 in
theorem t_X8_offer_58 {C : Cxt} {G : Glb} (hC : CX C G RX8 cX8_offer 6 (some .int) 4 1 4 86) (σ : Mem) (kc ks : Nat) (hN : kc + 0 ≤ 1 ∧ ks + 0 ≤ 4) : Wo C G 6 (QP C G rvI 1 4) (b_X8_offer_58 G.2.2.2.1 G.2.2.2.2   σ) σ kc ks 58 [] [] := by
  unfold b_X8_offer_58
  refine r_iconst hC (0) rfl dX8_offer_58 ?_
  exact e_I hC ⟨by omega, by omega⟩ dX8_offer_59

set_option maxRecDepth 100000 in
set_option maxHeartbeats 4000000 in
theorem t_X8_offer_122 {C : Cxt} {G : Glb} (hC : CX C G RX8 cX8_offer 6 (some .int) 4 1 4 86) (P86 : Nat → Nat → Prop) (hm86 : ∀ a b a2 b2 : Nat, a ≤ a2 → b ≤ b2 → P86 a2 b2 → P86 a b) (k86 : Int32 → (Option Nat) → Mem → Option ((Int32) × Mem)) (hk86 : ∀ (x86_3 : Int32) (x86_4 : (Option Nat)) (σ : Mem) (kc ks : Nat), P86 kc ks → Wo C G 6 (QP C G rvI 1 4) (k86 x86_3 x86_4 σ) σ kc ks 86 [(3, .int x86_3), (4, va_rf x86_4)] []) (x122_4 : (Option Nat)) (y122_0 : Int32) (y122_1 : Int32) (σ : Mem) (kc ks : Nat) (hN : kc + 0 ≤ 1 ∧ ks + 0 ≤ 4) (hP86 : P86 (kc + 0) (ks + 0)) : Wo C G 6 (QP C G rvI 1 4) (b_X8_offer_122 G.2.2.2.1 G.2.2.2.2 k86 x122_4 y122_0 y122_1 σ) σ kc ks 122 [(4, va_rf x122_4)] [.int y122_0, .int y122_1] := by
  unfold b_X8_offer_122
  refine r_iadd hC dX8_offer_122 (fun v36 => ?_)
  refine r_istoren hC [(3, .int v36), (4, va_rf x122_4)] (i := 3) rfl (by decide) rfl dX8_offer_123 ?_
  refine r_goto hC 86 dX8_offer_124 (by decide) ?_
  exact hk86 v36 x122_4 σ _ _ (hm86 _ _ _ _ (by omega) (by omega) hP86)

set_option maxRecDepth 100000 in
set_option maxHeartbeats 4000000 in
theorem t_X8_offer_86 {C : Cxt} {G : Glb} (hC : CX C G RX8 cX8_offer 6 (some .int) 4 1 4 86) (P86 : Nat → Nat → Prop) (hm86 : ∀ a b a2 b2 : Nat, a ≤ a2 → b ≤ b2 → P86 a2 b2 → P86 a b) (k86 : Int32 → (Option Nat) → Mem → Option ((Int32) × Mem)) (hk86 : ∀ (x86_3 : Int32) (x86_4 : (Option Nat)) (σ : Mem) (kc ks : Nat), P86 kc ks → Wo C G 6 (QP C G rvI 1 4) (k86 x86_3 x86_4 σ) σ kc ks 86 [(3, .int x86_3), (4, va_rf x86_4)] []) (x86_3 : Int32) (x86_4 : (Option Nat)) (σ : Mem) (kc ks : Nat) (hN : kc + 0 ≤ 1 ∧ ks + 0 ≤ 4) (hP86 : P86 (kc + 0) (ks + 0)) : Wo C G 6 (QP C G rvI 1 4) (b_X8_offer_86 G.2.2.2.1 G.2.2.2.2 k86 x86_3 x86_4 σ) σ kc ks 86 [(3, .int x86_3), (4, va_rf x86_4)] [] := by
  unfold b_X8_offer_86
  refine r_aload hC 1 (r := x86_4) rfl dX8_offer_86 ?_
  refine call_F hC (av := []) (st := []) (r := x86_4) (ci := 0) rfl hC.hK.1.2.2.2.1.1 (fun h9 => ct_Jx35411_hasNext_aae02 hC.hl G h9 σ) q_1017 q_1023 q_1021 q_59 q_1025 ydx_hasNext rfl ⟨Nat.le_of_ble_eq_true rfl, Nat.le_of_ble_eq_true rfl⟩ ⟨by omega, by omega⟩ rfl (Nat.le_of_ble_eq_true rfl) dX8_offer_88 (fun v27 σ28 => ?_)
  show Wo _ _ _ _ _ _ _ _ _ _ [.int v27]
  refine r_if_eq hC 127 dX8_offer_93 (by decide) ?_ ?_
  · refine r_iloadn hC 0 rfl rfl dX8_offer_127 ?_
    exact e_I hC ⟨by omega, by omega⟩ dX8_offer_128
  · refine r_aload hC 1 (r := x86_4) rfl dX8_offer_96 ?_
    refine call_F hC (av := []) (st := []) (r := x86_4) (ci := 0) rfl hC.hK.1.2.2.2.1.2.1 (fun h9 => ct_Jx35411_next_0502b hC.hl G h9 σ28) q_1027 q_1032 q_1030 q_59 q_1034 ydx_next rfl ⟨Nat.le_of_ble_eq_true rfl, Nat.le_of_ble_eq_true rfl⟩ ⟨by omega, by omega⟩ rfl (Nat.le_of_ble_eq_true rfl) dX8_offer_98 (fun r30 σ31 => ?_)
    show Wo _ _ _ _ _ _ _ _ _ _ [va_rf r30]
    refine r_ckO hC (r := r30) cls_7 q_1087 dX8_offer_103 ?_
    refine r_astore hC [(5, va_rf r30), (3, .int x86_3), (4, va_rf x86_4)] (r := r30) (i := 5) (by decide) (by simp [List.filter, cat_rf, cat_i, cat_j, cat_d, cat_a]) dX8_offer_106 ?_
    refine r_iloadn hC 1 rfl rfl dX8_offer_108 ?_
    refine r_aload hC 0 (r := r30) rfl dX8_offer_109 ?_
    refine call_V hC (av := []) (st := [.int x86_3]) (r := r30) (ci := 7) rfl rfl (fun h9 => ct_X5_isOffered hC.hl G h9 σ31) q_1223 q_1224 q_1225 q_63 q_1226 yd_X5_isOffered rfl ⟨Nat.le_of_ble_eq_true rfl, Nat.le_of_ble_eq_true rfl⟩ ⟨by omega, by omega⟩ rfl (by simp [cat_rf, cat_i, cat_j, cat_d, cat_a]) dX8_offer_111 (fun v33 σ34 => ?_)
    show Wo _ _ _ _ _ _ _ _ _ _ [.int v33, .int x86_3]
    refine r_if_eq hC 121 dX8_offer_114 (by decide) ?_ ?_
    · refine r_iconst hC (0) rfl dX8_offer_121 ?_
      refine Wo.sub [2] rfl ?_
      exact t_X8_offer_122 hC P86 hm86 k86 hk86 x86_4 0 x86_3 σ34 _ _ ⟨by omega, by omega⟩ (hm86 _ _ _ _ (by omega) (by omega) hP86)
    · refine r_iconst hC (1) rfl dX8_offer_117 ?_
      refine r_goto hC 122 dX8_offer_118 (by decide) ?_
      refine Wo.sub [2] rfl ?_
      exact t_X8_offer_122 hC P86 hm86 k86 hk86 x86_4 1 x86_3 σ34 _ _ ⟨by omega, by omega⟩ (hm86 _ _ _ _ (by omega) (by omega) hP86)

set_option maxRecDepth 100000 in
set_option maxHeartbeats 4000000 in
theorem u_X8_offer_86 {C : Cxt} {G : Glb} (hC : CX C G RX8 cX8_offer 6 (some .int) 4 1 4 86) : ∀ (n : Nat) (x86_3 : Int32) (x86_4 : (Option Nat)) (σ : Mem) (kc ks : Nat), (∀ m, n = m + 1 → (kc + m * 0 + 0 ≤ 1 ∧ ks + m * 0 + 0 ≤ 4)) → Wo C G 6 (QP C G rvI 1 4) (l_X8_offer_86 G.2.2.2.1 G.2.2.2.2  n x86_3 x86_4 σ) σ kc ks 86 [(3, .int x86_3), (4, va_rf x86_4)] [] := by
  intro n
  induction n with
  | zero => intro x86_3 x86_4 σ kc ks h0; exact Wo.none
  | succ n ih =>
    intro x86_3 x86_4 σ kc ks h0
    exact t_X8_offer_86 hC (fun kc ks => (∀ m, n = m + 1 → (kc + m * 0 + 0 ≤ 1 ∧ ks + m * 0 + 0 ≤ 4))) (fun a b a2 b2 h1 h2 h m e => ⟨by have := (h m e).1; omega, by have := (h m e).2; omega⟩) (l_X8_offer_86 G.2.2.2.1 G.2.2.2.2  n) ih x86_3 x86_4 σ kc ks ⟨by have := (h0 n rfl).1; omega, by have := (h0 n rfl).2; omega⟩ (fun m e => by
      subst e
      exact ⟨by have := (h0 _ rfl).1; omega, by have := (h0 _ rfl).2; omega⟩)

set_option maxRecDepth 100000 in
set_option maxHeartbeats 4000000 in
theorem t_X8_offer_51 {C : Cxt} {G : Glb} (hC : CX C G RX8 cX8_offer 6 (some .int) 4 1 4 86) (a0 : Nat) (x51_1 : Int32) (x51_2 : Int32) (y51_0 : Int32) (y51_1 : (Option Nat)) (σ : Mem) (kc ks : Nat) (hN : kc + 1 ≤ 1 ∧ ks + 4 ≤ 4) : Wo C G 6 (QP C G rvI 1 4) (b_X8_offer_51 G.2.2.2.1 G.2.2.2.2  a0 x51_1 x51_2 y51_0 y51_1 σ) σ kc ks 51 [(0, va_rf (some a0)), (1, .int x51_1), (2, .int x51_2)] [.int y51_0, va_rf y51_1] := by
  unfold b_X8_offer_51
  refine r_iconst hC (3) rfl dX8_offer_51 ?_
  refine call_V hC (av := [.int y51_0, .int 3]) (st := []) (r := y51_1) (ci := 10) rfl rfl (fun h9 => ct_X8_refuse hC.hl G h9 y51_0 3 σ) q_886 q_888 q_13 q_44 q_889 yd_X8_refuse rfl ⟨Nat.le_of_ble_eq_true rfl, Nat.le_of_ble_eq_true rfl⟩ ⟨by omega, by omega⟩ rfl (Nat.le_of_ble_eq_true rfl) dX8_offer_52 (fun v15 σ16 => ?_)
  show Wo _ _ _ _ _ _ _ _ _ _ [.int v15]
  refine r_if_eq hC 60 dX8_offer_55 (by decide) ?_ ?_
  · refine r_aloadn hC 0 (r := (some a0)) rfl rfl dX8_offer_60 ?_
    refine r_gR hC (k := 7) (r := (some a0)) cls_10 (by decide) rfl q_847 (Or.inl rfl) dX8_offer_61 (fun r18 => ?_)
    refine r_iloadn hC 1 rfl rfl dX8_offer_64 ?_
    refine call_V hC (av := [.int x51_1]) (st := []) (r := r18) (ci := 1) rfl rfl (fun h9 => ct_Jx4a65c_get_915e3 hC.hl G h9 x51_1 σ16) q_1057 q_1058 q_1059 q_47 q_1060 yd_Jx4a65c_get_915e3 rfl ⟨Nat.le_of_ble_eq_true rfl, Nat.le_of_ble_eq_true rfl⟩ ⟨by omega, by omega⟩ rfl (Nat.le_of_ble_eq_true rfl) dX8_offer_65 (fun r19 σ20 => ?_)
    show Wo _ _ _ _ _ _ _ _ _ _ [va_rf r19]
    refine r_ckO hC (r := r19) cls_7 q_1087 dX8_offer_68 ?_
    refine r_iloadn hC 2 rfl rfl dX8_offer_71 ?_
    refine r_pI hC (k := 13) (r := r19) cls_7 (by decide) rfl q_1122 (Or.inl rfl) (Or.inl rfl) dX8_offer_72 (fun σ22 => ?_)
    refine r_iconst hC (0) rfl dX8_offer_75 ?_
    refine r_istoren hC [(3, .int 0), (0, va_rf (some a0)), (1, .int x51_1), (2, .int x51_2)] (i := 3) rfl (by decide) rfl dX8_offer_76 ?_
    refine r_aloadn hC 1 (r := (some a0)) rfl rfl dX8_offer_77 ?_
    refine r_gR hC (k := 7) (r := (some a0)) cls_10 (by decide) rfl q_847 (Or.inl rfl) dX8_offer_78 (fun r23 => ?_)
    refine call_V hC (av := []) (st := []) (r := r23) (ci := 1) rfl rfl (fun h9 => ct_Jx4a65c_iterator_32c93 hC.hl G h9 σ22) q_993 q_994 q_995 q_47 q_996 yd_Jx4a65c_iterator_32c93 rfl ⟨Nat.le_of_ble_eq_true rfl, Nat.le_of_ble_eq_true rfl⟩ ⟨by omega, by omega⟩ rfl (Nat.le_of_ble_eq_true rfl) dX8_offer_81 (fun r24 σ25 => ?_)
    show Wo _ _ _ _ _ _ _ _ _ _ [va_rf r24]
    refine r_astore hC [(4, va_rf r24), (3, .int 0), (0, va_rf (some a0)), (1, .int x51_1), (2, .int x51_2)] (r := r24) (i := 4) (by decide) rfl dX8_offer_84 ?_
    refine Wo.sub [1, 0] rfl ?_
    exact u_X8_offer_86 hC 40 0 r24 σ25 _ _ (fun m e => by cases e; exact ⟨by omega, by omega⟩)
  · refine Wo.sub [] rfl ?_
    exact t_X8_offer_58 hC  σ16 _ _ ⟨by omega, by omega⟩

set_option maxRecDepth 100000 in
set_option maxHeartbeats 4000000 in
theorem t_X8_offer_29 {C : Cxt} {G : Glb} (hC : CX C G RX8 cX8_offer 6 (some .int) 4 1 4 86) (a0 : Nat) (x29_1 : Int32) (x29_2 : Int32) (y29_0 : Int32) (y29_1 : (Option Nat)) (σ : Mem) (kc ks : Nat) (hN : kc + 1 ≤ 1 ∧ ks + 4 ≤ 4) : Wo C G 6 (QP C G rvI 1 4) (b_X8_offer_29 G.2.2.2.1 G.2.2.2.2  a0 x29_1 x29_2 y29_0 y29_1 σ) σ kc ks 29 [(0, va_rf (some a0)), (1, .int x29_1), (2, .int x29_2)] [.int y29_0, va_rf y29_1] := by
  unfold b_X8_offer_29
  refine r_iconst hC (2) rfl dX8_offer_29 ?_
  refine call_V hC (av := [.int y29_0, .int 2]) (st := []) (r := y29_1) (ci := 10) rfl rfl (fun h9 => ct_X8_refuse hC.hl G h9 y29_0 2 σ) q_886 q_888 q_13 q_44 q_889 yd_X8_refuse rfl ⟨Nat.le_of_ble_eq_true rfl, Nat.le_of_ble_eq_true rfl⟩ ⟨by omega, by omega⟩ rfl (Nat.le_of_ble_eq_true rfl) dX8_offer_30 (fun v9 σ10 => ?_)
  show Wo _ _ _ _ _ _ _ _ _ _ [.int v9]
  refine r_if_ne hC 58 dX8_offer_33 (by decide) ?_ ?_
  · refine Wo.sub [] rfl ?_
    exact t_X8_offer_58 hC  σ10 _ _ ⟨by omega, by omega⟩
  · refine r_aloadn hC 0 (r := (some a0)) rfl rfl dX8_offer_36 ?_
    refine r_aloadn hC 0 (r := (some a0)) rfl rfl dX8_offer_37 ?_
    refine r_iloadn hC 1 rfl rfl dX8_offer_38 ?_
    refine r_iconst hC (2) rfl dX8_offer_39 ?_
    refine call_V hC (av := [.int x29_1, .int 2]) (st := [va_rf (some a0)]) (r := (some a0)) (ci := 10) rfl rfl (fun h9 => ct_X8_isState hC.hl G h9 x29_1 2 σ10) q_1181 q_1183 q_20 q_44 q_1184 yd_X8_isState rfl ⟨Nat.le_of_ble_eq_true rfl, Nat.le_of_ble_eq_true rfl⟩ ⟨by omega, by omega⟩ rfl (by simp [cat_rf, cat_i, cat_j, cat_d, cat_a]) dX8_offer_40 (fun v12 σ13 => ?_)
    show Wo _ _ _ _ _ _ _ _ _ _ [.int v12, va_rf (some a0)]
    refine r_if_ne hC 50 dX8_offer_43 (by decide) ?_ ?_
    · refine r_iconst hC (0) rfl dX8_offer_50 ?_
      exact t_X8_offer_51 hC a0 x29_1 x29_2 0 (some a0) σ13 _ _ ⟨by omega, by omega⟩
    · refine r_iconst hC (1) rfl dX8_offer_46 ?_
      refine r_goto hC 51 dX8_offer_47 (by decide) ?_
      exact t_X8_offer_51 hC a0 x29_1 x29_2 1 (some a0) σ13 _ _ ⟨by omega, by omega⟩

set_option maxRecDepth 100000 in
set_option maxHeartbeats 4000000 in
theorem t_X8_offer_0 {C : Cxt} {G : Glb} (hC : CX C G RX8 cX8_offer 6 (some .int) 4 1 4 86) (a0 : Nat) (p0 : Int32) (p1 : Int32) (σ : Mem) (kc ks : Nat) (hN : kc + 1 ≤ 1 ∧ ks + 4 ≤ 4) : Wo C G 6 (QP C G rvI 1 4) (b_X8_offer_0 G.2.2.2.1 G.2.2.2.2  a0 p0 p1 σ) σ kc ks 0 [(0, va_rf (some a0)), (1, .int p0), (2, .int p1)] [] := by
  unfold b_X8_offer_0
  refine r_aloadn hC 0 (r := (some a0)) rfl rfl dX8_offer_0 ?_
  refine r_aloadn hC 0 (r := (some a0)) rfl rfl dX8_offer_1 ?_
  refine r_iloadn hC 1 rfl rfl dX8_offer_2 ?_
  refine call_V hC (av := [.int p0]) (st := [va_rf (some a0)]) (r := (some a0)) (ci := 10) rfl rfl (fun h9 => ct_X8_isNoLot hC.hl G h9 p0 σ) q_1165 q_1167 q_19 q_44 q_1168 yd_X8_isNoLot rfl ⟨Nat.le_of_ble_eq_true rfl, Nat.le_of_ble_eq_true rfl⟩ ⟨by omega, by omega⟩ rfl (by simp [cat_rf, cat_i, cat_j, cat_d, cat_a]) dX8_offer_3 (fun v1 σ2 => ?_)
  show Wo _ _ _ _ _ _ _ _ _ _ [.int v1, va_rf (some a0)]
  refine r_iconst hC (1) rfl dX8_offer_6 ?_
  refine call_V hC (av := [.int v1, .int 1]) (st := []) (r := (some a0)) (ci := 10) rfl rfl (fun h9 => ct_X8_start hC.hl G h9 v1 1 σ2) q_882 q_884 q_12 q_44 q_885 yd_X8_start rfl ⟨Nat.le_of_ble_eq_true rfl, Nat.le_of_ble_eq_true rfl⟩ ⟨by omega, by omega⟩ rfl (Nat.le_of_ble_eq_true rfl) dX8_offer_7 (fun v4 σ5 => ?_)
  show Wo _ _ _ _ _ _ _ _ _ _ [.int v4]
  refine r_if_ne hC 58 dX8_offer_10 (by decide) ?_ ?_
  · refine Wo.sub [] rfl ?_
    exact t_X8_offer_58 hC  σ5 _ _ ⟨by omega, by omega⟩
  · refine r_aloadn hC 0 (r := (some a0)) rfl rfl dX8_offer_13 ?_
    refine r_iloadn hC 2 rfl rfl dX8_offer_14 ?_
    refine r_iconst hC (1) rfl dX8_offer_15 ?_
    refine r_bipush hC (99) (by decide) dX8_offer_16 ?_
    refine call_S hC (av := [.int p1, .int 1, .int 99]) (st := [va_rf (some a0)]) (ct_X8_isIn hC.hl G p1 1 99 σ5) q_879 q_880 q_44 q_881 yd_X8_isIn rfl ⟨Nat.le_of_ble_eq_true rfl, Nat.le_of_ble_eq_true rfl⟩ ⟨by omega, by omega⟩ rfl (by simp [cat_rf, cat_i, cat_j, cat_d, cat_a]) dX8_offer_18 (fun v7 σ8 => ?_)
    show Wo _ _ _ _ _ _ _ _ _ _ [.int v7, va_rf (some a0)]
    refine r_if_ne hC 28 dX8_offer_21 (by decide) ?_ ?_
    · refine r_iconst hC (0) rfl dX8_offer_28 ?_
      exact t_X8_offer_29 hC a0 p0 p1 0 (some a0) σ8 _ _ ⟨by omega, by omega⟩
    · refine r_iconst hC (1) rfl dX8_offer_24 ?_
      refine r_goto hC 29 dX8_offer_25 (by decide) ?_
      exact t_X8_offer_29 hC a0 p0 p1 1 (some a0) σ8 _ _ ⟨by omega, by omega⟩

set_option maxRecDepth 100000 in
set_option maxHeartbeats 4000000 in
theorem ct_X8_offer {l : Launch} (hl : l.stackTraces = false) (G : Glb) (a0 : Nat) (p0 : Int32) (p1 : Int32) (σ : Mem) : Ct rvI l yX8_offer (Cond.code yX8_offer cX8_offer 6 (some .int) :: uW) { frames := 4, cells := 1, slots := 4, locals := 86 } 1 4 G [.ref a0, .int p0, .int p1] σ (f_X8_offer G.2.2.2.1 G.2.2.2.2 a0 p0 p1 σ) := by
  refine Ct.of hl (by decide +kernel) (Nat.le_of_ble_eq_true rfl) (fun C hC hin => ?_)
  have e : lv_args 0 [.ref a0, .int p0, .int p1] = [(0, .ref a0), (1, .int p0), (2, .int p1)] := rfl
  rw [e]
  exact t_X8_offer_0 hC a0 p0 p1 σ 0 0 ⟨Nat.le_of_ble_eq_true rfl, Nat.le_of_ble_eq_true rfl⟩

noncomputable def b_X8_bid_81 (e0 mi : Nat) (σ : Mem) : Option ((Int32) × Mem) :=
some (0, σ)

noncomputable def b_X8_bid_137 (e0 mi : Nat) (k108 : Int32 → Int32 → (Option Nat) → Int32 → Mem → Option ((Int32) × Mem)) (x137_1 : Int32) (x137_3 : Int32) (x137_4 : (Option Nat)) (x137_5 : Int32) (σ : Mem) : Option ((Int32) × Mem) :=
nm (x137_5 + (-1)) fun v44 =>
k108 x137_1 x137_3 x137_4 v44 σ

noncomputable def b_X8_bid_108 (e0 mi : Nat) (k108 : Int32 → Int32 → (Option Nat) → Int32 → Mem → Option ((Int32) × Mem)) (x108_1 : Int32) (x108_3 : Int32) (x108_4 : (Option Nat)) (x108_5 : Int32) (σ : Mem) : Option ((Int32) × Mem) :=
if x108_5 < 0 then
nA 0 2 σ 2 fun σ30 r31 =>
wI σ30 r31 0 x108_1 fun σ32 =>
wI σ32 r31 1 x108_3 fun σ33 =>
ob 1 σ33 x108_4 fun h36 => cl1 (f_Jx4a65c_add_9ea2d e0 mi h36 r31 σ33) fun v34 σ35 =>
ob 1 σ35 x108_4 fun h39 => cl1 (f_Jx4a65c_size_8abf5 h39 σ35) fun v37 σ38 =>
some (v37, σ38)
else
ob 1 σ x108_4 fun h42 => cl1 (f_Jx4a65c_get_915e3 h42 x108_5 σ) fun r40 σ41 =>
ck 100 σ41 r40 <|
aI σ41 r40 0 fun v43 =>
if v43 = x108_1 then
ob 1 σ41 x108_4 fun h47 => cl1 (f_Jx4a65c_remove_915e3 h47 x108_5 σ41) fun r45 σ46 =>
b_X8_bid_137 e0 mi k108 x108_1 x108_3 x108_4 x108_5 σ46
else
b_X8_bid_137 e0 mi k108 x108_1 x108_3 x108_4 x108_5 σ41

noncomputable def l_X8_bid_108 (e0 mi : Nat) (n : Nat) : Int32 → Int32 → (Option Nat) → Int32 → Mem → Option ((Int32) × Mem) := itr (fun _ _ _ _ _ => none) (fun k => b_X8_bid_108 e0 mi  k) n

noncomputable def b_X8_bid_74 (e0 mi : Nat) (a0 : Nat) (x74_1 : Int32) (x74_2 : Int32) (x74_3 : Int32) (y74_0 : Int32) (y74_1 : (Option Nat)) (σ : Mem) : Option ((Int32) × Mem) :=
ob 10 σ y74_1 fun h20 => cl1 (f_X8_refuse h20 y74_0 3 σ) fun v18 σ19 =>
if v18 = 0 then
gR 10 7 σ19 (some a0) fun r21 =>
ob 1 σ19 r21 fun h24 => cl1 (f_Jx4a65c_get_915e3 h24 x74_2 σ19) fun r22 σ23 =>
ck 8 σ23 r22 <|
gR 7 14 σ23 r22 fun r25 =>
ob 1 σ23 r25 fun h28 => cl1 (f_Jx4a65c_size_8abf5 h28 σ23) fun v26 σ27 =>
nm (v26 - 1) fun v29 =>
l_X8_bid_108 e0 mi 40 x74_1 x74_3 r25 v29 σ27
else
b_X8_bid_81 e0 mi σ19

noncomputable def b_X8_bid_44 (e0 mi : Nat) (a0 : Nat) (x44_1 : Int32) (x44_2 : Int32) (x44_3 : Int32) (y44_0 : Int32) (y44_1 : (Option Nat)) (σ : Mem) : Option ((Int32) × Mem) :=
ob 10 σ y44_1 fun h10 => cl1 (f_X8_refuse h10 y44_0 2 σ) fun v8 σ9 =>
if v8 = 0 then
gR 10 7 σ9 (some a0) fun r11 =>
ob 1 σ9 r11 fun h14 => cl1 (f_Jx4a65c_get_915e3 h14 x44_2 σ9) fun r12 σ13 =>
ck 8 σ13 r12 <|
ob 7 σ13 r12 fun h17 => cl1 (f_X5_isOffered h17 σ13) fun v15 σ16 =>
if v15 = 0 then
b_X8_bid_74 e0 mi a0 x44_1 x44_2 x44_3 1 (some a0) σ16
else
b_X8_bid_74 e0 mi a0 x44_1 x44_2 x44_3 0 (some a0) σ16
else
b_X8_bid_81 e0 mi σ9

noncomputable def b_X8_bid_21 (e0 mi : Nat) (a0 : Nat) (x21_1 : Int32) (x21_2 : Int32) (x21_3 : Int32) (y21_0 : Int32) (y21_1 : (Option Nat)) (σ : Mem) : Option ((Int32) × Mem) :=
ob 10 σ y21_1 fun h5 => cl1 (f_X8_start h5 y21_0 1 σ) fun v3 σ4 =>
if v3 = 0 then
cl1 (f_X8_isIn x21_3 1 99 σ4) fun v6 σ7 =>
if v6 = 0 then
b_X8_bid_44 e0 mi a0 x21_1 x21_2 x21_3 1 (some a0) σ7
else
b_X8_bid_44 e0 mi a0 x21_1 x21_2 x21_3 0 (some a0) σ7
else
b_X8_bid_81 e0 mi σ4

noncomputable def b_X8_bid_16 (e0 mi : Nat) (a0 : Nat) (x16_1 : Int32) (x16_2 : Int32) (x16_3 : Int32) (y16_0 : (Option Nat)) (σ : Mem) : Option ((Int32) × Mem) :=
b_X8_bid_21 e0 mi a0 x16_1 x16_2 x16_3 1 y16_0 σ

noncomputable def b_X8_bid_0 (e0 mi : Nat) (a0 : Nat) (p0 : Int32) (p1 : Int32) (p2 : Int32) (σ : Mem) : Option ((Int32) × Mem) :=
cl1 (f_X8_isNoBuyer p0 σ) fun v1 σ2 =>
if v1 = 0 then
ob 10 σ2 (some a0) fun h50 => cl1 (f_X8_isNoLot h50 p1 σ2) fun v48 σ49 =>
if v48 = 0 then
b_X8_bid_21 e0 mi a0 p0 p1 p2 0 (some a0) σ49
else
b_X8_bid_16 e0 mi a0 p0 p1 p2 (some a0) σ49
else
b_X8_bid_16 e0 mi a0 p0 p1 p2 (some a0) σ2

noncomputable def f_X8_bid (e0 mi : Nat) (a0 : Nat) (p0 : Int32) (p1 : Int32) (p2 : Int32) (σ : Mem) : Option ((Int32) × Mem) := b_X8_bid_0 e0 mi a0 p0 p1 p2 σ
set_option maxRecDepth 100000 in
set_option maxHeartbeats 4000000 in
theorem t_X8_bid_81 {C : Cxt} {G : Glb} (hC : CX C G RX8 cX8_bid 6 (some .int) 7 2 24 149) (σ : Mem) (kc ks : Nat) (hN : kc + 0 ≤ 2 ∧ ks + 0 ≤ 24) : Wo C G 6 (QP C G rvI 2 24) (b_X8_bid_81 G.2.2.2.1 G.2.2.2.2   σ) σ kc ks 81 [] [] := by
  unfold b_X8_bid_81
  refine r_iconst hC (0) rfl dX8_bid_81 ?_
  exact e_I hC ⟨by omega, by omega⟩ dX8_bid_82

set_option maxRecDepth 100000 in
set_option maxHeartbeats 4000000 in
theorem t_X8_bid_137 {C : Cxt} {G : Glb} (hC : CX C G RX8 cX8_bid 6 (some .int) 7 2 24 149) (P108 : Nat → Nat → Prop) (hm108 : ∀ a b a2 b2 : Nat, a ≤ a2 → b ≤ b2 → P108 a2 b2 → P108 a b) (k108 : Int32 → Int32 → (Option Nat) → Int32 → Mem → Option ((Int32) × Mem)) (hk108 : ∀ (x108_1 : Int32) (x108_3 : Int32) (x108_4 : (Option Nat)) (x108_5 : Int32) (σ : Mem) (kc ks : Nat), P108 kc ks → Wo C G 6 (QP C G rvI 2 24) (k108 x108_1 x108_3 x108_4 x108_5 σ) σ kc ks 108 [(1, .int x108_1), (3, .int x108_3), (4, va_rf x108_4), (5, .int x108_5)] []) (x137_1 : Int32) (x137_3 : Int32) (x137_4 : (Option Nat)) (x137_5 : Int32) (σ : Mem) (kc ks : Nat) (hN : kc + 0 ≤ 2 ∧ ks + 0 ≤ 24) (hP108 : P108 (kc + 0) (ks + 0)) : Wo C G 6 (QP C G rvI 2 24) (b_X8_bid_137 G.2.2.2.1 G.2.2.2.2 k108 x137_1 x137_3 x137_4 x137_5 σ) σ kc ks 137 [(1, .int x137_1), (3, .int x137_3), (4, va_rf x137_4), (5, .int x137_5)] [] := by
  unfold b_X8_bid_137
  refine r_iinc hC 3 (fun w => [(5, .int w), (1, .int x137_1), (3, .int x137_3), (4, va_rf x137_4)]) (-1) rfl (by decide) rfl (fun w => by simp [List.filter, cat_rf, cat_i, cat_j, cat_d, cat_a]) dX8_bid_137 (fun v44 => ?_)
  refine r_goto hC 108 dX8_bid_140 (by decide) ?_
  refine Wo.sub [1, 2, 3, 0] rfl ?_
  exact hk108 x137_1 x137_3 x137_4 v44 σ _ _ (hm108 _ _ _ _ (by omega) (by omega) hP108)

set_option maxRecDepth 100000 in
set_option maxHeartbeats 4000000 in
theorem t_X8_bid_108 {C : Cxt} {G : Glb} (hC : CX C G RX8 cX8_bid 6 (some .int) 7 2 24 149) (P108 : Nat → Nat → Prop) (hm108 : ∀ a b a2 b2 : Nat, a ≤ a2 → b ≤ b2 → P108 a2 b2 → P108 a b) (k108 : Int32 → Int32 → (Option Nat) → Int32 → Mem → Option ((Int32) × Mem)) (hk108 : ∀ (x108_1 : Int32) (x108_3 : Int32) (x108_4 : (Option Nat)) (x108_5 : Int32) (σ : Mem) (kc ks : Nat), P108 kc ks → Wo C G 6 (QP C G rvI 2 24) (k108 x108_1 x108_3 x108_4 x108_5 σ) σ kc ks 108 [(1, .int x108_1), (3, .int x108_3), (4, va_rf x108_4), (5, .int x108_5)] []) (x108_1 : Int32) (x108_3 : Int32) (x108_4 : (Option Nat)) (x108_5 : Int32) (σ : Mem) (kc ks : Nat) (hN : kc + 2 ≤ 2 ∧ ks + 24 ≤ 24) (hP108 : P108 (kc + 0) (ks + 0)) : Wo C G 6 (QP C G rvI 2 24) (b_X8_bid_108 G.2.2.2.1 G.2.2.2.2 k108 x108_1 x108_3 x108_4 x108_5 σ) σ kc ks 108 [(1, .int x108_1), (3, .int x108_3), (4, va_rf x108_4), (5, .int x108_5)] [] := by
  unfold b_X8_bid_108
  refine r_iload hC 3 rfl dX8_bid_108 ?_
  refine r_if_lt hC 143 dX8_bid_110 (by decide) ?_ ?_
  · refine r_aload hC 2 (r := x108_4) rfl dX8_bid_143 ?_
    refine r_iconst hC (2) rfl dX8_bid_145 ?_
    refine r_nA hC (t := 0) (b := 2) (ty := .int) rfl rfl rfl (fun _ h => va_nm_int h) q_102 (Nat.le_of_ble_eq_true rfl) ⟨by omega, by omega⟩ dX8_bid_146 (fun σ30 r31 => ?_)
    refine r_dup hC (cat_rf _) dX8_bid_148 ?_
    refine r_iconst hC (0) rfl dX8_bid_149 ?_
    refine r_iloadn hC 0 rfl rfl dX8_bid_150 ?_
    refine r_wI hC (r := r31) dX8_bid_151 (fun σ32 => ?_)
    refine r_dup hC (cat_rf _) dX8_bid_152 ?_
    refine r_iconst hC (1) rfl dX8_bid_153 ?_
    refine r_iloadn hC 1 rfl rfl dX8_bid_154 ?_
    refine r_wI hC (r := r31) dX8_bid_155 (fun σ33 => ?_)
    refine call_V hC (av := [va_rf r31]) (st := []) (r := x108_4) (ci := 1) rfl rfl (fun h9 => ct_Jx4a65c_add_9ea2d hC.hl G h9 r31 σ33) q_929 q_930 q_931 q_47 q_932 yd_Jx4a65c_add_9ea2d rfl ⟨Nat.le_of_ble_eq_true rfl, Nat.le_of_ble_eq_true rfl⟩ ⟨by omega, by omega⟩ rfl (Nat.le_of_ble_eq_true rfl) dX8_bid_156 (fun v34 σ35 => ?_)
    show Wo _ _ _ _ _ _ _ _ _ _ [.int v34]
    refine r_pop hC rfl dX8_bid_159 ?_
    refine r_aload hC 2 (r := x108_4) rfl dX8_bid_160 ?_
    refine call_V hC (av := []) (st := []) (r := x108_4) (ci := 1) rfl rfl (fun h9 => ct_Jx4a65c_size_8abf5 hC.hl G h9 σ35) q_890 q_891 q_892 q_47 q_893 yd_Jx4a65c_size_8abf5 rfl ⟨Nat.le_of_ble_eq_true rfl, Nat.le_of_ble_eq_true rfl⟩ ⟨by omega, by omega⟩ rfl (Nat.le_of_ble_eq_true rfl) dX8_bid_162 (fun v37 σ38 => ?_)
    show Wo _ _ _ _ _ _ _ _ _ _ [.int v37]
    exact e_I hC ⟨by omega, by omega⟩ dX8_bid_165
  · refine r_aload hC 2 (r := x108_4) rfl dX8_bid_113 ?_
    refine r_iload hC 3 rfl dX8_bid_115 ?_
    refine call_V hC (av := [.int x108_5]) (st := []) (r := x108_4) (ci := 1) rfl rfl (fun h9 => ct_Jx4a65c_get_915e3 hC.hl G h9 x108_5 σ) q_1057 q_1058 q_1059 q_47 q_1060 yd_Jx4a65c_get_915e3 rfl ⟨Nat.le_of_ble_eq_true rfl, Nat.le_of_ble_eq_true rfl⟩ ⟨by omega, by omega⟩ rfl (Nat.le_of_ble_eq_true rfl) dX8_bid_117 (fun r40 σ41 => ?_)
    show Wo _ _ _ _ _ _ _ _ _ _ [va_rf r40]
    refine r_ckI hC (r := r40) q_1311 dX8_bid_120 ?_
    refine r_iconst hC (0) rfl dX8_bid_123 ?_
    refine r_aI hC (r := r40) dX8_bid_124 (fun v43 => ?_)
    refine r_iloadn hC 0 rfl rfl dX8_bid_125 ?_
    refine r_icmp_ne hC 137 dX8_bid_126 (by decide) ?_ ?_
    · exact t_X8_bid_137 hC P108 hm108 k108 hk108 x108_1 x108_3 x108_4 x108_5 σ41 _ _ ⟨by omega, by omega⟩ (hm108 _ _ _ _ (by omega) (by omega) hP108)
    · refine r_aload hC 2 (r := x108_4) rfl dX8_bid_129 ?_
      refine r_iload hC 3 rfl dX8_bid_131 ?_
      refine call_V hC (av := [.int x108_5]) (st := []) (r := x108_4) (ci := 1) rfl rfl (fun h9 => ct_Jx4a65c_remove_915e3 hC.hl G h9 x108_5 σ41) q_1312 q_1313 q_1314 q_47 q_1315 yd_Jx4a65c_remove_915e3 rfl ⟨Nat.le_of_ble_eq_true rfl, Nat.le_of_ble_eq_true rfl⟩ ⟨by omega, by omega⟩ rfl (Nat.le_of_ble_eq_true rfl) dX8_bid_133 (fun r45 σ46 => ?_)
      show Wo _ _ _ _ _ _ _ _ _ _ [va_rf r45]
      refine r_pop hC (cat_rf _) dX8_bid_136 ?_
      exact t_X8_bid_137 hC P108 hm108 k108 hk108 x108_1 x108_3 x108_4 x108_5 σ46 _ _ ⟨by omega, by omega⟩ (hm108 _ _ _ _ (by omega) (by omega) hP108)

set_option maxRecDepth 100000 in
set_option maxHeartbeats 4000000 in
theorem u_X8_bid_108 {C : Cxt} {G : Glb} (hC : CX C G RX8 cX8_bid 6 (some .int) 7 2 24 149) : ∀ (n : Nat) (x108_1 : Int32) (x108_3 : Int32) (x108_4 : (Option Nat)) (x108_5 : Int32) (σ : Mem) (kc ks : Nat), (∀ m, n = m + 1 → (kc + m * 0 + 2 ≤ 2 ∧ ks + m * 0 + 24 ≤ 24)) → Wo C G 6 (QP C G rvI 2 24) (l_X8_bid_108 G.2.2.2.1 G.2.2.2.2  n x108_1 x108_3 x108_4 x108_5 σ) σ kc ks 108 [(1, .int x108_1), (3, .int x108_3), (4, va_rf x108_4), (5, .int x108_5)] [] := by
  intro n
  induction n with
  | zero => intro x108_1 x108_3 x108_4 x108_5 σ kc ks h0; exact Wo.none
  | succ n ih =>
    intro x108_1 x108_3 x108_4 x108_5 σ kc ks h0
    exact t_X8_bid_108 hC (fun kc ks => (∀ m, n = m + 1 → (kc + m * 0 + 2 ≤ 2 ∧ ks + m * 0 + 24 ≤ 24))) (fun a b a2 b2 h1 h2 h m e => ⟨by have := (h m e).1; omega, by have := (h m e).2; omega⟩) (l_X8_bid_108 G.2.2.2.1 G.2.2.2.2  n) ih x108_1 x108_3 x108_4 x108_5 σ kc ks ⟨by have := (h0 n rfl).1; omega, by have := (h0 n rfl).2; omega⟩ (fun m e => by
      subst e
      exact ⟨by have := (h0 _ rfl).1; omega, by have := (h0 _ rfl).2; omega⟩)

set_option maxRecDepth 100000 in
set_option maxHeartbeats 4000000 in
theorem t_X8_bid_74 {C : Cxt} {G : Glb} (hC : CX C G RX8 cX8_bid 6 (some .int) 7 2 24 149) (a0 : Nat) (x74_1 : Int32) (x74_2 : Int32) (x74_3 : Int32) (y74_0 : Int32) (y74_1 : (Option Nat)) (σ : Mem) (kc ks : Nat) (hN : kc + 2 ≤ 2 ∧ ks + 24 ≤ 24) : Wo C G 6 (QP C G rvI 2 24) (b_X8_bid_74 G.2.2.2.1 G.2.2.2.2  a0 x74_1 x74_2 x74_3 y74_0 y74_1 σ) σ kc ks 74 [(0, va_rf (some a0)), (1, .int x74_1), (2, .int x74_2), (3, .int x74_3)] [.int y74_0, va_rf y74_1] := by
  unfold b_X8_bid_74
  refine r_iconst hC (3) rfl dX8_bid_74 ?_
  refine call_V hC (av := [.int y74_0, .int 3]) (st := []) (r := y74_1) (ci := 10) rfl rfl (fun h9 => ct_X8_refuse hC.hl G h9 y74_0 3 σ) q_886 q_888 q_13 q_44 q_889 yd_X8_refuse rfl ⟨Nat.le_of_ble_eq_true rfl, Nat.le_of_ble_eq_true rfl⟩ ⟨by omega, by omega⟩ rfl (Nat.le_of_ble_eq_true rfl) dX8_bid_75 (fun v18 σ19 => ?_)
  show Wo _ _ _ _ _ _ _ _ _ _ [.int v18]
  refine r_if_eq hC 83 dX8_bid_78 (by decide) ?_ ?_
  · refine r_aloadn hC 0 (r := (some a0)) rfl rfl dX8_bid_83 ?_
    refine r_gR hC (k := 7) (r := (some a0)) cls_10 (by decide) rfl q_847 (Or.inl rfl) dX8_bid_84 (fun r21 => ?_)
    refine r_iloadn hC 2 rfl rfl dX8_bid_87 ?_
    refine call_V hC (av := [.int x74_2]) (st := []) (r := r21) (ci := 1) rfl rfl (fun h9 => ct_Jx4a65c_get_915e3 hC.hl G h9 x74_2 σ19) q_1057 q_1058 q_1059 q_47 q_1060 yd_Jx4a65c_get_915e3 rfl ⟨Nat.le_of_ble_eq_true rfl, Nat.le_of_ble_eq_true rfl⟩ ⟨by omega, by omega⟩ rfl (Nat.le_of_ble_eq_true rfl) dX8_bid_88 (fun r22 σ23 => ?_)
    show Wo _ _ _ _ _ _ _ _ _ _ [va_rf r22]
    refine r_ckO hC (r := r22) cls_7 q_1087 dX8_bid_91 ?_
    refine r_gR hC (k := 14) (r := r22) cls_7 (by decide) rfl q_1124 (Or.inl rfl) dX8_bid_94 (fun r25 => ?_)
    refine r_astore hC [(4, va_rf r25), (0, va_rf (some a0)), (1, .int x74_1), (2, .int x74_2), (3, .int x74_3)] (r := r25) (i := 4) (by decide) rfl dX8_bid_97 ?_
    refine r_aload hC 0 (r := r25) rfl dX8_bid_99 ?_
    refine call_V hC (av := []) (st := []) (r := r25) (ci := 1) rfl rfl (fun h9 => ct_Jx4a65c_size_8abf5 hC.hl G h9 σ23) q_890 q_891 q_892 q_47 q_893 yd_Jx4a65c_size_8abf5 rfl ⟨Nat.le_of_ble_eq_true rfl, Nat.le_of_ble_eq_true rfl⟩ ⟨by omega, by omega⟩ rfl (Nat.le_of_ble_eq_true rfl) dX8_bid_101 (fun v26 σ27 => ?_)
    show Wo _ _ _ _ _ _ _ _ _ _ [.int v26]
    refine r_iconst hC (1) rfl dX8_bid_104 ?_
    refine r_isub hC dX8_bid_105 (fun v29 => ?_)
    refine r_istore hC [(5, .int v29), (4, va_rf r25), (0, va_rf (some a0)), (1, .int x74_1), (2, .int x74_2), (3, .int x74_3)] (i := 5) (by decide) (by simp [List.filter, cat_rf, cat_i, cat_j, cat_d, cat_a]) dX8_bid_106 ?_
    refine Wo.sub [3, 5, 1, 0] rfl ?_
    exact u_X8_bid_108 hC 40 x74_1 x74_3 r25 v29 σ27 _ _ (fun m e => by cases e; exact ⟨by omega, by omega⟩)
  · refine Wo.sub [] rfl ?_
    exact t_X8_bid_81 hC  σ19 _ _ ⟨by omega, by omega⟩

set_option maxRecDepth 100000 in
set_option maxHeartbeats 4000000 in
theorem t_X8_bid_44 {C : Cxt} {G : Glb} (hC : CX C G RX8 cX8_bid 6 (some .int) 7 2 24 149) (a0 : Nat) (x44_1 : Int32) (x44_2 : Int32) (x44_3 : Int32) (y44_0 : Int32) (y44_1 : (Option Nat)) (σ : Mem) (kc ks : Nat) (hN : kc + 2 ≤ 2 ∧ ks + 24 ≤ 24) : Wo C G 6 (QP C G rvI 2 24) (b_X8_bid_44 G.2.2.2.1 G.2.2.2.2  a0 x44_1 x44_2 x44_3 y44_0 y44_1 σ) σ kc ks 44 [(0, va_rf (some a0)), (1, .int x44_1), (2, .int x44_2), (3, .int x44_3)] [.int y44_0, va_rf y44_1] := by
  unfold b_X8_bid_44
  refine r_iconst hC (2) rfl dX8_bid_44 ?_
  refine call_V hC (av := [.int y44_0, .int 2]) (st := []) (r := y44_1) (ci := 10) rfl rfl (fun h9 => ct_X8_refuse hC.hl G h9 y44_0 2 σ) q_886 q_888 q_13 q_44 q_889 yd_X8_refuse rfl ⟨Nat.le_of_ble_eq_true rfl, Nat.le_of_ble_eq_true rfl⟩ ⟨by omega, by omega⟩ rfl (Nat.le_of_ble_eq_true rfl) dX8_bid_45 (fun v8 σ9 => ?_)
  show Wo _ _ _ _ _ _ _ _ _ _ [.int v8]
  refine r_if_ne hC 81 dX8_bid_48 (by decide) ?_ ?_
  · refine Wo.sub [] rfl ?_
    exact t_X8_bid_81 hC  σ9 _ _ ⟨by omega, by omega⟩
  · refine r_aloadn hC 0 (r := (some a0)) rfl rfl dX8_bid_51 ?_
    refine r_aloadn hC 0 (r := (some a0)) rfl rfl dX8_bid_52 ?_
    refine r_gR hC (k := 7) (r := (some a0)) cls_10 (by decide) rfl q_847 (Or.inl rfl) dX8_bid_53 (fun r11 => ?_)
    refine r_iloadn hC 2 rfl rfl dX8_bid_56 ?_
    refine call_V hC (av := [.int x44_2]) (st := [va_rf (some a0)]) (r := r11) (ci := 1) rfl rfl (fun h9 => ct_Jx4a65c_get_915e3 hC.hl G h9 x44_2 σ9) q_1057 q_1058 q_1059 q_47 q_1060 yd_Jx4a65c_get_915e3 rfl ⟨Nat.le_of_ble_eq_true rfl, Nat.le_of_ble_eq_true rfl⟩ ⟨by omega, by omega⟩ rfl (by simp [cat_rf, cat_i, cat_j, cat_d, cat_a]) dX8_bid_57 (fun r12 σ13 => ?_)
    show Wo _ _ _ _ _ _ _ _ _ _ [va_rf r12, va_rf (some a0)]
    refine r_ckO hC (r := r12) cls_7 q_1087 dX8_bid_60 ?_
    refine call_V hC (av := []) (st := [va_rf (some a0)]) (r := r12) (ci := 7) rfl rfl (fun h9 => ct_X5_isOffered hC.hl G h9 σ13) q_1223 q_1224 q_1225 q_63 q_1226 yd_X5_isOffered rfl ⟨Nat.le_of_ble_eq_true rfl, Nat.le_of_ble_eq_true rfl⟩ ⟨by omega, by omega⟩ rfl (by simp [cat_rf, cat_i, cat_j, cat_d, cat_a]) dX8_bid_63 (fun v15 σ16 => ?_)
    show Wo _ _ _ _ _ _ _ _ _ _ [.int v15, va_rf (some a0)]
    refine r_if_ne hC 73 dX8_bid_66 (by decide) ?_ ?_
    · refine r_iconst hC (0) rfl dX8_bid_73 ?_
      exact t_X8_bid_74 hC a0 x44_1 x44_2 x44_3 0 (some a0) σ16 _ _ ⟨by omega, by omega⟩
    · refine r_iconst hC (1) rfl dX8_bid_69 ?_
      refine r_goto hC 74 dX8_bid_70 (by decide) ?_
      exact t_X8_bid_74 hC a0 x44_1 x44_2 x44_3 1 (some a0) σ16 _ _ ⟨by omega, by omega⟩

set_option maxRecDepth 100000 in
set_option maxHeartbeats 4000000 in
theorem t_X8_bid_21 {C : Cxt} {G : Glb} (hC : CX C G RX8 cX8_bid 6 (some .int) 7 2 24 149) (a0 : Nat) (x21_1 : Int32) (x21_2 : Int32) (x21_3 : Int32) (y21_0 : Int32) (y21_1 : (Option Nat)) (σ : Mem) (kc ks : Nat) (hN : kc + 2 ≤ 2 ∧ ks + 24 ≤ 24) : Wo C G 6 (QP C G rvI 2 24) (b_X8_bid_21 G.2.2.2.1 G.2.2.2.2  a0 x21_1 x21_2 x21_3 y21_0 y21_1 σ) σ kc ks 21 [(0, va_rf (some a0)), (1, .int x21_1), (2, .int x21_2), (3, .int x21_3)] [.int y21_0, va_rf y21_1] := by
  unfold b_X8_bid_21
  refine r_iconst hC (1) rfl dX8_bid_21 ?_
  refine call_V hC (av := [.int y21_0, .int 1]) (st := []) (r := y21_1) (ci := 10) rfl rfl (fun h9 => ct_X8_start hC.hl G h9 y21_0 1 σ) q_882 q_884 q_12 q_44 q_885 yd_X8_start rfl ⟨Nat.le_of_ble_eq_true rfl, Nat.le_of_ble_eq_true rfl⟩ ⟨by omega, by omega⟩ rfl (Nat.le_of_ble_eq_true rfl) dX8_bid_22 (fun v3 σ4 => ?_)
  show Wo _ _ _ _ _ _ _ _ _ _ [.int v3]
  refine r_if_ne hC 81 dX8_bid_25 (by decide) ?_ ?_
  · refine Wo.sub [] rfl ?_
    exact t_X8_bid_81 hC  σ4 _ _ ⟨by omega, by omega⟩
  · refine r_aloadn hC 0 (r := (some a0)) rfl rfl dX8_bid_28 ?_
    refine r_iloadn hC 3 rfl rfl dX8_bid_29 ?_
    refine r_iconst hC (1) rfl dX8_bid_30 ?_
    refine r_bipush hC (99) (by decide) dX8_bid_31 ?_
    refine call_S hC (av := [.int x21_3, .int 1, .int 99]) (st := [va_rf (some a0)]) (ct_X8_isIn hC.hl G x21_3 1 99 σ4) q_879 q_880 q_44 q_881 yd_X8_isIn rfl ⟨Nat.le_of_ble_eq_true rfl, Nat.le_of_ble_eq_true rfl⟩ ⟨by omega, by omega⟩ rfl (by simp [cat_rf, cat_i, cat_j, cat_d, cat_a]) dX8_bid_33 (fun v6 σ7 => ?_)
    show Wo _ _ _ _ _ _ _ _ _ _ [.int v6, va_rf (some a0)]
    refine r_if_ne hC 43 dX8_bid_36 (by decide) ?_ ?_
    · refine r_iconst hC (0) rfl dX8_bid_43 ?_
      exact t_X8_bid_44 hC a0 x21_1 x21_2 x21_3 0 (some a0) σ7 _ _ ⟨by omega, by omega⟩
    · refine r_iconst hC (1) rfl dX8_bid_39 ?_
      refine r_goto hC 44 dX8_bid_40 (by decide) ?_
      exact t_X8_bid_44 hC a0 x21_1 x21_2 x21_3 1 (some a0) σ7 _ _ ⟨by omega, by omega⟩

set_option maxRecDepth 100000 in
set_option maxHeartbeats 4000000 in
theorem t_X8_bid_16 {C : Cxt} {G : Glb} (hC : CX C G RX8 cX8_bid 6 (some .int) 7 2 24 149) (a0 : Nat) (x16_1 : Int32) (x16_2 : Int32) (x16_3 : Int32) (y16_0 : (Option Nat)) (σ : Mem) (kc ks : Nat) (hN : kc + 2 ≤ 2 ∧ ks + 24 ≤ 24) : Wo C G 6 (QP C G rvI 2 24) (b_X8_bid_16 G.2.2.2.1 G.2.2.2.2  a0 x16_1 x16_2 x16_3 y16_0 σ) σ kc ks 16 [(0, va_rf (some a0)), (1, .int x16_1), (2, .int x16_2), (3, .int x16_3)] [va_rf y16_0] := by
  unfold b_X8_bid_16
  refine r_iconst hC (1) rfl dX8_bid_16 ?_
  refine r_goto hC 21 dX8_bid_17 (by decide) ?_
  exact t_X8_bid_21 hC a0 x16_1 x16_2 x16_3 1 y16_0 σ _ _ ⟨by omega, by omega⟩

set_option maxRecDepth 100000 in
set_option maxHeartbeats 4000000 in
theorem t_X8_bid_0 {C : Cxt} {G : Glb} (hC : CX C G RX8 cX8_bid 6 (some .int) 7 2 24 149) (a0 : Nat) (p0 : Int32) (p1 : Int32) (p2 : Int32) (σ : Mem) (kc ks : Nat) (hN : kc + 2 ≤ 2 ∧ ks + 24 ≤ 24) : Wo C G 6 (QP C G rvI 2 24) (b_X8_bid_0 G.2.2.2.1 G.2.2.2.2  a0 p0 p1 p2 σ) σ kc ks 0 [(0, va_rf (some a0)), (1, .int p0), (2, .int p1), (3, .int p2)] [] := by
  unfold b_X8_bid_0
  refine r_aloadn hC 0 (r := (some a0)) rfl rfl dX8_bid_0 ?_
  refine r_iloadn hC 1 rfl rfl dX8_bid_1 ?_
  refine call_S hC (av := [.int p0]) (st := [va_rf (some a0)]) (ct_X8_isNoBuyer hC.hl G p0 σ) q_1300 q_1301 q_44 q_1302 yd_X8_isNoBuyer rfl ⟨Nat.le_of_ble_eq_true rfl, Nat.le_of_ble_eq_true rfl⟩ ⟨by omega, by omega⟩ rfl (by simp [cat_rf, cat_i, cat_j, cat_d, cat_a]) dX8_bid_2 (fun v1 σ2 => ?_)
  show Wo _ _ _ _ _ _ _ _ _ _ [.int v1, va_rf (some a0)]
  refine r_if_ne hC 16 dX8_bid_5 (by decide) ?_ ?_
  · exact t_X8_bid_16 hC a0 p0 p1 p2 (some a0) σ2 _ _ ⟨by omega, by omega⟩
  · refine r_aloadn hC 0 (r := (some a0)) rfl rfl dX8_bid_8 ?_
    refine r_iloadn hC 2 rfl rfl dX8_bid_9 ?_
    refine call_V hC (av := [.int p1]) (st := [va_rf (some a0)]) (r := (some a0)) (ci := 10) rfl rfl (fun h9 => ct_X8_isNoLot hC.hl G h9 p1 σ2) q_1165 q_1167 q_19 q_44 q_1168 yd_X8_isNoLot rfl ⟨Nat.le_of_ble_eq_true rfl, Nat.le_of_ble_eq_true rfl⟩ ⟨by omega, by omega⟩ rfl (by simp [cat_rf, cat_i, cat_j, cat_d, cat_a]) dX8_bid_10 (fun v48 σ49 => ?_)
    show Wo _ _ _ _ _ _ _ _ _ _ [.int v48, va_rf (some a0)]
    refine r_if_eq hC 20 dX8_bid_13 (by decide) ?_ ?_
    · refine r_iconst hC (0) rfl dX8_bid_20 ?_
      exact t_X8_bid_21 hC a0 p0 p1 p2 0 (some a0) σ49 _ _ ⟨by omega, by omega⟩
    · exact t_X8_bid_16 hC a0 p0 p1 p2 (some a0) σ49 _ _ ⟨by omega, by omega⟩

set_option maxRecDepth 100000 in
set_option maxHeartbeats 4000000 in
theorem ct_X8_bid {l : Launch} (hl : l.stackTraces = false) (G : Glb) (a0 : Nat) (p0 : Int32) (p1 : Int32) (p2 : Int32) (σ : Mem) : Ct rvI l yX8_bid (Cond.code yX8_bid cX8_bid 6 (some .int) :: uW) { frames := 7, cells := 2, slots := 24, locals := 149 } 2 24 G [.ref a0, .int p0, .int p1, .int p2] σ (f_X8_bid G.2.2.2.1 G.2.2.2.2 a0 p0 p1 p2 σ) := by
  refine Ct.of hl (by decide +kernel) (Nat.le_of_ble_eq_true rfl) (fun C hC hin => ?_)
  have e : lv_args 0 [.ref a0, .int p0, .int p1, .int p2] = [(0, .ref a0), (1, .int p0), (2, .int p1), (3, .int p2)] := rfl
  rw [e]
  exact t_X8_bid_0 hC a0 p0 p1 p2 σ 0 0 ⟨Nat.le_of_ble_eq_true rfl, Nat.le_of_ble_eq_true rfl⟩

noncomputable def b_X8_able_78 (e0 mi : Nat) (k16 : Nat → (Option Nat) → (Option Nat) → (Option Nat) → Mem → Option ((Option Nat) × Mem)) (a0 : Nat) (x78_1 : (Option Nat)) (x78_2 : (Option Nat)) (x78_3 : (Option Nat)) (σ : Mem) : Option ((Option Nat) × Mem) :=
k16 a0 x78_1 x78_2 x78_3 σ

noncomputable def b_X8_able_16 (e0 mi : Nat) (k16 : Nat → (Option Nat) → (Option Nat) → (Option Nat) → Mem → Option ((Option Nat) × Mem)) (a0 : Nat) (x16_1 : (Option Nat)) (x16_2 : (Option Nat)) (x16_3 : (Option Nat)) (σ : Mem) : Option ((Option Nat) × Mem) :=
ob 0 σ x16_3 fun h12 => cl1 (f_Jx35411_hasNext_aae02 h12 σ) fun v10 σ11 =>
if v10 = 0 then
some (x16_2, σ11)
else
ob 0 σ11 x16_3 fun h15 => cl1 (f_Jx35411_next_0502b e0 mi h15 σ11) fun r13 σ14 =>
ck 100 σ14 r13 <|
aI σ14 r13 1 fun v16 =>
gI 7 13 σ14 x16_1 fun v17 =>
if v16 < v17 then
b_X8_able_78 e0 mi k16 a0 x16_1 x16_2 x16_3 σ14
else
gR 10 9 σ14 (some a0) fun r18 =>
aI σ14 r13 0 fun v19 =>
aI σ14 r18 v19 fun v20 =>
aI σ14 r13 1 fun v21 =>
ob 7 σ14 x16_1 fun h24 => cl1 (f_X5_dry h24 σ14) fun v22 σ23 =>
nm (v21 * v22) fun v25 =>
dv v25 10 fun v26 =>
if v20 < v26 then
b_X8_able_78 e0 mi k16 a0 x16_1 x16_2 x16_3 σ23
else
ob 1 σ23 x16_2 fun h29 => cl1 (f_Jx4a65c_add_9ea2d e0 mi h29 r13 σ23) fun v27 σ28 =>
b_X8_able_78 e0 mi k16 a0 x16_1 x16_2 x16_3 σ28

noncomputable def l_X8_able_16 (e0 mi : Nat) (n : Nat) : Nat → (Option Nat) → (Option Nat) → (Option Nat) → Mem → Option ((Option Nat) × Mem) := itr (fun _ _ _ _ _ => none) (fun k => b_X8_able_16 e0 mi  k) n

noncomputable def b_X8_able_0 (e0 mi : Nat) (a0 : Nat) (p0 : (Option Nat)) (σ : Mem) : Option ((Option Nat) × Mem) :=
nO 1 σ fun σ1 r2 =>
ob 1 σ1 r2 fun h5 => cl1 (f_Jx4a65c_init_da8c8 e0 mi h5 σ1) fun _ σ4 =>
gR 7 14 σ4 p0 fun r6 =>
ob 1 σ4 r6 fun h9 => cl1 (f_Jx4a65c_iterator_32c93 h9 σ4) fun r7 σ8 =>
l_X8_able_16 e0 mi 5 a0 p0 r2 r7 σ8

noncomputable def f_X8_able (e0 mi : Nat) (a0 : Nat) (p0 : (Option Nat)) (σ : Mem) : Option ((Option Nat) × Mem) := b_X8_able_0 e0 mi a0 p0 σ
set_option maxRecDepth 100000 in
set_option maxHeartbeats 4000000 in
theorem t_X8_able_78 {C : Cxt} {G : Glb} (hC : CX C G RX8 cX8_able 5 (some (.object "java/util/ArrayList")) 7 7 117 149) (P16 : Nat → Nat → Prop) (hm16 : ∀ a b a2 b2 : Nat, a ≤ a2 → b ≤ b2 → P16 a2 b2 → P16 a b) (k16 : Nat → (Option Nat) → (Option Nat) → (Option Nat) → Mem → Option ((Option Nat) × Mem)) (hk16 : ∀ (a0 : Nat) (x16_1 : (Option Nat)) (x16_2 : (Option Nat)) (x16_3 : (Option Nat)) (σ : Mem) (kc ks : Nat), P16 kc ks → Wo C G 5 (QP C G rvR 7 117) (k16 a0 x16_1 x16_2 x16_3 σ) σ kc ks 16 [(0, va_rf (some a0)), (1, va_rf x16_1), (2, va_rf x16_2), (3, va_rf x16_3)] []) (a0 : Nat) (x78_1 : (Option Nat)) (x78_2 : (Option Nat)) (x78_3 : (Option Nat)) (σ : Mem) (kc ks : Nat) (hN : kc + 0 ≤ 7 ∧ ks + 0 ≤ 117) (hP16 : P16 (kc + 0) (ks + 0)) : Wo C G 5 (QP C G rvR 7 117) (b_X8_able_78 G.2.2.2.1 G.2.2.2.2 k16 a0 x78_1 x78_2 x78_3 σ) σ kc ks 78 [(0, va_rf (some a0)), (1, va_rf x78_1), (2, va_rf x78_2), (3, va_rf x78_3)] [] := by
  unfold b_X8_able_78
  refine r_goto hC 16 dX8_able_78 (by decide) ?_
  exact hk16 a0 x78_1 x78_2 x78_3 σ _ _ (hm16 _ _ _ _ (by omega) (by omega) hP16)

set_option maxRecDepth 100000 in
set_option maxHeartbeats 4000000 in
theorem t_X8_able_16 {C : Cxt} {G : Glb} (hC : CX C G RX8 cX8_able 5 (some (.object "java/util/ArrayList")) 7 7 117 149) (P16 : Nat → Nat → Prop) (hm16 : ∀ a b a2 b2 : Nat, a ≤ a2 → b ≤ b2 → P16 a2 b2 → P16 a b) (k16 : Nat → (Option Nat) → (Option Nat) → (Option Nat) → Mem → Option ((Option Nat) × Mem)) (hk16 : ∀ (a0 : Nat) (x16_1 : (Option Nat)) (x16_2 : (Option Nat)) (x16_3 : (Option Nat)) (σ : Mem) (kc ks : Nat), P16 kc ks → Wo C G 5 (QP C G rvR 7 117) (k16 a0 x16_1 x16_2 x16_3 σ) σ kc ks 16 [(0, va_rf (some a0)), (1, va_rf x16_1), (2, va_rf x16_2), (3, va_rf x16_3)] []) (a0 : Nat) (x16_1 : (Option Nat)) (x16_2 : (Option Nat)) (x16_3 : (Option Nat)) (σ : Mem) (kc ks : Nat) (hN : kc + 1 ≤ 7 ∧ ks + 22 ≤ 117) (hP16 : P16 (kc + 1) (ks + 22)) : Wo C G 5 (QP C G rvR 7 117) (b_X8_able_16 G.2.2.2.1 G.2.2.2.2 k16 a0 x16_1 x16_2 x16_3 σ) σ kc ks 16 [(0, va_rf (some a0)), (1, va_rf x16_1), (2, va_rf x16_2), (3, va_rf x16_3)] [] := by
  unfold b_X8_able_16
  refine r_aloadn hC 3 (r := x16_3) rfl rfl dX8_able_16 ?_
  refine call_F hC (av := []) (st := []) (r := x16_3) (ci := 0) rfl hC.hK.1.2.2.2.1.1 (fun h9 => ct_Jx35411_hasNext_aae02 hC.hl G h9 σ) q_1017 q_1023 q_1021 q_59 q_1025 ydx_hasNext rfl ⟨Nat.le_of_ble_eq_true rfl, Nat.le_of_ble_eq_true rfl⟩ ⟨by omega, by omega⟩ rfl (Nat.le_of_ble_eq_true rfl) dX8_able_17 (fun v10 σ11 => ?_)
  show Wo _ _ _ _ _ _ _ _ _ _ [.int v10]
  refine r_if_eq hC 81 dX8_able_22 (by decide) ?_ ?_
  · refine r_aloadn hC 2 (r := x16_2) rfl rfl dX8_able_81 ?_
    exact e_R hC (Or.inl ⟨_, rfl⟩) ⟨by omega, by omega⟩ dX8_able_82
  · refine r_aloadn hC 3 (r := x16_3) rfl rfl dX8_able_25 ?_
    refine call_F hC (av := []) (st := []) (r := x16_3) (ci := 0) rfl hC.hK.1.2.2.2.1.2.1 (fun h9 => ct_Jx35411_next_0502b hC.hl G h9 σ11) q_1027 q_1032 q_1030 q_59 q_1034 ydx_next rfl ⟨Nat.le_of_ble_eq_true rfl, Nat.le_of_ble_eq_true rfl⟩ ⟨by omega, by omega⟩ rfl (Nat.le_of_ble_eq_true rfl) dX8_able_26 (fun r13 σ14 => ?_)
    show Wo _ _ _ _ _ _ _ _ _ _ [va_rf r13]
    refine r_ckI hC (r := r13) q_1311 dX8_able_31 ?_
    refine r_astore hC [(4, va_rf r13), (0, va_rf (some a0)), (1, va_rf x16_1), (2, va_rf x16_2), (3, va_rf x16_3)] (r := r13) (i := 4) (by decide) (by simp [List.filter, cat_rf, cat_i, cat_j, cat_d, cat_a]) dX8_able_34 ?_
    refine r_aload hC 0 (r := r13) rfl dX8_able_36 ?_
    refine r_iconst hC (1) rfl dX8_able_38 ?_
    refine r_aI hC (r := r13) dX8_able_39 (fun v16 => ?_)
    refine r_aloadn hC 2 (r := x16_1) rfl rfl dX8_able_40 ?_
    refine r_gI hC (k := 13) (r := x16_1) cls_7 (by decide) rfl q_1122 (Or.inl rfl) dX8_able_41 (fun v17 => ?_)
    refine r_icmp_lt hC 78 dX8_able_44 (by decide) ?_ ?_
    · refine Wo.sub [1, 2, 3, 4] rfl ?_
      exact t_X8_able_78 hC P16 hm16 k16 hk16 a0 x16_1 x16_2 x16_3 σ14 _ _ ⟨by omega, by omega⟩ (hm16 _ _ _ _ (by omega) (by omega) hP16)
    · refine r_aloadn hC 1 (r := (some a0)) rfl rfl dX8_able_47 ?_
      refine r_gR hC (k := 9) (r := (some a0)) cls_10 (by decide) rfl q_849 (Or.inl rfl) dX8_able_48 (fun r18 => ?_)
      refine r_aload hC 0 (r := r13) rfl dX8_able_51 ?_
      refine r_iconst hC (0) rfl dX8_able_53 ?_
      refine r_aI hC (r := r13) dX8_able_54 (fun v19 => ?_)
      refine r_aI hC (r := r18) dX8_able_55 (fun v20 => ?_)
      refine r_aload hC 0 (r := r13) rfl dX8_able_56 ?_
      refine r_iconst hC (1) rfl dX8_able_58 ?_
      refine r_aI hC (r := r13) dX8_able_59 (fun v21 => ?_)
      refine r_aloadn hC 2 (r := x16_1) rfl rfl dX8_able_60 ?_
      refine call_V hC (av := []) (st := [.int v21, .int v20]) (r := x16_1) (ci := 7) rfl rfl (fun h9 => ct_X5_dry hC.hl G h9 σ14) q_1157 q_1158 q_1159 q_63 q_1160 yd_X5_dry rfl ⟨Nat.le_of_ble_eq_true rfl, Nat.le_of_ble_eq_true rfl⟩ ⟨by omega, by omega⟩ rfl (by simp [cat_rf, cat_i, cat_j, cat_d, cat_a]) dX8_able_61 (fun v22 σ23 => ?_)
      show Wo _ _ _ _ _ _ _ _ _ _ [.int v22, .int v21, .int v20]
      refine r_imul hC dX8_able_64 (fun v25 => ?_)
      refine r_bipush hC (10) (by decide) dX8_able_65 ?_
      refine r_idiv hC dX8_able_67 (fun v26 => ?_)
      refine r_icmp_lt hC 78 dX8_able_68 (by decide) ?_ ?_
      · refine Wo.sub [1, 2, 3, 4] rfl ?_
        exact t_X8_able_78 hC P16 hm16 k16 hk16 a0 x16_1 x16_2 x16_3 σ23 _ _ ⟨by omega, by omega⟩ (hm16 _ _ _ _ (by omega) (by omega) hP16)
      · refine r_aloadn hC 3 (r := x16_2) rfl rfl dX8_able_71 ?_
        refine r_aload hC 0 (r := r13) rfl dX8_able_72 ?_
        refine call_V hC (av := [va_rf r13]) (st := []) (r := x16_2) (ci := 1) rfl rfl (fun h9 => ct_Jx4a65c_add_9ea2d hC.hl G h9 r13 σ23) q_929 q_930 q_931 q_47 q_932 yd_Jx4a65c_add_9ea2d rfl ⟨Nat.le_of_ble_eq_true rfl, Nat.le_of_ble_eq_true rfl⟩ ⟨by omega, by omega⟩ rfl (Nat.le_of_ble_eq_true rfl) dX8_able_74 (fun v27 σ28 => ?_)
        show Wo _ _ _ _ _ _ _ _ _ _ [.int v27]
        refine r_pop hC rfl dX8_able_77 ?_
        refine Wo.sub [1, 2, 3, 4] rfl ?_
        exact t_X8_able_78 hC P16 hm16 k16 hk16 a0 x16_1 x16_2 x16_3 σ28 _ _ ⟨by omega, by omega⟩ (hm16 _ _ _ _ (by omega) (by omega) hP16)

set_option maxRecDepth 100000 in
set_option maxHeartbeats 4000000 in
theorem u_X8_able_16 {C : Cxt} {G : Glb} (hC : CX C G RX8 cX8_able 5 (some (.object "java/util/ArrayList")) 7 7 117 149) : ∀ (n : Nat) (a0 : Nat) (x16_1 : (Option Nat)) (x16_2 : (Option Nat)) (x16_3 : (Option Nat)) (σ : Mem) (kc ks : Nat), (∀ m, n = m + 1 → (kc + m * 1 + 1 ≤ 7 ∧ ks + m * 22 + 22 ≤ 117)) → Wo C G 5 (QP C G rvR 7 117) (l_X8_able_16 G.2.2.2.1 G.2.2.2.2  n a0 x16_1 x16_2 x16_3 σ) σ kc ks 16 [(0, va_rf (some a0)), (1, va_rf x16_1), (2, va_rf x16_2), (3, va_rf x16_3)] [] := by
  intro n
  induction n with
  | zero => intro a0 x16_1 x16_2 x16_3 σ kc ks h0; exact Wo.none
  | succ n ih =>
    intro a0 x16_1 x16_2 x16_3 σ kc ks h0
    exact t_X8_able_16 hC (fun kc ks => (∀ m, n = m + 1 → (kc + m * 1 + 1 ≤ 7 ∧ ks + m * 22 + 22 ≤ 117))) (fun a b a2 b2 h1 h2 h m e => ⟨by have := (h m e).1; omega, by have := (h m e).2; omega⟩) (l_X8_able_16 G.2.2.2.1 G.2.2.2.2  n) ih a0 x16_1 x16_2 x16_3 σ kc ks ⟨by have := (h0 n rfl).1; omega, by have := (h0 n rfl).2; omega⟩ (fun m e => by
      subst e
      exact ⟨by have := (h0 _ rfl).1; omega, by have := (h0 _ rfl).2; omega⟩)

set_option maxRecDepth 100000 in
set_option maxHeartbeats 4000000 in
theorem t_X8_able_0 {C : Cxt} {G : Glb} (hC : CX C G RX8 cX8_able 5 (some (.object "java/util/ArrayList")) 7 7 117 149) (a0 : Nat) (p0 : (Option Nat)) (σ : Mem) (kc ks : Nat) (hN : kc + 7 ≤ 7 ∧ ks + 117 ≤ 117) : Wo C G 5 (QP C G rvR 7 117) (b_X8_able_0 G.2.2.2.1 G.2.2.2.2  a0 p0 σ) σ kc ks 0 [(0, va_rf (some a0)), (1, va_rf p0)] [] := by
  unfold b_X8_able_0
  refine r_nO hC cls_1 q_791 q_792 q_47 ⟨by omega, by omega⟩ dX8_able_0 (fun σ1 r2 => ?_)
  refine r_dup hC (cat_rf _) dX8_able_3 ?_
  refine call_I hC (av := []) (st := [va_rf r2]) (r := r2) (ci := 1) (fun h9 => ct_Jx4a65c_init_da8c8 hC.hl G h9 σ1) q_793 q_794 q_47 q_795 rfl yd_Jx4a65c_init_da8c8 rfl ⟨Nat.le_of_ble_eq_true rfl, Nat.le_of_ble_eq_true rfl⟩ ⟨by omega, by omega⟩ rfl (by simp [cat_rf, cat_i, cat_j, cat_d, cat_a]) dX8_able_4 (fun σ4 => ?_)
  refine r_astoren hC [(2, va_rf r2), (0, va_rf (some a0)), (1, va_rf p0)] (r := r2) (i := 2) rfl (by decide) (by simp [List.filter, cat_rf, cat_i, cat_j, cat_d, cat_a]) dX8_able_7 ?_
  refine r_aloadn hC 2 (r := p0) rfl rfl dX8_able_8 ?_
  refine r_gR hC (k := 14) (r := p0) cls_7 (by decide) rfl q_1124 (Or.inl rfl) dX8_able_9 (fun r6 => ?_)
  refine call_V hC (av := []) (st := []) (r := r6) (ci := 1) rfl rfl (fun h9 => ct_Jx4a65c_iterator_32c93 hC.hl G h9 σ4) q_993 q_994 q_995 q_47 q_996 yd_Jx4a65c_iterator_32c93 rfl ⟨Nat.le_of_ble_eq_true rfl, Nat.le_of_ble_eq_true rfl⟩ ⟨by omega, by omega⟩ rfl (Nat.le_of_ble_eq_true rfl) dX8_able_12 (fun r7 σ8 => ?_)
  show Wo _ _ _ _ _ _ _ _ _ _ [va_rf r7]
  refine r_astoren hC [(3, va_rf r7), (2, va_rf r2), (0, va_rf (some a0)), (1, va_rf p0)] (r := r7) (i := 3) rfl (by decide) (by simp [List.filter, cat_rf, cat_i, cat_j, cat_d, cat_a]) dX8_able_15 ?_
  refine Wo.sub [2, 3, 1, 0] rfl ?_
  exact u_X8_able_16 hC 5 a0 p0 r2 r7 σ8 _ _ (fun m e => by cases e; exact ⟨by omega, by omega⟩)

set_option maxRecDepth 100000 in
set_option maxHeartbeats 4000000 in
theorem ct_X8_able {l : Launch} (hl : l.stackTraces = false) (G : Glb) (a0 : Nat) (p0 : (Option Nat)) (σ : Mem) : Ct rvR l yX8_able (Cond.code yX8_able cX8_able 5 (some (.object "java/util/ArrayList")) :: uW) { frames := 7, cells := 7, slots := 117, locals := 149 } 7 117 G [.ref a0, va_rf p0] σ (f_X8_able G.2.2.2.1 G.2.2.2.2 a0 p0 σ) := by
  refine Ct.of hl (by decide +kernel) (by simp [lg_sl, cat_rf, cat_i, cat_j, cat_d, cat_a]) (fun C hC hin => ?_)
  have e : lv_args 0 [.ref a0, va_rf p0] = [(0, .ref a0), (1, va_rf p0)] := by simp [lv_args, cat_rf, cat_i, cat_j, cat_d, cat_a]
  rw [e]
  exact t_X8_able_0 hC a0 p0 σ 0 0 ⟨Nat.le_of_ble_eq_true rfl, Nat.le_of_ble_eq_true rfl⟩

noncomputable def b_X8_outcome_117 (e0 mi : Nat) (y117_0 : Int32) (y117_1 : Int32) (y117_2 : (Option Nat)) (y117_3 : (Option Nat)) (σ : Mem) : Option ((Option Nat) × Mem) :=
wI σ y117_2 y117_1 y117_0 fun σ17 =>
some (y117_3, σ17)

noncomputable def b_X8_outcome_77 (e0 mi : Nat) (k14 : (Option Nat) → (Option Nat) → Int32 → (Option Nat) → Mem → Option ((Option Nat) × Mem)) (x77_1 : (Option Nat)) (x77_2 : (Option Nat)) (x77_3 : Int32) (x77_4 : (Option Nat)) (σ : Mem) : Option ((Option Nat) × Mem) :=
k14 x77_1 x77_2 x77_3 x77_4 σ

noncomputable def b_X8_outcome_61 (e0 mi : Nat) (k14 : (Option Nat) → (Option Nat) → Int32 → (Option Nat) → Mem → Option ((Option Nat) × Mem)) (x61_1 : (Option Nat)) (x61_4 : (Option Nat)) (x61_5 : (Option Nat)) (y61_0 : Int32) (σ : Mem) : Option ((Option Nat) × Mem) :=
b_X8_outcome_77 e0 mi k14 x61_1 x61_5 y61_0 x61_4 σ

noncomputable def b_X8_outcome_50 (e0 mi : Nat) (k14 : (Option Nat) → (Option Nat) → Int32 → (Option Nat) → Mem → Option ((Option Nat) × Mem)) (x50_1 : (Option Nat)) (x50_2 : (Option Nat)) (x50_4 : (Option Nat)) (x50_5 : (Option Nat)) (σ : Mem) : Option ((Option Nat) × Mem) :=
nul x50_2 (b_X8_outcome_61 e0 mi k14 x50_1 x50_4 x50_5 0 σ) (aI σ x50_2 1 fun v22 =>
b_X8_outcome_61 e0 mi k14 x50_1 x50_4 x50_5 v22 σ)

noncomputable def b_X8_outcome_14 (e0 mi : Nat) (k14 : (Option Nat) → (Option Nat) → Int32 → (Option Nat) → Mem → Option ((Option Nat) × Mem)) (x14_1 : (Option Nat)) (x14_2 : (Option Nat)) (x14_3 : Int32) (x14_4 : (Option Nat)) (σ : Mem) : Option ((Option Nat) × Mem) :=
ob 0 σ x14_4 fun h9 => cl1 (f_Jx35411_hasNext_aae02 h9 σ) fun v7 σ8 =>
if v7 = 0 then
nul x14_2 (some (none, σ8)) (nA 0 2 σ8 2 fun σ10 r11 =>
aI σ10 x14_2 0 fun v12 =>
wI σ10 r11 0 v12 fun σ13 =>
if x14_3 = 0 then
gI 7 13 σ13 x14_1 fun v18 =>
b_X8_outcome_117 e0 mi v18 1 r11 r11 σ13
else
aI σ13 x14_2 1 fun v14 =>
nm (x14_3 + 1) fun v15 =>
nm (if v15 < v14 then v15 else v14) fun v16 =>
b_X8_outcome_117 e0 mi v16 1 r11 r11 σ13)
else
ob 0 σ8 x14_4 fun h21 => cl1 (f_Jx35411_next_0502b e0 mi h21 σ8) fun r19 σ20 =>
ck 100 σ20 r19 <|
nul x14_2 (b_X8_outcome_50 e0 mi k14 x14_1 x14_2 x14_4 r19 σ20) (aI σ20 r19 1 fun v23 =>
aI σ20 x14_2 1 fun v24 =>
if v23 ≤ v24 then
aI σ20 r19 1 fun v25 =>
nm (if x14_3 < v25 then v25 else x14_3) fun v26 =>
b_X8_outcome_77 e0 mi k14 x14_1 x14_2 v26 x14_4 σ20
else
b_X8_outcome_50 e0 mi k14 x14_1 x14_2 x14_4 r19 σ20)

noncomputable def l_X8_outcome_14 (e0 mi : Nat) (n : Nat) : (Option Nat) → (Option Nat) → Int32 → (Option Nat) → Mem → Option ((Option Nat) × Mem) := itr (fun _ _ _ _ _ => none) (fun k => b_X8_outcome_14 e0 mi  k) n

noncomputable def b_X8_outcome_0 (e0 mi : Nat) (a0 : Nat) (p0 : (Option Nat)) (σ : Mem) : Option ((Option Nat) × Mem) :=
ob 10 σ (some a0) fun h3 => cl1 (f_X8_able e0 mi h3 p0 σ) fun r1 σ2 =>
ob 1 σ2 r1 fun h6 => cl1 (f_Jx4a65c_iterator_32c93 h6 σ2) fun r4 σ5 =>
l_X8_outcome_14 e0 mi 5 p0 none 0 r4 σ5

noncomputable def f_X8_outcome (e0 mi : Nat) (a0 : Nat) (p0 : (Option Nat)) (σ : Mem) : Option ((Option Nat) × Mem) := b_X8_outcome_0 e0 mi a0 p0 σ
set_option maxRecDepth 100000 in
set_option maxHeartbeats 4000000 in
theorem t_X8_outcome_117 {C : Cxt} {G : Glb} (hC : CX C G RX8 cX8_outcome 6 (some (.array .int)) 8 9 123 173) (y117_0 : Int32) (y117_1 : Int32) (y117_2 : (Option Nat)) (y117_3 : (Option Nat)) (σ : Mem) (kc ks : Nat) (hN : kc + 0 ≤ 9 ∧ ks + 0 ≤ 123) : Wo C G 6 (QP C G rvR 9 123) (b_X8_outcome_117 G.2.2.2.1 G.2.2.2.2  y117_0 y117_1 y117_2 y117_3 σ) σ kc ks 117 [] [.int y117_0, .int y117_1, va_rf y117_2, va_rf y117_3] := by
  unfold b_X8_outcome_117
  refine r_wI hC (r := y117_2) dX8_outcome_117 (fun σ17 => ?_)
  exact e_R hC (Or.inr ⟨_, rfl⟩) ⟨by omega, by omega⟩ dX8_outcome_118

set_option maxRecDepth 100000 in
set_option maxHeartbeats 4000000 in
theorem t_X8_outcome_77 {C : Cxt} {G : Glb} (hC : CX C G RX8 cX8_outcome 6 (some (.array .int)) 8 9 123 173) (P14 : Nat → Nat → Prop) (hm14 : ∀ a b a2 b2 : Nat, a ≤ a2 → b ≤ b2 → P14 a2 b2 → P14 a b) (k14 : (Option Nat) → (Option Nat) → Int32 → (Option Nat) → Mem → Option ((Option Nat) × Mem)) (hk14 : ∀ (x14_1 : (Option Nat)) (x14_2 : (Option Nat)) (x14_3 : Int32) (x14_4 : (Option Nat)) (σ : Mem) (kc ks : Nat), P14 kc ks → Wo C G 6 (QP C G rvR 9 123) (k14 x14_1 x14_2 x14_3 x14_4 σ) σ kc ks 14 [(1, va_rf x14_1), (2, va_rf x14_2), (3, .int x14_3), (4, va_rf x14_4)] []) (x77_1 : (Option Nat)) (x77_2 : (Option Nat)) (x77_3 : Int32) (x77_4 : (Option Nat)) (σ : Mem) (kc ks : Nat) (hN : kc + 0 ≤ 9 ∧ ks + 0 ≤ 123) (hP14 : P14 (kc + 0) (ks + 0)) : Wo C G 6 (QP C G rvR 9 123) (b_X8_outcome_77 G.2.2.2.1 G.2.2.2.2 k14 x77_1 x77_2 x77_3 x77_4 σ) σ kc ks 77 [(1, va_rf x77_1), (2, va_rf x77_2), (3, .int x77_3), (4, va_rf x77_4)] [] := by
  unfold b_X8_outcome_77
  refine r_goto hC 14 dX8_outcome_77 (by decide) ?_
  exact hk14 x77_1 x77_2 x77_3 x77_4 σ _ _ (hm14 _ _ _ _ (by omega) (by omega) hP14)

set_option maxRecDepth 100000 in
set_option maxHeartbeats 4000000 in
theorem t_X8_outcome_61 {C : Cxt} {G : Glb} (hC : CX C G RX8 cX8_outcome 6 (some (.array .int)) 8 9 123 173) (P14 : Nat → Nat → Prop) (hm14 : ∀ a b a2 b2 : Nat, a ≤ a2 → b ≤ b2 → P14 a2 b2 → P14 a b) (k14 : (Option Nat) → (Option Nat) → Int32 → (Option Nat) → Mem → Option ((Option Nat) × Mem)) (hk14 : ∀ (x14_1 : (Option Nat)) (x14_2 : (Option Nat)) (x14_3 : Int32) (x14_4 : (Option Nat)) (σ : Mem) (kc ks : Nat), P14 kc ks → Wo C G 6 (QP C G rvR 9 123) (k14 x14_1 x14_2 x14_3 x14_4 σ) σ kc ks 14 [(1, va_rf x14_1), (2, va_rf x14_2), (3, .int x14_3), (4, va_rf x14_4)] []) (x61_1 : (Option Nat)) (x61_4 : (Option Nat)) (x61_5 : (Option Nat)) (y61_0 : Int32) (σ : Mem) (kc ks : Nat) (hN : kc + 0 ≤ 9 ∧ ks + 0 ≤ 123) (hP14 : P14 (kc + 0) (ks + 0)) : Wo C G 6 (QP C G rvR 9 123) (b_X8_outcome_61 G.2.2.2.1 G.2.2.2.2 k14 x61_1 x61_4 x61_5 y61_0 σ) σ kc ks 61 [(1, va_rf x61_1), (4, va_rf x61_4), (5, va_rf x61_5)] [.int y61_0] := by
  unfold b_X8_outcome_61
  refine r_istoren hC [(3, .int y61_0), (1, va_rf x61_1), (4, va_rf x61_4), (5, va_rf x61_5)] (i := 3) rfl (by decide) rfl dX8_outcome_61 ?_
  refine r_aload hC 3 (r := x61_5) rfl dX8_outcome_62 ?_
  refine r_astoren hC [(2, va_rf x61_5), (3, .int y61_0), (1, va_rf x61_1), (4, va_rf x61_4), (5, va_rf x61_5)] (r := x61_5) (i := 2) rfl (by decide) (by simp [List.filter, cat_rf, cat_i, cat_j, cat_d, cat_a]) dX8_outcome_64 ?_
  refine r_goto hC 77 dX8_outcome_65 (by decide) ?_
  refine Wo.sub [2, 0, 1, 3] rfl ?_
  exact t_X8_outcome_77 hC P14 hm14 k14 hk14 x61_1 x61_5 y61_0 x61_4 σ _ _ ⟨by omega, by omega⟩ (hm14 _ _ _ _ (by omega) (by omega) hP14)

set_option maxRecDepth 100000 in
set_option maxHeartbeats 4000000 in
theorem t_X8_outcome_50 {C : Cxt} {G : Glb} (hC : CX C G RX8 cX8_outcome 6 (some (.array .int)) 8 9 123 173) (P14 : Nat → Nat → Prop) (hm14 : ∀ a b a2 b2 : Nat, a ≤ a2 → b ≤ b2 → P14 a2 b2 → P14 a b) (k14 : (Option Nat) → (Option Nat) → Int32 → (Option Nat) → Mem → Option ((Option Nat) × Mem)) (hk14 : ∀ (x14_1 : (Option Nat)) (x14_2 : (Option Nat)) (x14_3 : Int32) (x14_4 : (Option Nat)) (σ : Mem) (kc ks : Nat), P14 kc ks → Wo C G 6 (QP C G rvR 9 123) (k14 x14_1 x14_2 x14_3 x14_4 σ) σ kc ks 14 [(1, va_rf x14_1), (2, va_rf x14_2), (3, .int x14_3), (4, va_rf x14_4)] []) (x50_1 : (Option Nat)) (x50_2 : (Option Nat)) (x50_4 : (Option Nat)) (x50_5 : (Option Nat)) (σ : Mem) (kc ks : Nat) (hN : kc + 0 ≤ 9 ∧ ks + 0 ≤ 123) (hP14 : P14 (kc + 0) (ks + 0)) : Wo C G 6 (QP C G rvR 9 123) (b_X8_outcome_50 G.2.2.2.1 G.2.2.2.2 k14 x50_1 x50_2 x50_4 x50_5 σ) σ kc ks 50 [(1, va_rf x50_1), (2, va_rf x50_2), (4, va_rf x50_4), (5, va_rf x50_5)] [] := by
  unfold b_X8_outcome_50
  refine r_aloadn hC 1 (r := x50_2) rfl rfl dX8_outcome_50 ?_
  refine r_ifnonnull hC 58 dX8_outcome_51 (by decide) ?_ ?_
  · refine r_aloadn hC 1 (r := x50_2) rfl rfl dX8_outcome_58 ?_
    refine r_iconst hC (1) rfl dX8_outcome_59 ?_
    refine r_aI hC (r := x50_2) dX8_outcome_60 (fun v22 => ?_)
    refine Wo.sub [0, 2, 3] rfl ?_
    exact t_X8_outcome_61 hC P14 hm14 k14 hk14 x50_1 x50_4 x50_5 v22 σ _ _ ⟨by omega, by omega⟩ (hm14 _ _ _ _ (by omega) (by omega) hP14)
  · refine r_iconst hC (0) rfl dX8_outcome_54 ?_
    refine r_goto hC 61 dX8_outcome_55 (by decide) ?_
    refine Wo.sub [0, 2, 3] rfl ?_
    exact t_X8_outcome_61 hC P14 hm14 k14 hk14 x50_1 x50_4 x50_5 0 σ _ _ ⟨by omega, by omega⟩ (hm14 _ _ _ _ (by omega) (by omega) hP14)

set_option maxRecDepth 100000 in
set_option maxHeartbeats 4000000 in
theorem t_X8_outcome_14 {C : Cxt} {G : Glb} (hC : CX C G RX8 cX8_outcome 6 (some (.array .int)) 8 9 123 173) (P14 : Nat → Nat → Prop) (hm14 : ∀ a b a2 b2 : Nat, a ≤ a2 → b ≤ b2 → P14 a2 b2 → P14 a b) (k14 : (Option Nat) → (Option Nat) → Int32 → (Option Nat) → Mem → Option ((Option Nat) × Mem)) (hk14 : ∀ (x14_1 : (Option Nat)) (x14_2 : (Option Nat)) (x14_3 : Int32) (x14_4 : (Option Nat)) (σ : Mem) (kc ks : Nat), P14 kc ks → Wo C G 6 (QP C G rvR 9 123) (k14 x14_1 x14_2 x14_3 x14_4 σ) σ kc ks 14 [(1, va_rf x14_1), (2, va_rf x14_2), (3, .int x14_3), (4, va_rf x14_4)] []) (x14_1 : (Option Nat)) (x14_2 : (Option Nat)) (x14_3 : Int32) (x14_4 : (Option Nat)) (σ : Mem) (kc ks : Nat) (hN : kc + 1 ≤ 9 ∧ ks + 2 ≤ 123) (hP14 : P14 (kc + 0) (ks + 0)) : Wo C G 6 (QP C G rvR 9 123) (b_X8_outcome_14 G.2.2.2.1 G.2.2.2.2 k14 x14_1 x14_2 x14_3 x14_4 σ) σ kc ks 14 [(1, va_rf x14_1), (2, va_rf x14_2), (3, .int x14_3), (4, va_rf x14_4)] [] := by
  unfold b_X8_outcome_14
  refine r_aload hC 3 (r := x14_4) rfl dX8_outcome_14 ?_
  refine call_F hC (av := []) (st := []) (r := x14_4) (ci := 0) rfl hC.hK.1.2.2.2.1.1 (fun h9 => ct_Jx35411_hasNext_aae02 hC.hl G h9 σ) q_1017 q_1023 q_1021 q_59 q_1025 ydx_hasNext rfl ⟨Nat.le_of_ble_eq_true rfl, Nat.le_of_ble_eq_true rfl⟩ ⟨by omega, by omega⟩ rfl (Nat.le_of_ble_eq_true rfl) dX8_outcome_16 (fun v7 σ8 => ?_)
  show Wo _ _ _ _ _ _ _ _ _ _ [.int v7]
  refine r_if_eq hC 80 dX8_outcome_21 (by decide) ?_ ?_
  · refine r_aloadn hC 1 (r := x14_2) rfl rfl dX8_outcome_80 ?_
    refine r_ifnonnull hC 86 dX8_outcome_81 (by decide) ?_ ?_
    · refine r_iconst hC (2) rfl dX8_outcome_86 ?_
      refine r_nA hC (t := 0) (b := 2) (ty := .int) rfl rfl rfl (fun _ h => va_nm_int h) q_102 (Nat.le_of_ble_eq_true rfl) ⟨by omega, by omega⟩ dX8_outcome_87 (fun σ10 r11 => ?_)
      refine r_dup hC (cat_rf _) dX8_outcome_89 ?_
      refine r_iconst hC (0) rfl dX8_outcome_90 ?_
      refine r_aloadn hC 1 (r := x14_2) rfl rfl dX8_outcome_91 ?_
      refine r_iconst hC (0) rfl dX8_outcome_92 ?_
      refine r_aI hC (r := x14_2) dX8_outcome_93 (fun v12 => ?_)
      refine r_wI hC (r := r11) dX8_outcome_94 (fun σ13 => ?_)
      refine r_dup hC (cat_rf _) dX8_outcome_95 ?_
      refine r_iconst hC (1) rfl dX8_outcome_96 ?_
      refine r_iloadn hC 2 rfl rfl dX8_outcome_97 ?_
      refine r_if_ne hC 108 dX8_outcome_98 (by decide) ?_ ?_
      · refine r_aloadn hC 1 (r := x14_2) rfl rfl dX8_outcome_108 ?_
        refine r_iconst hC (1) rfl dX8_outcome_109 ?_
        refine r_aI hC (r := x14_2) dX8_outcome_110 (fun v14 => ?_)
        refine r_iloadn hC 2 rfl rfl dX8_outcome_111 ?_
        refine r_iconst hC (1) rfl dX8_outcome_112 ?_
        refine r_iadd hC dX8_outcome_113 (fun v15 => ?_)
        refine r_min hC q_1156 q_283 q_56 q_284 (Nat.le_of_ble_eq_true rfl) (by simp [cat_rf, cat_i, cat_j, cat_d, cat_a]) ⟨by omega, by omega⟩ dX8_outcome_114 (fun v16 => ?_)
        refine Wo.sub [] rfl ?_
        exact t_X8_outcome_117 hC v16 1 r11 r11 σ13 _ _ ⟨by omega, by omega⟩
      · refine r_aloadn hC 0 (r := x14_1) rfl rfl dX8_outcome_101 ?_
        refine r_gI hC (k := 13) (r := x14_1) cls_7 (by decide) rfl q_1122 (Or.inl rfl) dX8_outcome_102 (fun v18 => ?_)
        refine r_goto hC 117 dX8_outcome_105 (by decide) ?_
        refine Wo.sub [] rfl ?_
        exact t_X8_outcome_117 hC v18 1 r11 r11 σ13 _ _ ⟨by omega, by omega⟩
    · refine r_null hC dX8_outcome_84 ?_
      exact e_R hC (Or.inr ⟨_, rfl⟩) ⟨by omega, by omega⟩ dX8_outcome_85
  · refine r_aload hC 3 (r := x14_4) rfl dX8_outcome_24 ?_
    refine call_F hC (av := []) (st := []) (r := x14_4) (ci := 0) rfl hC.hK.1.2.2.2.1.2.1 (fun h9 => ct_Jx35411_next_0502b hC.hl G h9 σ8) q_1027 q_1032 q_1030 q_59 q_1034 ydx_next rfl ⟨Nat.le_of_ble_eq_true rfl, Nat.le_of_ble_eq_true rfl⟩ ⟨by omega, by omega⟩ rfl (Nat.le_of_ble_eq_true rfl) dX8_outcome_26 (fun r19 σ20 => ?_)
    show Wo _ _ _ _ _ _ _ _ _ _ [va_rf r19]
    refine r_ckI hC (r := r19) q_1311 dX8_outcome_31 ?_
    refine r_astore hC [(5, va_rf r19), (1, va_rf x14_1), (2, va_rf x14_2), (3, .int x14_3), (4, va_rf x14_4)] (r := r19) (i := 5) (by decide) (by simp [List.filter, cat_rf, cat_i, cat_j, cat_d, cat_a]) dX8_outcome_34 ?_
    refine r_aloadn hC 2 (r := x14_2) rfl rfl dX8_outcome_36 ?_
    refine r_ifnull hC 50 dX8_outcome_37 (by decide) ?_ ?_
    · refine Wo.sub [1, 2, 4, 0] rfl ?_
      exact t_X8_outcome_50 hC P14 hm14 k14 hk14 x14_1 x14_2 x14_4 r19 σ20 _ _ ⟨by omega, by omega⟩ (hm14 _ _ _ _ (by omega) (by omega) hP14)
    · refine r_aload hC 0 (r := r19) rfl dX8_outcome_40 ?_
      refine r_iconst hC (1) rfl dX8_outcome_42 ?_
      refine r_aI hC (r := r19) dX8_outcome_43 (fun v23 => ?_)
      refine r_aloadn hC 2 (r := x14_2) rfl rfl dX8_outcome_44 ?_
      refine r_iconst hC (1) rfl dX8_outcome_45 ?_
      refine r_aI hC (r := x14_2) dX8_outcome_46 (fun v24 => ?_)
      refine r_icmp_le hC 68 dX8_outcome_47 (by decide) ?_ ?_
      · refine r_iloadn hC 3 rfl rfl dX8_outcome_68 ?_
        refine r_aload hC 0 (r := r19) rfl dX8_outcome_69 ?_
        refine r_iconst hC (1) rfl dX8_outcome_71 ?_
        refine r_aI hC (r := r19) dX8_outcome_72 (fun v25 => ?_)
        refine r_max hC q_1269 q_286 q_56 q_287 (Nat.le_of_ble_eq_true rfl) (Nat.le_of_ble_eq_true rfl) ⟨by omega, by omega⟩ dX8_outcome_73 (fun v26 => ?_)
        refine r_istoren hC [(3, .int v26), (5, va_rf r19), (1, va_rf x14_1), (2, va_rf x14_2), (4, va_rf x14_4)] (i := 3) rfl (by decide) (by simp [List.filter, cat_rf, cat_i, cat_j, cat_d, cat_a]) dX8_outcome_76 ?_
        refine Wo.sub [2, 3, 0, 4] rfl ?_
        exact t_X8_outcome_77 hC P14 hm14 k14 hk14 x14_1 x14_2 v26 x14_4 σ20 _ _ ⟨by omega, by omega⟩ (hm14 _ _ _ _ (by omega) (by omega) hP14)
      · refine Wo.sub [1, 2, 4, 0] rfl ?_
        exact t_X8_outcome_50 hC P14 hm14 k14 hk14 x14_1 x14_2 x14_4 r19 σ20 _ _ ⟨by omega, by omega⟩ (hm14 _ _ _ _ (by omega) (by omega) hP14)

set_option maxRecDepth 100000 in
set_option maxHeartbeats 4000000 in
theorem u_X8_outcome_14 {C : Cxt} {G : Glb} (hC : CX C G RX8 cX8_outcome 6 (some (.array .int)) 8 9 123 173) : ∀ (n : Nat) (x14_1 : (Option Nat)) (x14_2 : (Option Nat)) (x14_3 : Int32) (x14_4 : (Option Nat)) (σ : Mem) (kc ks : Nat), (∀ m, n = m + 1 → (kc + m * 0 + 1 ≤ 9 ∧ ks + m * 0 + 2 ≤ 123)) → Wo C G 6 (QP C G rvR 9 123) (l_X8_outcome_14 G.2.2.2.1 G.2.2.2.2  n x14_1 x14_2 x14_3 x14_4 σ) σ kc ks 14 [(1, va_rf x14_1), (2, va_rf x14_2), (3, .int x14_3), (4, va_rf x14_4)] [] := by
  intro n
  induction n with
  | zero => intro x14_1 x14_2 x14_3 x14_4 σ kc ks h0; exact Wo.none
  | succ n ih =>
    intro x14_1 x14_2 x14_3 x14_4 σ kc ks h0
    exact t_X8_outcome_14 hC (fun kc ks => (∀ m, n = m + 1 → (kc + m * 0 + 1 ≤ 9 ∧ ks + m * 0 + 2 ≤ 123))) (fun a b a2 b2 h1 h2 h m e => ⟨by have := (h m e).1; omega, by have := (h m e).2; omega⟩) (l_X8_outcome_14 G.2.2.2.1 G.2.2.2.2  n) ih x14_1 x14_2 x14_3 x14_4 σ kc ks ⟨by have := (h0 n rfl).1; omega, by have := (h0 n rfl).2; omega⟩ (fun m e => by
      subst e
      exact ⟨by have := (h0 _ rfl).1; omega, by have := (h0 _ rfl).2; omega⟩)

set_option maxRecDepth 100000 in
set_option maxHeartbeats 4000000 in
theorem t_X8_outcome_0 {C : Cxt} {G : Glb} (hC : CX C G RX8 cX8_outcome 6 (some (.array .int)) 8 9 123 173) (a0 : Nat) (p0 : (Option Nat)) (σ : Mem) (kc ks : Nat) (hN : kc + 9 ≤ 9 ∧ ks + 123 ≤ 123) : Wo C G 6 (QP C G rvR 9 123) (b_X8_outcome_0 G.2.2.2.1 G.2.2.2.2  a0 p0 σ) σ kc ks 0 [(0, va_rf (some a0)), (1, va_rf p0)] [] := by
  unfold b_X8_outcome_0
  refine r_null hC dX8_outcome_0 ?_
  refine r_astoren hC [(2, va_rf none), (0, va_rf (some a0)), (1, va_rf p0)] (r := none) (i := 2) rfl (by decide) (by simp [List.filter, cat_rf, cat_i, cat_j, cat_d, cat_a]) dX8_outcome_1 ?_
  refine r_iconst hC (0) rfl dX8_outcome_2 ?_
  refine r_istoren hC [(3, .int 0), (2, va_rf none), (0, va_rf (some a0)), (1, va_rf p0)] (i := 3) rfl (by decide) (by simp [List.filter, cat_rf, cat_i, cat_j, cat_d, cat_a]) dX8_outcome_3 ?_
  refine r_aloadn hC 2 (r := (some a0)) rfl rfl dX8_outcome_4 ?_
  refine r_aloadn hC 3 (r := p0) rfl rfl dX8_outcome_5 ?_
  refine call_V hC (av := [va_rf p0]) (st := []) (r := (some a0)) (ci := 10) rfl rfl (fun h9 => ct_X8_able hC.hl G h9 p0 σ) q_1328 q_1330 q_24 q_44 q_1331 yd_X8_able rfl ⟨Nat.le_of_ble_eq_true rfl, Nat.le_of_ble_eq_true rfl⟩ ⟨by omega, by omega⟩ rfl (Nat.le_of_ble_eq_true rfl) dX8_outcome_6 (fun r1 σ2 => ?_)
  show Wo _ _ _ _ _ _ _ _ _ _ [va_rf r1]
  refine call_V hC (av := []) (st := []) (r := r1) (ci := 1) rfl rfl (fun h9 => ct_Jx4a65c_iterator_32c93 hC.hl G h9 σ2) q_993 q_994 q_995 q_47 q_996 yd_Jx4a65c_iterator_32c93 rfl ⟨Nat.le_of_ble_eq_true rfl, Nat.le_of_ble_eq_true rfl⟩ ⟨by omega, by omega⟩ rfl (Nat.le_of_ble_eq_true rfl) dX8_outcome_9 (fun r4 σ5 => ?_)
  show Wo _ _ _ _ _ _ _ _ _ _ [va_rf r4]
  refine r_astore hC [(4, va_rf r4), (3, .int 0), (2, va_rf none), (0, va_rf (some a0)), (1, va_rf p0)] (r := r4) (i := 4) (by decide) rfl dX8_outcome_12 ?_
  refine Wo.sub [4, 2, 1, 0] rfl ?_
  exact u_X8_outcome_14 hC 5 p0 none 0 r4 σ5 _ _ (fun m e => by cases e; exact ⟨by omega, by omega⟩)

set_option maxRecDepth 100000 in
set_option maxHeartbeats 4000000 in
theorem ct_X8_outcome {l : Launch} (hl : l.stackTraces = false) (G : Glb) (a0 : Nat) (p0 : (Option Nat)) (σ : Mem) : Ct rvR l yX8_outcome (Cond.code yX8_outcome cX8_outcome 6 (some (.array .int)) :: uW) { frames := 8, cells := 9, slots := 123, locals := 173 } 9 123 G [.ref a0, va_rf p0] σ (f_X8_outcome G.2.2.2.1 G.2.2.2.2 a0 p0 σ) := by
  refine Ct.of hl (by decide +kernel) (by simp [lg_sl, cat_rf, cat_i, cat_j, cat_d, cat_a]) (fun C hC hin => ?_)
  have e : lv_args 0 [.ref a0, va_rf p0] = [(0, .ref a0), (1, va_rf p0)] := by simp [lv_args, cat_rf, cat_i, cat_j, cat_d, cat_a]
  rw [e]
  exact t_X8_outcome_0 hC a0 p0 σ 0 0 ⟨Nat.le_of_ble_eq_true rfl, Nat.le_of_ble_eq_true rfl⟩

noncomputable def b_X8_knock_43 (e0 mi : Nat) (σ : Mem) : Option ((Int32) × Mem) :=
some (0, σ)

noncomputable def b_X8_knock_36 (e0 mi : Nat) (a0 : Nat) (x36_1 : Int32) (y36_0 : Int32) (y36_1 : (Option Nat)) (σ : Mem) : Option ((Int32) × Mem) :=
ob 10 σ y36_1 fun h16 => cl1 (f_X8_refuse h16 y36_0 2 σ) fun v14 σ15 =>
if v14 = 0 then
gR 10 7 σ15 (some a0) fun r17 =>
ob 1 σ15 r17 fun h20 => cl1 (f_Jx4a65c_get_915e3 h20 x36_1 σ15) fun r18 σ19 =>
ck 8 σ19 r18 <|
ob 10 σ19 (some a0) fun h23 => cl1 (f_X8_outcome e0 mi h23 r18 σ19) fun r21 σ22 =>
nul r21 (pI 7 13 σ22 r18 0 fun σ51 =>
gR 7 14 σ51 r18 fun r52 =>
ob 1 σ51 r52 fun h55 => cl1 (f_Jx4a65c_clear_da8c8 h55 σ51) fun u53 σ54 =>
some ((-1), σ54)) (aI σ22 r21 1 fun v24 =>
ob 7 σ22 r18 fun h27 => cl1 (f_X5_dry h27 σ22) fun v25 σ26 =>
nm (v24 * v25) fun v28 =>
dv v28 10 fun v29 =>
gR 10 9 σ26 (some a0) fun r30 =>
aI σ26 r21 0 fun v31 =>
aI σ26 r30 v31 fun v32 =>
nm (v32 - v29) fun v33 =>
wI σ26 r30 v31 v33 fun σ34 =>
gI 10 2 σ34 (some a0) fun v35 =>
nm (v35 + v29) fun v36 =>
pI 10 2 σ34 (some a0) v36 fun σ37 =>
gI 10 5 σ37 (some a0) fun v38 =>
ob 7 σ37 r18 fun h41 => cl1 (f_X5_dry h41 σ37) fun v39 σ40 =>
nm (v38 + v39) fun v42 =>
pI 10 5 σ40 (some a0) v42 fun σ43 =>
gI 10 3 σ43 (some a0) fun v44 =>
nm (v44 + 1) fun v45 =>
pI 10 3 σ43 (some a0) v45 fun σ46 =>
ob 7 σ46 r18 fun h49 => cl1 (f_X5_go h49 σ46) fun u47 σ48 =>
aI σ48 r21 0 fun v50 =>
some (v50, σ48))
else
b_X8_knock_43 e0 mi σ15

noncomputable def b_X8_knock_0 (e0 mi : Nat) (a0 : Nat) (p0 : Int32) (σ : Mem) : Option ((Int32) × Mem) :=
ob 10 σ (some a0) fun h3 => cl1 (f_X8_isNoLot h3 p0 σ) fun v1 σ2 =>
ob 10 σ2 (some a0) fun h6 => cl1 (f_X8_start h6 v1 1 σ2) fun v4 σ5 =>
if v4 = 0 then
gR 10 7 σ5 (some a0) fun r7 =>
ob 1 σ5 r7 fun h10 => cl1 (f_Jx4a65c_get_915e3 h10 p0 σ5) fun r8 σ9 =>
ck 8 σ9 r8 <|
ob 7 σ9 r8 fun h13 => cl1 (f_X5_isOffered h13 σ9) fun v11 σ12 =>
if v11 = 0 then
b_X8_knock_36 e0 mi a0 p0 1 (some a0) σ12
else
b_X8_knock_36 e0 mi a0 p0 0 (some a0) σ12
else
b_X8_knock_43 e0 mi σ5

noncomputable def f_X8_knock (e0 mi : Nat) (a0 : Nat) (p0 : Int32) (σ : Mem) : Option ((Int32) × Mem) := b_X8_knock_0 e0 mi a0 p0 σ
set_option maxRecDepth 100000 in
set_option maxHeartbeats 4000000 in
theorem t_X8_knock_43 {C : Cxt} {G : Glb} (hC : CX C G RX8 cX8_knock 5 (some .int) 9 9 123 198) (σ : Mem) (kc ks : Nat) (hN : kc + 0 ≤ 9 ∧ ks + 0 ≤ 123) : Wo C G 5 (QP C G rvI 9 123) (b_X8_knock_43 G.2.2.2.1 G.2.2.2.2   σ) σ kc ks 43 [] [] := by
  unfold b_X8_knock_43
  refine r_iconst hC (0) rfl dX8_knock_43 ?_
  exact e_I hC ⟨by omega, by omega⟩ dX8_knock_44

set_option maxRecDepth 100000 in
set_option maxHeartbeats 4000000 in
theorem t_X8_knock_36 {C : Cxt} {G : Glb} (hC : CX C G RX8 cX8_knock 5 (some .int) 9 9 123 198) (a0 : Nat) (x36_1 : Int32) (y36_0 : Int32) (y36_1 : (Option Nat)) (σ : Mem) (kc ks : Nat) (hN : kc + 9 ≤ 9 ∧ ks + 123 ≤ 123) : Wo C G 5 (QP C G rvI 9 123) (b_X8_knock_36 G.2.2.2.1 G.2.2.2.2  a0 x36_1 y36_0 y36_1 σ) σ kc ks 36 [(0, va_rf (some a0)), (1, .int x36_1)] [.int y36_0, va_rf y36_1] := by
  unfold b_X8_knock_36
  refine r_iconst hC (2) rfl dX8_knock_36 ?_
  refine call_V hC (av := [.int y36_0, .int 2]) (st := []) (r := y36_1) (ci := 10) rfl rfl (fun h9 => ct_X8_refuse hC.hl G h9 y36_0 2 σ) q_886 q_888 q_13 q_44 q_889 yd_X8_refuse rfl ⟨Nat.le_of_ble_eq_true rfl, Nat.le_of_ble_eq_true rfl⟩ ⟨by omega, by omega⟩ rfl (Nat.le_of_ble_eq_true rfl) dX8_knock_37 (fun v14 σ15 => ?_)
  show Wo _ _ _ _ _ _ _ _ _ _ [.int v14]
  refine r_if_eq hC 45 dX8_knock_40 (by decide) ?_ ?_
  · refine r_aloadn hC 0 (r := (some a0)) rfl rfl dX8_knock_45 ?_
    refine r_gR hC (k := 7) (r := (some a0)) cls_10 (by decide) rfl q_847 (Or.inl rfl) dX8_knock_46 (fun r17 => ?_)
    refine r_iloadn hC 1 rfl rfl dX8_knock_49 ?_
    refine call_V hC (av := [.int x36_1]) (st := []) (r := r17) (ci := 1) rfl rfl (fun h9 => ct_Jx4a65c_get_915e3 hC.hl G h9 x36_1 σ15) q_1057 q_1058 q_1059 q_47 q_1060 yd_Jx4a65c_get_915e3 rfl ⟨Nat.le_of_ble_eq_true rfl, Nat.le_of_ble_eq_true rfl⟩ ⟨by omega, by omega⟩ rfl (Nat.le_of_ble_eq_true rfl) dX8_knock_50 (fun r18 σ19 => ?_)
    show Wo _ _ _ _ _ _ _ _ _ _ [va_rf r18]
    refine r_ckO hC (r := r18) cls_7 q_1087 dX8_knock_53 ?_
    refine r_astoren hC [(2, va_rf r18), (0, va_rf (some a0)), (1, .int x36_1)] (r := r18) (i := 2) rfl (by decide) rfl dX8_knock_56 ?_
    refine r_aloadn hC 1 (r := (some a0)) rfl rfl dX8_knock_57 ?_
    refine r_aloadn hC 0 (r := r18) rfl rfl dX8_knock_58 ?_
    refine call_V hC (av := [va_rf r18]) (st := []) (r := (some a0)) (ci := 10) rfl rfl (fun h9 => ct_X8_outcome hC.hl G h9 r18 σ19) q_1324 q_1326 q_23 q_44 q_1327 yd_X8_outcome rfl ⟨Nat.le_of_ble_eq_true rfl, Nat.le_of_ble_eq_true rfl⟩ ⟨by omega, by omega⟩ rfl (Nat.le_of_ble_eq_true rfl) dX8_knock_59 (fun r21 σ22 => ?_)
    show Wo _ _ _ _ _ _ _ _ _ _ [va_rf r21]
    refine r_astoren hC [(3, va_rf r21), (2, va_rf r18), (0, va_rf (some a0)), (1, .int x36_1)] (r := r21) (i := 3) rfl (by decide) (by simp [List.filter, cat_rf, cat_i, cat_j, cat_d, cat_a]) dX8_knock_62 ?_
    refine r_aloadn hC 0 (r := r21) rfl rfl dX8_knock_63 ?_
    refine r_ifnonnull hC 81 dX8_knock_64 (by decide) ?_ ?_
    · refine r_aloadn hC 0 (r := r21) rfl rfl dX8_knock_81 ?_
      refine r_iconst hC (1) rfl dX8_knock_82 ?_
      refine r_aI hC (r := r21) dX8_knock_83 (fun v24 => ?_)
      refine r_aloadn hC 1 (r := r18) rfl rfl dX8_knock_84 ?_
      refine call_V hC (av := []) (st := [.int v24]) (r := r18) (ci := 7) rfl rfl (fun h9 => ct_X5_dry hC.hl G h9 σ22) q_1157 q_1158 q_1159 q_63 q_1160 yd_X5_dry rfl ⟨Nat.le_of_ble_eq_true rfl, Nat.le_of_ble_eq_true rfl⟩ ⟨by omega, by omega⟩ rfl (by simp [cat_rf, cat_i, cat_j, cat_d, cat_a]) dX8_knock_85 (fun v25 σ26 => ?_)
      show Wo _ _ _ _ _ _ _ _ _ _ [.int v25, .int v24]
      refine r_imul hC dX8_knock_88 (fun v28 => ?_)
      refine r_bipush hC (10) (by decide) dX8_knock_89 ?_
      refine r_idiv hC dX8_knock_91 (fun v29 => ?_)
      refine r_istore hC [(4, .int v29), (3, va_rf r21), (2, va_rf r18), (0, va_rf (some a0)), (1, .int x36_1)] (i := 4) (by decide) (by simp [List.filter, cat_rf, cat_i, cat_j, cat_d, cat_a]) dX8_knock_92 ?_
      refine r_aloadn hC 3 (r := (some a0)) rfl rfl dX8_knock_94 ?_
      refine r_gR hC (k := 9) (r := (some a0)) cls_10 (by decide) rfl q_849 (Or.inl rfl) dX8_knock_95 (fun r30 => ?_)
      refine r_aloadn hC 1 (r := r21) rfl rfl dX8_knock_98 ?_
      refine r_iconst hC (0) rfl dX8_knock_99 ?_
      refine r_aI hC (r := r21) dX8_knock_100 (fun v31 => ?_)
      refine r_dup2 hC rfl (cat_rf _) dX8_knock_101 ?_
      refine r_aI hC (r := r30) dX8_knock_102 (fun v32 => ?_)
      refine r_iload hC 0 rfl dX8_knock_103 ?_
      refine r_isub hC dX8_knock_105 (fun v33 => ?_)
      refine r_wI hC (r := r30) dX8_knock_106 (fun σ34 => ?_)
      refine r_aloadn hC 3 (r := (some a0)) rfl rfl dX8_knock_107 ?_
      refine r_dup hC (cat_rf _) dX8_knock_108 ?_
      refine r_gI hC (k := 2) (r := (some a0)) cls_10 (by decide) rfl q_842 (Or.inl rfl) dX8_knock_109 (fun v35 => ?_)
      refine r_iload hC 0 rfl dX8_knock_112 ?_
      refine r_iadd hC dX8_knock_114 (fun v36 => ?_)
      refine r_pI hC (k := 2) (r := (some a0)) cls_10 (by decide) rfl q_842 (Or.inl rfl) (Or.inl rfl) dX8_knock_115 (fun σ37 => ?_)
      refine r_aloadn hC 3 (r := (some a0)) rfl rfl dX8_knock_118 ?_
      refine r_dup hC (cat_rf _) dX8_knock_119 ?_
      refine r_gI hC (k := 5) (r := (some a0)) cls_10 (by decide) rfl q_845 (Or.inl rfl) dX8_knock_120 (fun v38 => ?_)
      refine r_aloadn hC 2 (r := r18) rfl rfl dX8_knock_123 ?_
      refine call_V hC (av := []) (st := [.int v38, va_rf (some a0)]) (r := r18) (ci := 7) rfl rfl (fun h9 => ct_X5_dry hC.hl G h9 σ37) q_1157 q_1158 q_1159 q_63 q_1160 yd_X5_dry rfl ⟨Nat.le_of_ble_eq_true rfl, Nat.le_of_ble_eq_true rfl⟩ ⟨by omega, by omega⟩ rfl (by simp [cat_rf, cat_i, cat_j, cat_d, cat_a]) dX8_knock_124 (fun v39 σ40 => ?_)
      show Wo _ _ _ _ _ _ _ _ _ _ [.int v39, .int v38, va_rf (some a0)]
      refine r_iadd hC dX8_knock_127 (fun v42 => ?_)
      refine r_pI hC (k := 5) (r := (some a0)) cls_10 (by decide) rfl q_845 (Or.inl rfl) (Or.inl rfl) dX8_knock_128 (fun σ43 => ?_)
      refine r_aloadn hC 3 (r := (some a0)) rfl rfl dX8_knock_131 ?_
      refine r_dup hC (cat_rf _) dX8_knock_132 ?_
      refine r_gI hC (k := 3) (r := (some a0)) cls_10 (by decide) rfl q_843 (Or.inl rfl) dX8_knock_133 (fun v44 => ?_)
      refine r_iconst hC (1) rfl dX8_knock_136 ?_
      refine r_iadd hC dX8_knock_137 (fun v45 => ?_)
      refine r_pI hC (k := 3) (r := (some a0)) cls_10 (by decide) rfl q_843 (Or.inl rfl) (Or.inl rfl) dX8_knock_138 (fun σ46 => ?_)
      refine r_aloadn hC 2 (r := r18) rfl rfl dX8_knock_141 ?_
      refine call_V hC (av := []) (st := []) (r := r18) (ci := 7) rfl rfl (fun h9 => ct_X5_go hC.hl G h9 σ46) q_1169 q_1170 q_1171 q_63 q_1172 yd_X5_go rfl ⟨Nat.le_of_ble_eq_true rfl, Nat.le_of_ble_eq_true rfl⟩ ⟨by omega, by omega⟩ rfl (Nat.le_of_ble_eq_true rfl) dX8_knock_142 (fun u47 σ48 => ?_)
      show Wo _ _ _ _ _ _ _ _ _ _ []
      refine r_aloadn hC 1 (r := r21) rfl rfl dX8_knock_145 ?_
      refine r_iconst hC (0) rfl dX8_knock_146 ?_
      refine r_aI hC (r := r21) dX8_knock_147 (fun v50 => ?_)
      exact e_I hC ⟨by omega, by omega⟩ dX8_knock_148
    · refine r_aloadn hC 1 (r := r18) rfl rfl dX8_knock_67 ?_
      refine r_iconst hC (0) rfl dX8_knock_68 ?_
      refine r_pI hC (k := 13) (r := r18) cls_7 (by decide) rfl q_1122 (Or.inl rfl) (Or.inl rfl) dX8_knock_69 (fun σ51 => ?_)
      refine r_aloadn hC 1 (r := r18) rfl rfl dX8_knock_72 ?_
      refine r_gR hC (k := 14) (r := r18) cls_7 (by decide) rfl q_1124 (Or.inl rfl) dX8_knock_73 (fun r52 => ?_)
      refine call_V hC (av := []) (st := []) (r := r52) (ci := 1) rfl rfl (fun h9 => ct_Jx4a65c_clear_da8c8 hC.hl G h9 σ51) q_1332 q_1174 q_1175 q_47 q_1176 yd_Jx4a65c_clear_da8c8 rfl ⟨Nat.le_of_ble_eq_true rfl, Nat.le_of_ble_eq_true rfl⟩ ⟨by omega, by omega⟩ rfl (Nat.le_of_ble_eq_true rfl) dX8_knock_76 (fun u53 σ54 => ?_)
      show Wo _ _ _ _ _ _ _ _ _ _ []
      refine r_iconst hC (-1) rfl dX8_knock_79 ?_
      exact e_I hC ⟨by omega, by omega⟩ dX8_knock_80
  · refine Wo.sub [] rfl ?_
    exact t_X8_knock_43 hC  σ15 _ _ ⟨by omega, by omega⟩

set_option maxRecDepth 100000 in
set_option maxHeartbeats 4000000 in
theorem t_X8_knock_0 {C : Cxt} {G : Glb} (hC : CX C G RX8 cX8_knock 5 (some .int) 9 9 123 198) (a0 : Nat) (p0 : Int32) (σ : Mem) (kc ks : Nat) (hN : kc + 9 ≤ 9 ∧ ks + 123 ≤ 123) : Wo C G 5 (QP C G rvI 9 123) (b_X8_knock_0 G.2.2.2.1 G.2.2.2.2  a0 p0 σ) σ kc ks 0 [(0, va_rf (some a0)), (1, .int p0)] [] := by
  unfold b_X8_knock_0
  refine r_aloadn hC 0 (r := (some a0)) rfl rfl dX8_knock_0 ?_
  refine r_aloadn hC 0 (r := (some a0)) rfl rfl dX8_knock_1 ?_
  refine r_iloadn hC 1 rfl rfl dX8_knock_2 ?_
  refine call_V hC (av := [.int p0]) (st := [va_rf (some a0)]) (r := (some a0)) (ci := 10) rfl rfl (fun h9 => ct_X8_isNoLot hC.hl G h9 p0 σ) q_1165 q_1167 q_19 q_44 q_1168 yd_X8_isNoLot rfl ⟨Nat.le_of_ble_eq_true rfl, Nat.le_of_ble_eq_true rfl⟩ ⟨by omega, by omega⟩ rfl (by simp [cat_rf, cat_i, cat_j, cat_d, cat_a]) dX8_knock_3 (fun v1 σ2 => ?_)
  show Wo _ _ _ _ _ _ _ _ _ _ [.int v1, va_rf (some a0)]
  refine r_iconst hC (1) rfl dX8_knock_6 ?_
  refine call_V hC (av := [.int v1, .int 1]) (st := []) (r := (some a0)) (ci := 10) rfl rfl (fun h9 => ct_X8_start hC.hl G h9 v1 1 σ2) q_882 q_884 q_12 q_44 q_885 yd_X8_start rfl ⟨Nat.le_of_ble_eq_true rfl, Nat.le_of_ble_eq_true rfl⟩ ⟨by omega, by omega⟩ rfl (Nat.le_of_ble_eq_true rfl) dX8_knock_7 (fun v4 σ5 => ?_)
  show Wo _ _ _ _ _ _ _ _ _ _ [.int v4]
  refine r_if_ne hC 43 dX8_knock_10 (by decide) ?_ ?_
  · refine Wo.sub [] rfl ?_
    exact t_X8_knock_43 hC  σ5 _ _ ⟨by omega, by omega⟩
  · refine r_aloadn hC 0 (r := (some a0)) rfl rfl dX8_knock_13 ?_
    refine r_aloadn hC 0 (r := (some a0)) rfl rfl dX8_knock_14 ?_
    refine r_gR hC (k := 7) (r := (some a0)) cls_10 (by decide) rfl q_847 (Or.inl rfl) dX8_knock_15 (fun r7 => ?_)
    refine r_iloadn hC 1 rfl rfl dX8_knock_18 ?_
    refine call_V hC (av := [.int p0]) (st := [va_rf (some a0)]) (r := r7) (ci := 1) rfl rfl (fun h9 => ct_Jx4a65c_get_915e3 hC.hl G h9 p0 σ5) q_1057 q_1058 q_1059 q_47 q_1060 yd_Jx4a65c_get_915e3 rfl ⟨Nat.le_of_ble_eq_true rfl, Nat.le_of_ble_eq_true rfl⟩ ⟨by omega, by omega⟩ rfl (by simp [cat_rf, cat_i, cat_j, cat_d, cat_a]) dX8_knock_19 (fun r8 σ9 => ?_)
    show Wo _ _ _ _ _ _ _ _ _ _ [va_rf r8, va_rf (some a0)]
    refine r_ckO hC (r := r8) cls_7 q_1087 dX8_knock_22 ?_
    refine call_V hC (av := []) (st := [va_rf (some a0)]) (r := r8) (ci := 7) rfl rfl (fun h9 => ct_X5_isOffered hC.hl G h9 σ9) q_1223 q_1224 q_1225 q_63 q_1226 yd_X5_isOffered rfl ⟨Nat.le_of_ble_eq_true rfl, Nat.le_of_ble_eq_true rfl⟩ ⟨by omega, by omega⟩ rfl (by simp [cat_rf, cat_i, cat_j, cat_d, cat_a]) dX8_knock_25 (fun v11 σ12 => ?_)
    show Wo _ _ _ _ _ _ _ _ _ _ [.int v11, va_rf (some a0)]
    refine r_if_ne hC 35 dX8_knock_28 (by decide) ?_ ?_
    · refine r_iconst hC (0) rfl dX8_knock_35 ?_
      exact t_X8_knock_36 hC a0 p0 0 (some a0) σ12 _ _ ⟨by omega, by omega⟩
    · refine r_iconst hC (1) rfl dX8_knock_31 ?_
      refine r_goto hC 36 dX8_knock_32 (by decide) ?_
      exact t_X8_knock_36 hC a0 p0 1 (some a0) σ12 _ _ ⟨by omega, by omega⟩

set_option maxRecDepth 100000 in
set_option maxHeartbeats 4000000 in
theorem ct_X8_knock {l : Launch} (hl : l.stackTraces = false) (G : Glb) (a0 : Nat) (p0 : Int32) (σ : Mem) : Ct rvI l yX8_knock (Cond.code yX8_knock cX8_knock 5 (some .int) :: uW) { frames := 9, cells := 9, slots := 123, locals := 198 } 9 123 G [.ref a0, .int p0] σ (f_X8_knock G.2.2.2.1 G.2.2.2.2 a0 p0 σ) := by
  refine Ct.of hl (by decide +kernel) (Nat.le_of_ble_eq_true rfl) (fun C hC hin => ?_)
  have e : lv_args 0 [.ref a0, .int p0] = [(0, .ref a0), (1, .int p0)] := rfl
  rw [e]
  exact t_X8_knock_0 hC a0 p0 σ 0 0 ⟨Nat.le_of_ble_eq_true rfl, Nat.le_of_ble_eq_true rfl⟩

noncomputable def b_X8_ofSectionNow_82 (y82_0 : Int32) (σ : Mem) : Option ((Int32) × Mem) :=
some (y82_0, σ)

noncomputable def b_X8_ofSectionNow_0 (a0 : Nat) (p0 : Int32) (p1 : Int32) (σ : Mem) : Option ((Int32) × Mem) :=
gR 10 6 σ (some a0) fun r1 =>
ob 1 σ r1 fun h4 => cl1 (f_Jx4a65c_get_915e3 h4 p0 σ) fun r2 σ3 =>
ck 9 σ3 r2 <|
nA 0 6 σ3 6 fun σ5 r6 =>
gI 8 0 σ5 r2 fun v7 =>
wI σ5 r6 0 v7 fun σ8 =>
gI 8 1 σ8 r2 fun v9 =>
wI σ8 r6 1 v9 fun σ10 =>
gI 8 2 σ10 r2 fun v11 =>
wI σ10 r6 2 v11 fun σ12 =>
gI 8 3 σ12 r2 fun v13 =>
wI σ12 r6 3 v13 fun σ14 =>
gI 8 4 σ14 r2 fun v15 =>
wI σ14 r6 4 v15 fun σ16 =>
gI 8 5 σ16 r2 fun v17 =>
wI σ16 r6 5 v17 fun σ18 =>
if 6 ≤ p1 then
gR 8 6 σ18 r2 fun r19 =>
nm (p1 - 6) fun v20 =>
aI σ18 r19 v20 fun v21 =>
b_X8_ofSectionNow_82 v21 σ18
else
aI σ18 r6 p1 fun v22 =>
b_X8_ofSectionNow_82 v22 σ18

noncomputable def f_X8_ofSectionNow (a0 : Nat) (p0 : Int32) (p1 : Int32) (σ : Mem) : Option ((Int32) × Mem) := b_X8_ofSectionNow_0 a0 p0 p1 σ
set_option maxRecDepth 100000 in
set_option maxHeartbeats 4000000 in
theorem t_X8_ofSectionNow_82 {C : Cxt} {G : Glb} (hC : CX C G RX8 cX8_ofSectionNow 5 (some .int) 3 1 6 64) (y82_0 : Int32) (σ : Mem) (kc ks : Nat) (hN : kc + 0 ≤ 1 ∧ ks + 0 ≤ 6) : Wo C G 5 (QP C G rvI 1 6) (b_X8_ofSectionNow_82  y82_0 σ) σ kc ks 82 [] [.int y82_0] := by
  unfold b_X8_ofSectionNow_82
  exact e_I hC ⟨by omega, by omega⟩ dX8_ofSectionNow_82

set_option maxRecDepth 100000 in
set_option maxHeartbeats 4000000 in
theorem t_X8_ofSectionNow_0 {C : Cxt} {G : Glb} (hC : CX C G RX8 cX8_ofSectionNow 5 (some .int) 3 1 6 64) (a0 : Nat) (p0 : Int32) (p1 : Int32) (σ : Mem) (kc ks : Nat) (hN : kc + 1 ≤ 1 ∧ ks + 6 ≤ 6) : Wo C G 5 (QP C G rvI 1 6) (b_X8_ofSectionNow_0  a0 p0 p1 σ) σ kc ks 0 [(0, va_rf (some a0)), (1, .int p0), (2, .int p1)] [] := by
  unfold b_X8_ofSectionNow_0
  refine r_aloadn hC 0 (r := (some a0)) rfl rfl dX8_ofSectionNow_0 ?_
  refine r_gR hC (k := 6) (r := (some a0)) cls_10 (by decide) rfl q_846 (Or.inl rfl) dX8_ofSectionNow_1 (fun r1 => ?_)
  refine r_iloadn hC 1 rfl rfl dX8_ofSectionNow_4 ?_
  refine call_V hC (av := [.int p0]) (st := []) (r := r1) (ci := 1) rfl rfl (fun h9 => ct_Jx4a65c_get_915e3 hC.hl G h9 p0 σ) q_1057 q_1058 q_1059 q_47 q_1060 yd_Jx4a65c_get_915e3 rfl ⟨Nat.le_of_ble_eq_true rfl, Nat.le_of_ble_eq_true rfl⟩ ⟨by omega, by omega⟩ rfl (Nat.le_of_ble_eq_true rfl) dX8_ofSectionNow_5 (fun r2 σ3 => ?_)
  show Wo _ _ _ _ _ _ _ _ _ _ [va_rf r2]
  refine r_ckO hC (r := r2) cls_8 q_894 dX8_ofSectionNow_8 ?_
  refine r_astoren hC [(3, va_rf r2), (0, va_rf (some a0)), (1, .int p0), (2, .int p1)] (r := r2) (i := 3) rfl (by decide) rfl dX8_ofSectionNow_11 ?_
  refine r_bipush hC (6) (by decide) dX8_ofSectionNow_12 ?_
  refine r_nA hC (t := 0) (b := 6) (ty := .int) rfl rfl rfl (fun _ h => va_nm_int h) q_102 (Nat.le_of_ble_eq_true rfl) ⟨by omega, by omega⟩ dX8_ofSectionNow_14 (fun σ5 r6 => ?_)
  refine r_dup hC (cat_rf _) dX8_ofSectionNow_16 ?_
  refine r_iconst hC (0) rfl dX8_ofSectionNow_17 ?_
  refine r_aloadn hC 0 (r := r2) rfl rfl dX8_ofSectionNow_18 ?_
  refine r_gI hC (k := 0) (r := r2) cls_8 (by decide) rfl q_901 (Or.inl rfl) dX8_ofSectionNow_19 (fun v7 => ?_)
  refine r_wI hC (r := r6) dX8_ofSectionNow_22 (fun σ8 => ?_)
  refine r_dup hC (cat_rf _) dX8_ofSectionNow_23 ?_
  refine r_iconst hC (1) rfl dX8_ofSectionNow_24 ?_
  refine r_aloadn hC 0 (r := r2) rfl rfl dX8_ofSectionNow_25 ?_
  refine r_gI hC (k := 1) (r := r2) cls_8 (by decide) rfl q_903 (Or.inl rfl) dX8_ofSectionNow_26 (fun v9 => ?_)
  refine r_wI hC (r := r6) dX8_ofSectionNow_29 (fun σ10 => ?_)
  refine r_dup hC (cat_rf _) dX8_ofSectionNow_30 ?_
  refine r_iconst hC (2) rfl dX8_ofSectionNow_31 ?_
  refine r_aloadn hC 0 (r := r2) rfl rfl dX8_ofSectionNow_32 ?_
  refine r_gI hC (k := 2) (r := r2) cls_8 (by decide) rfl q_905 (Or.inl rfl) dX8_ofSectionNow_33 (fun v11 => ?_)
  refine r_wI hC (r := r6) dX8_ofSectionNow_36 (fun σ12 => ?_)
  refine r_dup hC (cat_rf _) dX8_ofSectionNow_37 ?_
  refine r_iconst hC (3) rfl dX8_ofSectionNow_38 ?_
  refine r_aloadn hC 0 (r := r2) rfl rfl dX8_ofSectionNow_39 ?_
  refine r_gI hC (k := 3) (r := r2) cls_8 (by decide) rfl q_907 (Or.inl rfl) dX8_ofSectionNow_40 (fun v13 => ?_)
  refine r_wI hC (r := r6) dX8_ofSectionNow_43 (fun σ14 => ?_)
  refine r_dup hC (cat_rf _) dX8_ofSectionNow_44 ?_
  refine r_iconst hC (4) rfl dX8_ofSectionNow_45 ?_
  refine r_aloadn hC 0 (r := r2) rfl rfl dX8_ofSectionNow_46 ?_
  refine r_gI hC (k := 4) (r := r2) cls_8 (by decide) rfl q_909 (Or.inl rfl) dX8_ofSectionNow_47 (fun v15 => ?_)
  refine r_wI hC (r := r6) dX8_ofSectionNow_50 (fun σ16 => ?_)
  refine r_dup hC (cat_rf _) dX8_ofSectionNow_51 ?_
  refine r_iconst hC (5) rfl dX8_ofSectionNow_52 ?_
  refine r_aloadn hC 0 (r := r2) rfl rfl dX8_ofSectionNow_53 ?_
  refine r_gI hC (k := 5) (r := r2) cls_8 (by decide) rfl q_911 (Or.inl rfl) dX8_ofSectionNow_54 (fun v17 => ?_)
  refine r_wI hC (r := r6) dX8_ofSectionNow_57 (fun σ18 => ?_)
  refine r_astore hC [(4, va_rf r6), (3, va_rf r2), (0, va_rf (some a0)), (1, .int p0), (2, .int p1)] (r := r6) (i := 4) (by decide) (by simp [List.filter, cat_rf, cat_i, cat_j, cat_d, cat_a]) dX8_ofSectionNow_58 ?_
  refine r_iloadn hC 4 rfl rfl dX8_ofSectionNow_60 ?_
  refine r_bipush hC (6) (by decide) dX8_ofSectionNow_61 ?_
  refine r_icmp_ge hC 73 dX8_ofSectionNow_63 (by decide) ?_ ?_
  · refine r_aloadn hC 1 (r := r2) rfl rfl dX8_ofSectionNow_73 ?_
    refine r_gR hC (k := 6) (r := r2) cls_8 (by decide) rfl q_913 (Or.inl rfl) dX8_ofSectionNow_74 (fun r19 => ?_)
    refine r_iloadn hC 4 rfl rfl dX8_ofSectionNow_77 ?_
    refine r_bipush hC (6) (by decide) dX8_ofSectionNow_78 ?_
    refine r_isub hC dX8_ofSectionNow_80 (fun v20 => ?_)
    refine r_aI hC (r := r19) dX8_ofSectionNow_81 (fun v21 => ?_)
    refine Wo.sub [] rfl ?_
    exact t_X8_ofSectionNow_82 hC v21 σ18 _ _ ⟨by omega, by omega⟩
  · refine r_aload hC 0 (r := r6) rfl dX8_ofSectionNow_66 ?_
    refine r_iloadn hC 4 rfl rfl dX8_ofSectionNow_68 ?_
    refine r_aI hC (r := r6) dX8_ofSectionNow_69 (fun v22 => ?_)
    refine r_goto hC 82 dX8_ofSectionNow_70 (by decide) ?_
    refine Wo.sub [] rfl ?_
    exact t_X8_ofSectionNow_82 hC v22 σ18 _ _ ⟨by omega, by omega⟩

set_option maxRecDepth 100000 in
set_option maxHeartbeats 4000000 in
theorem ct_X8_ofSectionNow {l : Launch} (hl : l.stackTraces = false) (G : Glb) (a0 : Nat) (p0 : Int32) (p1 : Int32) (σ : Mem) : Ct rvI l yX8_ofSectionNow (Cond.code yX8_ofSectionNow cX8_ofSectionNow 5 (some .int) :: uW) { frames := 3, cells := 1, slots := 6, locals := 64 } 1 6 G [.ref a0, .int p0, .int p1] σ (f_X8_ofSectionNow a0 p0 p1 σ) := by
  refine Ct.of hl (by decide +kernel) (Nat.le_of_ble_eq_true rfl) (fun C hC hin => ?_)
  have e : lv_args 0 [.ref a0, .int p0, .int p1] = [(0, .ref a0), (1, .int p0), (2, .int p1)] := rfl
  rw [e]
  exact t_X8_ofSectionNow_0 hC a0 p0 p1 σ 0 0 ⟨Nat.le_of_ble_eq_true rfl, Nat.le_of_ble_eq_true rfl⟩

noncomputable def b_X8_ofSection_46 (y46_0 : Int32) (σ : Mem) : Option ((Int32) × Mem) :=
some (y46_0, σ)

noncomputable def b_X8_ofSection_36 (σ : Mem) : Option ((Int32) × Mem) :=
b_X8_ofSection_46 0 σ

noncomputable def b_X8_ofSection_29 (a0 : Nat) (x29_1 : Int32) (x29_2 : Int32) (y29_0 : Int32) (y29_1 : (Option Nat)) (σ : Mem) : Option ((Int32) × Mem) :=
ob 10 σ y29_1 fun h11 => cl1 (f_X8_refuse h11 y29_0 2 σ) fun v9 σ10 =>
if v9 = 0 then
ob 10 σ10 (some a0) fun h14 => cl1 (f_X8_ofSectionNow h14 x29_1 x29_2 σ10) fun v12 σ13 =>
b_X8_ofSection_46 v12 σ13
else
b_X8_ofSection_36 σ10

noncomputable def b_X8_ofSection_0 (a0 : Nat) (p0 : Int32) (p1 : Int32) (σ : Mem) : Option ((Int32) × Mem) :=
ob 10 σ (some a0) fun h3 => cl1 (f_X8_isNoSection h3 p0 σ) fun v1 σ2 =>
ob 10 σ2 (some a0) fun h6 => cl1 (f_X8_start h6 v1 1 σ2) fun v4 σ5 =>
if v4 = 0 then
cl1 (f_X8_isIn p1 0 10 σ5) fun v7 σ8 =>
if v7 = 0 then
b_X8_ofSection_29 a0 p0 p1 1 (some a0) σ8
else
b_X8_ofSection_29 a0 p0 p1 0 (some a0) σ8
else
b_X8_ofSection_36 σ5

noncomputable def f_X8_ofSection (a0 : Nat) (p0 : Int32) (p1 : Int32) (σ : Mem) : Option ((Int32) × Mem) := b_X8_ofSection_0 a0 p0 p1 σ
set_option maxRecDepth 100000 in
set_option maxHeartbeats 4000000 in
theorem t_X8_ofSection_46 {C : Cxt} {G : Glb} (hC : CX C G RX8 cX8_ofSection 3 (some .int) 4 1 6 88) (y46_0 : Int32) (σ : Mem) (kc ks : Nat) (hN : kc + 0 ≤ 1 ∧ ks + 0 ≤ 6) : Wo C G 3 (QP C G rvI 1 6) (b_X8_ofSection_46  y46_0 σ) σ kc ks 46 [] [.int y46_0] := by
  unfold b_X8_ofSection_46
  exact e_I hC ⟨by omega, by omega⟩ dX8_ofSection_46

set_option maxRecDepth 100000 in
set_option maxHeartbeats 4000000 in
theorem t_X8_ofSection_36 {C : Cxt} {G : Glb} (hC : CX C G RX8 cX8_ofSection 3 (some .int) 4 1 6 88) (σ : Mem) (kc ks : Nat) (hN : kc + 0 ≤ 1 ∧ ks + 0 ≤ 6) : Wo C G 3 (QP C G rvI 1 6) (b_X8_ofSection_36   σ) σ kc ks 36 [] [] := by
  unfold b_X8_ofSection_36
  refine r_iconst hC (0) rfl dX8_ofSection_36 ?_
  refine r_goto hC 46 dX8_ofSection_37 (by decide) ?_
  exact t_X8_ofSection_46 hC 0 σ _ _ ⟨by omega, by omega⟩

set_option maxRecDepth 100000 in
set_option maxHeartbeats 4000000 in
theorem t_X8_ofSection_29 {C : Cxt} {G : Glb} (hC : CX C G RX8 cX8_ofSection 3 (some .int) 4 1 6 88) (a0 : Nat) (x29_1 : Int32) (x29_2 : Int32) (y29_0 : Int32) (y29_1 : (Option Nat)) (σ : Mem) (kc ks : Nat) (hN : kc + 1 ≤ 1 ∧ ks + 6 ≤ 6) : Wo C G 3 (QP C G rvI 1 6) (b_X8_ofSection_29  a0 x29_1 x29_2 y29_0 y29_1 σ) σ kc ks 29 [(0, va_rf (some a0)), (1, .int x29_1), (2, .int x29_2)] [.int y29_0, va_rf y29_1] := by
  unfold b_X8_ofSection_29
  refine r_iconst hC (2) rfl dX8_ofSection_29 ?_
  refine call_V hC (av := [.int y29_0, .int 2]) (st := []) (r := y29_1) (ci := 10) rfl rfl (fun h9 => ct_X8_refuse hC.hl G h9 y29_0 2 σ) q_886 q_888 q_13 q_44 q_889 yd_X8_refuse rfl ⟨Nat.le_of_ble_eq_true rfl, Nat.le_of_ble_eq_true rfl⟩ ⟨by omega, by omega⟩ rfl (Nat.le_of_ble_eq_true rfl) dX8_ofSection_30 (fun v9 σ10 => ?_)
  show Wo _ _ _ _ _ _ _ _ _ _ [.int v9]
  refine r_if_eq hC 40 dX8_ofSection_33 (by decide) ?_ ?_
  · refine r_aloadn hC 0 (r := (some a0)) rfl rfl dX8_ofSection_40 ?_
    refine r_iloadn hC 1 rfl rfl dX8_ofSection_41 ?_
    refine r_iloadn hC 2 rfl rfl dX8_ofSection_42 ?_
    refine call_V hC (av := [.int x29_1, .int x29_2]) (st := []) (r := (some a0)) (ci := 10) rfl rfl (fun h9 => ct_X8_ofSectionNow hC.hl G h9 x29_1 x29_2 σ10) q_1337 q_1339 q_25 q_44 q_1340 yd_X8_ofSectionNow rfl ⟨Nat.le_of_ble_eq_true rfl, Nat.le_of_ble_eq_true rfl⟩ ⟨by omega, by omega⟩ rfl (Nat.le_of_ble_eq_true rfl) dX8_ofSection_43 (fun v12 σ13 => ?_)
    show Wo _ _ _ _ _ _ _ _ _ _ [.int v12]
    refine Wo.sub [] rfl ?_
    exact t_X8_ofSection_46 hC v12 σ13 _ _ ⟨by omega, by omega⟩
  · refine Wo.sub [] rfl ?_
    exact t_X8_ofSection_36 hC  σ10 _ _ ⟨by omega, by omega⟩

set_option maxRecDepth 100000 in
set_option maxHeartbeats 4000000 in
theorem t_X8_ofSection_0 {C : Cxt} {G : Glb} (hC : CX C G RX8 cX8_ofSection 3 (some .int) 4 1 6 88) (a0 : Nat) (p0 : Int32) (p1 : Int32) (σ : Mem) (kc ks : Nat) (hN : kc + 1 ≤ 1 ∧ ks + 6 ≤ 6) : Wo C G 3 (QP C G rvI 1 6) (b_X8_ofSection_0  a0 p0 p1 σ) σ kc ks 0 [(0, va_rf (some a0)), (1, .int p0), (2, .int p1)] [] := by
  unfold b_X8_ofSection_0
  refine r_aloadn hC 0 (r := (some a0)) rfl rfl dX8_ofSection_0 ?_
  refine r_aloadn hC 0 (r := (some a0)) rfl rfl dX8_ofSection_1 ?_
  refine r_iloadn hC 1 rfl rfl dX8_ofSection_2 ?_
  refine call_V hC (av := [.int p0]) (st := [va_rf (some a0)]) (r := (some a0)) (ci := 10) rfl rfl (fun h9 => ct_X8_isNoSection hC.hl G h9 p0 σ) q_1053 q_1055 q_18 q_44 q_1056 yd_X8_isNoSection rfl ⟨Nat.le_of_ble_eq_true rfl, Nat.le_of_ble_eq_true rfl⟩ ⟨by omega, by omega⟩ rfl (by simp [cat_rf, cat_i, cat_j, cat_d, cat_a]) dX8_ofSection_3 (fun v1 σ2 => ?_)
  show Wo _ _ _ _ _ _ _ _ _ _ [.int v1, va_rf (some a0)]
  refine r_iconst hC (1) rfl dX8_ofSection_6 ?_
  refine call_V hC (av := [.int v1, .int 1]) (st := []) (r := (some a0)) (ci := 10) rfl rfl (fun h9 => ct_X8_start hC.hl G h9 v1 1 σ2) q_882 q_884 q_12 q_44 q_885 yd_X8_start rfl ⟨Nat.le_of_ble_eq_true rfl, Nat.le_of_ble_eq_true rfl⟩ ⟨by omega, by omega⟩ rfl (Nat.le_of_ble_eq_true rfl) dX8_ofSection_7 (fun v4 σ5 => ?_)
  show Wo _ _ _ _ _ _ _ _ _ _ [.int v4]
  refine r_if_ne hC 36 dX8_ofSection_10 (by decide) ?_ ?_
  · refine Wo.sub [] rfl ?_
    exact t_X8_ofSection_36 hC  σ5 _ _ ⟨by omega, by omega⟩
  · refine r_aloadn hC 0 (r := (some a0)) rfl rfl dX8_ofSection_13 ?_
    refine r_iloadn hC 2 rfl rfl dX8_ofSection_14 ?_
    refine r_iconst hC (0) rfl dX8_ofSection_15 ?_
    refine r_bipush hC (10) (by decide) dX8_ofSection_16 ?_
    refine call_S hC (av := [.int p1, .int 0, .int 10]) (st := [va_rf (some a0)]) (ct_X8_isIn hC.hl G p1 0 10 σ5) q_879 q_880 q_44 q_881 yd_X8_isIn rfl ⟨Nat.le_of_ble_eq_true rfl, Nat.le_of_ble_eq_true rfl⟩ ⟨by omega, by omega⟩ rfl (by simp [cat_rf, cat_i, cat_j, cat_d, cat_a]) dX8_ofSection_18 (fun v7 σ8 => ?_)
    show Wo _ _ _ _ _ _ _ _ _ _ [.int v7, va_rf (some a0)]
    refine r_if_ne hC 28 dX8_ofSection_21 (by decide) ?_ ?_
    · refine r_iconst hC (0) rfl dX8_ofSection_28 ?_
      exact t_X8_ofSection_29 hC a0 p0 p1 0 (some a0) σ8 _ _ ⟨by omega, by omega⟩
    · refine r_iconst hC (1) rfl dX8_ofSection_24 ?_
      refine r_goto hC 29 dX8_ofSection_25 (by decide) ?_
      exact t_X8_ofSection_29 hC a0 p0 p1 1 (some a0) σ8 _ _ ⟨by omega, by omega⟩

set_option maxRecDepth 100000 in
set_option maxHeartbeats 4000000 in
theorem ct_X8_ofSection {l : Launch} (hl : l.stackTraces = false) (G : Glb) (a0 : Nat) (p0 : Int32) (p1 : Int32) (σ : Mem) : Ct rvI l yX8_ofSection (Cond.code yX8_ofSection cX8_ofSection 3 (some .int) :: uW) { frames := 4, cells := 1, slots := 6, locals := 88 } 1 6 G [.ref a0, .int p0, .int p1] σ (f_X8_ofSection a0 p0 p1 σ) := by
  refine Ct.of hl (by decide +kernel) (Nat.le_of_ble_eq_true rfl) (fun C hC hin => ?_)
  have e : lv_args 0 [.ref a0, .int p0, .int p1] = [(0, .ref a0), (1, .int p0), (2, .int p1)] := rfl
  rw [e]
  exact t_X8_ofSection_0 hC a0 p0 p1 σ 0 0 ⟨Nat.le_of_ble_eq_true rfl, Nat.le_of_ble_eq_true rfl⟩

noncomputable def b_X8_ofLotNow_170 (y170_0 : Int32) (σ : Mem) : Option ((Int32) × Mem) :=
some (y170_0, σ)

noncomputable def b_X8_ofLotNow_137 (x137_2 : Int32) (x137_3 : (Option Nat)) (y137_0 : Int32) (y137_1 : Int32) (y137_2 : (Option Nat)) (y137_3 : (Option Nat)) (σ : Mem) : Option ((Int32) × Mem) :=
wI σ y137_2 y137_1 y137_0 fun σ34 =>
gI 7 13 σ34 x137_3 fun v35 =>
wI σ34 y137_3 13 v35 fun σ36 =>
if 14 ≤ x137_2 then
gR 7 1 σ36 x137_3 fun r37 =>
nm (x137_2 - 14) fun v38 =>
aI σ36 r37 v38 fun v39 =>
b_X8_ofLotNow_170 v39 σ36
else
aI σ36 y137_3 x137_2 fun v40 =>
b_X8_ofLotNow_170 v40 σ36

noncomputable def b_X8_ofLotNow_121 (x121_2 : Int32) (x121_3 : (Option Nat)) (y121_0 : Int32) (y121_1 : Int32) (y121_2 : (Option Nat)) (y121_3 : (Option Nat)) (σ : Mem) : Option ((Int32) × Mem) :=
wI σ y121_2 y121_1 y121_0 fun σ32 =>
gR 7 12 σ32 x121_3 fun r33 =>
nul r33 (b_X8_ofLotNow_137 x121_2 x121_3 0 12 y121_3 y121_3 σ32) (b_X8_ofLotNow_137 x121_2 x121_3 1 12 y121_3 y121_3 σ32)

noncomputable def b_X8_ofLotNow_105 (x105_2 : Int32) (x105_3 : (Option Nat)) (y105_0 : Int32) (y105_1 : Int32) (y105_2 : (Option Nat)) (y105_3 : (Option Nat)) (σ : Mem) : Option ((Int32) × Mem) :=
wI σ y105_2 y105_1 y105_0 fun σ30 =>
gI 7 11 σ30 x105_3 fun v31 =>
if v31 = 0 then
b_X8_ofLotNow_121 x105_2 x105_3 0 11 y105_3 y105_3 σ30
else
b_X8_ofLotNow_121 x105_2 x105_3 1 11 y105_3 y105_3 σ30

noncomputable def b_X8_ofLotNow_0 (a0 : Nat) (p0 : Int32) (p1 : Int32) (σ : Mem) : Option ((Int32) × Mem) :=
gR 10 7 σ (some a0) fun r1 =>
ob 1 σ r1 fun h4 => cl1 (f_Jx4a65c_get_915e3 h4 p0 σ) fun r2 σ3 =>
ck 8 σ3 r2 <|
nA 0 14 σ3 14 fun σ5 r6 =>
gI 7 0 σ5 r2 fun v7 =>
wI σ5 r6 0 v7 fun σ8 =>
ob 7 σ8 r2 fun h11 => cl1 (f_X5_dry h11 σ8) fun v9 σ10 =>
wI σ10 r6 1 v9 fun σ12 =>
gI 7 2 σ12 r2 fun v13 =>
wI σ12 r6 2 v13 fun σ14 =>
gI 7 3 σ14 r2 fun v15 =>
wI σ14 r6 3 v15 fun σ16 =>
gI 7 4 σ16 r2 fun v17 =>
wI σ16 r6 4 v17 fun σ18 =>
gI 7 5 σ18 r2 fun v19 =>
wI σ18 r6 5 v19 fun σ20 =>
gI 7 6 σ20 r2 fun v21 =>
wI σ20 r6 6 v21 fun σ22 =>
gI 7 7 σ22 r2 fun v23 =>
wI σ22 r6 7 v23 fun σ24 =>
gI 7 8 σ24 r2 fun v25 =>
wI σ24 r6 8 v25 fun σ26 =>
gI 7 9 σ26 r2 fun v27 =>
wI σ26 r6 9 v27 fun σ28 =>
gI 7 10 σ28 r2 fun v29 =>
if v29 = 0 then
b_X8_ofLotNow_105 p1 r2 0 10 r6 r6 σ28
else
b_X8_ofLotNow_105 p1 r2 1 10 r6 r6 σ28

noncomputable def f_X8_ofLotNow (a0 : Nat) (p0 : Int32) (p1 : Int32) (σ : Mem) : Option ((Int32) × Mem) := b_X8_ofLotNow_0 a0 p0 p1 σ
set_option maxRecDepth 100000 in
set_option maxHeartbeats 4000000 in
theorem t_X8_ofLotNow_170 {C : Cxt} {G : Glb} (hC : CX C G RX8 cX8_ofLotNow 5 (some .int) 3 1 14 64) (y170_0 : Int32) (σ : Mem) (kc ks : Nat) (hN : kc + 0 ≤ 1 ∧ ks + 0 ≤ 14) : Wo C G 5 (QP C G rvI 1 14) (b_X8_ofLotNow_170  y170_0 σ) σ kc ks 170 [] [.int y170_0] := by
  unfold b_X8_ofLotNow_170
  exact e_I hC ⟨by omega, by omega⟩ dX8_ofLotNow_170

set_option maxRecDepth 100000 in
set_option maxHeartbeats 4000000 in
theorem t_X8_ofLotNow_137 {C : Cxt} {G : Glb} (hC : CX C G RX8 cX8_ofLotNow 5 (some .int) 3 1 14 64) (x137_2 : Int32) (x137_3 : (Option Nat)) (y137_0 : Int32) (y137_1 : Int32) (y137_2 : (Option Nat)) (y137_3 : (Option Nat)) (σ : Mem) (kc ks : Nat) (hN : kc + 0 ≤ 1 ∧ ks + 0 ≤ 14) : Wo C G 5 (QP C G rvI 1 14) (b_X8_ofLotNow_137  x137_2 x137_3 y137_0 y137_1 y137_2 y137_3 σ) σ kc ks 137 [(2, .int x137_2), (3, va_rf x137_3)] [.int y137_0, .int y137_1, va_rf y137_2, va_rf y137_3] := by
  unfold b_X8_ofLotNow_137
  refine r_wI hC (r := y137_2) dX8_ofLotNow_137 (fun σ34 => ?_)
  refine r_dup hC (cat_rf _) dX8_ofLotNow_138 ?_
  refine r_bipush hC (13) (by decide) dX8_ofLotNow_139 ?_
  refine r_aloadn hC 1 (r := x137_3) rfl rfl dX8_ofLotNow_141 ?_
  refine r_gI hC (k := 13) (r := x137_3) cls_7 (by decide) rfl q_1122 (Or.inl rfl) dX8_ofLotNow_142 (fun v35 => ?_)
  refine r_wI hC (r := y137_3) dX8_ofLotNow_145 (fun σ36 => ?_)
  refine r_astore hC [(4, va_rf y137_3), (2, .int x137_2), (3, va_rf x137_3)] (r := y137_3) (i := 4) (by decide) (by simp [List.filter, cat_rf, cat_i, cat_j, cat_d, cat_a]) dX8_ofLotNow_146 ?_
  refine r_iloadn hC 1 rfl rfl dX8_ofLotNow_148 ?_
  refine r_bipush hC (14) (by decide) dX8_ofLotNow_149 ?_
  refine r_icmp_ge hC 161 dX8_ofLotNow_151 (by decide) ?_ ?_
  · refine r_aloadn hC 2 (r := x137_3) rfl rfl dX8_ofLotNow_161 ?_
    refine r_gR hC (k := 1) (r := x137_3) cls_7 (by decide) rfl q_1098 (Or.inl rfl) dX8_ofLotNow_162 (fun r37 => ?_)
    refine r_iloadn hC 1 rfl rfl dX8_ofLotNow_165 ?_
    refine r_bipush hC (14) (by decide) dX8_ofLotNow_166 ?_
    refine r_isub hC dX8_ofLotNow_168 (fun v38 => ?_)
    refine r_aI hC (r := r37) dX8_ofLotNow_169 (fun v39 => ?_)
    refine Wo.sub [] rfl ?_
    exact t_X8_ofLotNow_170 hC v39 σ36 _ _ ⟨by omega, by omega⟩
  · refine r_aload hC 0 (r := y137_3) rfl dX8_ofLotNow_154 ?_
    refine r_iloadn hC 1 rfl rfl dX8_ofLotNow_156 ?_
    refine r_aI hC (r := y137_3) dX8_ofLotNow_157 (fun v40 => ?_)
    refine r_goto hC 170 dX8_ofLotNow_158 (by decide) ?_
    refine Wo.sub [] rfl ?_
    exact t_X8_ofLotNow_170 hC v40 σ36 _ _ ⟨by omega, by omega⟩

set_option maxRecDepth 100000 in
set_option maxHeartbeats 4000000 in
theorem t_X8_ofLotNow_121 {C : Cxt} {G : Glb} (hC : CX C G RX8 cX8_ofLotNow 5 (some .int) 3 1 14 64) (x121_2 : Int32) (x121_3 : (Option Nat)) (y121_0 : Int32) (y121_1 : Int32) (y121_2 : (Option Nat)) (y121_3 : (Option Nat)) (σ : Mem) (kc ks : Nat) (hN : kc + 0 ≤ 1 ∧ ks + 0 ≤ 14) : Wo C G 5 (QP C G rvI 1 14) (b_X8_ofLotNow_121  x121_2 x121_3 y121_0 y121_1 y121_2 y121_3 σ) σ kc ks 121 [(2, .int x121_2), (3, va_rf x121_3)] [.int y121_0, .int y121_1, va_rf y121_2, va_rf y121_3] := by
  unfold b_X8_ofLotNow_121
  refine r_wI hC (r := y121_2) dX8_ofLotNow_121 (fun σ32 => ?_)
  refine r_dup hC (cat_rf _) dX8_ofLotNow_122 ?_
  refine r_bipush hC (12) (by decide) dX8_ofLotNow_123 ?_
  refine r_aloadn hC 1 (r := x121_3) rfl rfl dX8_ofLotNow_125 ?_
  refine r_gR hC (k := 12) (r := x121_3) cls_7 (by decide) rfl q_1120 (Or.inl rfl) dX8_ofLotNow_126 (fun r33 => ?_)
  refine r_ifnull hC 136 dX8_ofLotNow_129 (by decide) ?_ ?_
  · refine r_iconst hC (0) rfl dX8_ofLotNow_136 ?_
    exact t_X8_ofLotNow_137 hC x121_2 x121_3 0 12 y121_3 y121_3 σ32 _ _ ⟨by omega, by omega⟩
  · refine r_iconst hC (1) rfl dX8_ofLotNow_132 ?_
    refine r_goto hC 137 dX8_ofLotNow_133 (by decide) ?_
    exact t_X8_ofLotNow_137 hC x121_2 x121_3 1 12 y121_3 y121_3 σ32 _ _ ⟨by omega, by omega⟩

set_option maxRecDepth 100000 in
set_option maxHeartbeats 4000000 in
theorem t_X8_ofLotNow_105 {C : Cxt} {G : Glb} (hC : CX C G RX8 cX8_ofLotNow 5 (some .int) 3 1 14 64) (x105_2 : Int32) (x105_3 : (Option Nat)) (y105_0 : Int32) (y105_1 : Int32) (y105_2 : (Option Nat)) (y105_3 : (Option Nat)) (σ : Mem) (kc ks : Nat) (hN : kc + 0 ≤ 1 ∧ ks + 0 ≤ 14) : Wo C G 5 (QP C G rvI 1 14) (b_X8_ofLotNow_105  x105_2 x105_3 y105_0 y105_1 y105_2 y105_3 σ) σ kc ks 105 [(2, .int x105_2), (3, va_rf x105_3)] [.int y105_0, .int y105_1, va_rf y105_2, va_rf y105_3] := by
  unfold b_X8_ofLotNow_105
  refine r_wI hC (r := y105_2) dX8_ofLotNow_105 (fun σ30 => ?_)
  refine r_dup hC (cat_rf _) dX8_ofLotNow_106 ?_
  refine r_bipush hC (11) (by decide) dX8_ofLotNow_107 ?_
  refine r_aloadn hC 1 (r := x105_3) rfl rfl dX8_ofLotNow_109 ?_
  refine r_gI hC (k := 11) (r := x105_3) cls_7 (by decide) rfl q_1118 (Or.inl rfl) dX8_ofLotNow_110 (fun v31 => ?_)
  refine r_if_eq hC 120 dX8_ofLotNow_113 (by decide) ?_ ?_
  · refine r_iconst hC (0) rfl dX8_ofLotNow_120 ?_
    exact t_X8_ofLotNow_121 hC x105_2 x105_3 0 11 y105_3 y105_3 σ30 _ _ ⟨by omega, by omega⟩
  · refine r_iconst hC (1) rfl dX8_ofLotNow_116 ?_
    refine r_goto hC 121 dX8_ofLotNow_117 (by decide) ?_
    exact t_X8_ofLotNow_121 hC x105_2 x105_3 1 11 y105_3 y105_3 σ30 _ _ ⟨by omega, by omega⟩

set_option maxRecDepth 100000 in
set_option maxHeartbeats 4000000 in
theorem t_X8_ofLotNow_0 {C : Cxt} {G : Glb} (hC : CX C G RX8 cX8_ofLotNow 5 (some .int) 3 1 14 64) (a0 : Nat) (p0 : Int32) (p1 : Int32) (σ : Mem) (kc ks : Nat) (hN : kc + 1 ≤ 1 ∧ ks + 14 ≤ 14) : Wo C G 5 (QP C G rvI 1 14) (b_X8_ofLotNow_0  a0 p0 p1 σ) σ kc ks 0 [(0, va_rf (some a0)), (1, .int p0), (2, .int p1)] [] := by
  unfold b_X8_ofLotNow_0
  refine r_aloadn hC 0 (r := (some a0)) rfl rfl dX8_ofLotNow_0 ?_
  refine r_gR hC (k := 7) (r := (some a0)) cls_10 (by decide) rfl q_847 (Or.inl rfl) dX8_ofLotNow_1 (fun r1 => ?_)
  refine r_iloadn hC 1 rfl rfl dX8_ofLotNow_4 ?_
  refine call_V hC (av := [.int p0]) (st := []) (r := r1) (ci := 1) rfl rfl (fun h9 => ct_Jx4a65c_get_915e3 hC.hl G h9 p0 σ) q_1057 q_1058 q_1059 q_47 q_1060 yd_Jx4a65c_get_915e3 rfl ⟨Nat.le_of_ble_eq_true rfl, Nat.le_of_ble_eq_true rfl⟩ ⟨by omega, by omega⟩ rfl (Nat.le_of_ble_eq_true rfl) dX8_ofLotNow_5 (fun r2 σ3 => ?_)
  show Wo _ _ _ _ _ _ _ _ _ _ [va_rf r2]
  refine r_ckO hC (r := r2) cls_7 q_1087 dX8_ofLotNow_8 ?_
  refine r_astoren hC [(3, va_rf r2), (0, va_rf (some a0)), (1, .int p0), (2, .int p1)] (r := r2) (i := 3) rfl (by decide) rfl dX8_ofLotNow_11 ?_
  refine r_bipush hC (14) (by decide) dX8_ofLotNow_12 ?_
  refine r_nA hC (t := 0) (b := 14) (ty := .int) rfl rfl rfl (fun _ h => va_nm_int h) q_102 (Nat.le_of_ble_eq_true rfl) ⟨by omega, by omega⟩ dX8_ofLotNow_14 (fun σ5 r6 => ?_)
  refine r_dup hC (cat_rf _) dX8_ofLotNow_16 ?_
  refine r_iconst hC (0) rfl dX8_ofLotNow_17 ?_
  refine r_aloadn hC 0 (r := r2) rfl rfl dX8_ofLotNow_18 ?_
  refine r_gI hC (k := 0) (r := r2) cls_7 (by decide) rfl q_1096 (Or.inl rfl) dX8_ofLotNow_19 (fun v7 => ?_)
  refine r_wI hC (r := r6) dX8_ofLotNow_22 (fun σ8 => ?_)
  refine r_dup hC (cat_rf _) dX8_ofLotNow_23 ?_
  refine r_iconst hC (1) rfl dX8_ofLotNow_24 ?_
  refine r_aloadn hC 0 (r := r2) rfl rfl dX8_ofLotNow_25 ?_
  refine call_V hC (av := []) (st := [.int 1, va_rf r6, va_rf r6]) (r := r2) (ci := 7) rfl rfl (fun h9 => ct_X5_dry hC.hl G h9 σ8) q_1157 q_1158 q_1159 q_63 q_1160 yd_X5_dry rfl ⟨Nat.le_of_ble_eq_true rfl, Nat.le_of_ble_eq_true rfl⟩ ⟨by omega, by omega⟩ rfl (by simp [cat_rf, cat_i, cat_j, cat_d, cat_a]) dX8_ofLotNow_26 (fun v9 σ10 => ?_)
  show Wo _ _ _ _ _ _ _ _ _ _ [.int v9, .int 1, va_rf r6, va_rf r6]
  refine r_wI hC (r := r6) dX8_ofLotNow_29 (fun σ12 => ?_)
  refine r_dup hC (cat_rf _) dX8_ofLotNow_30 ?_
  refine r_iconst hC (2) rfl dX8_ofLotNow_31 ?_
  refine r_aloadn hC 0 (r := r2) rfl rfl dX8_ofLotNow_32 ?_
  refine r_gI hC (k := 2) (r := r2) cls_7 (by decide) rfl q_1100 (Or.inl rfl) dX8_ofLotNow_33 (fun v13 => ?_)
  refine r_wI hC (r := r6) dX8_ofLotNow_36 (fun σ14 => ?_)
  refine r_dup hC (cat_rf _) dX8_ofLotNow_37 ?_
  refine r_iconst hC (3) rfl dX8_ofLotNow_38 ?_
  refine r_aloadn hC 0 (r := r2) rfl rfl dX8_ofLotNow_39 ?_
  refine r_gI hC (k := 3) (r := r2) cls_7 (by decide) rfl q_1102 (Or.inl rfl) dX8_ofLotNow_40 (fun v15 => ?_)
  refine r_wI hC (r := r6) dX8_ofLotNow_43 (fun σ16 => ?_)
  refine r_dup hC (cat_rf _) dX8_ofLotNow_44 ?_
  refine r_iconst hC (4) rfl dX8_ofLotNow_45 ?_
  refine r_aloadn hC 0 (r := r2) rfl rfl dX8_ofLotNow_46 ?_
  refine r_gI hC (k := 4) (r := r2) cls_7 (by decide) rfl q_1104 (Or.inl rfl) dX8_ofLotNow_47 (fun v17 => ?_)
  refine r_wI hC (r := r6) dX8_ofLotNow_50 (fun σ18 => ?_)
  refine r_dup hC (cat_rf _) dX8_ofLotNow_51 ?_
  refine r_iconst hC (5) rfl dX8_ofLotNow_52 ?_
  refine r_aloadn hC 0 (r := r2) rfl rfl dX8_ofLotNow_53 ?_
  refine r_gI hC (k := 5) (r := r2) cls_7 (by decide) rfl q_1106 (Or.inl rfl) dX8_ofLotNow_54 (fun v19 => ?_)
  refine r_wI hC (r := r6) dX8_ofLotNow_57 (fun σ20 => ?_)
  refine r_dup hC (cat_rf _) dX8_ofLotNow_58 ?_
  refine r_bipush hC (6) (by decide) dX8_ofLotNow_59 ?_
  refine r_aloadn hC 0 (r := r2) rfl rfl dX8_ofLotNow_61 ?_
  refine r_gI hC (k := 6) (r := r2) cls_7 (by decide) rfl q_1108 (Or.inl rfl) dX8_ofLotNow_62 (fun v21 => ?_)
  refine r_wI hC (r := r6) dX8_ofLotNow_65 (fun σ22 => ?_)
  refine r_dup hC (cat_rf _) dX8_ofLotNow_66 ?_
  refine r_bipush hC (7) (by decide) dX8_ofLotNow_67 ?_
  refine r_aloadn hC 0 (r := r2) rfl rfl dX8_ofLotNow_69 ?_
  refine r_gI hC (k := 7) (r := r2) cls_7 (by decide) rfl q_1110 (Or.inl rfl) dX8_ofLotNow_70 (fun v23 => ?_)
  refine r_wI hC (r := r6) dX8_ofLotNow_73 (fun σ24 => ?_)
  refine r_dup hC (cat_rf _) dX8_ofLotNow_74 ?_
  refine r_bipush hC (8) (by decide) dX8_ofLotNow_75 ?_
  refine r_aloadn hC 0 (r := r2) rfl rfl dX8_ofLotNow_77 ?_
  refine r_gI hC (k := 8) (r := r2) cls_7 (by decide) rfl q_1112 (Or.inl rfl) dX8_ofLotNow_78 (fun v25 => ?_)
  refine r_wI hC (r := r6) dX8_ofLotNow_81 (fun σ26 => ?_)
  refine r_dup hC (cat_rf _) dX8_ofLotNow_82 ?_
  refine r_bipush hC (9) (by decide) dX8_ofLotNow_83 ?_
  refine r_aloadn hC 0 (r := r2) rfl rfl dX8_ofLotNow_85 ?_
  refine r_gI hC (k := 9) (r := r2) cls_7 (by decide) rfl q_1114 (Or.inl rfl) dX8_ofLotNow_86 (fun v27 => ?_)
  refine r_wI hC (r := r6) dX8_ofLotNow_89 (fun σ28 => ?_)
  refine r_dup hC (cat_rf _) dX8_ofLotNow_90 ?_
  refine r_bipush hC (10) (by decide) dX8_ofLotNow_91 ?_
  refine r_aloadn hC 0 (r := r2) rfl rfl dX8_ofLotNow_93 ?_
  refine r_gI hC (k := 10) (r := r2) cls_7 (by decide) rfl q_1116 (Or.inl rfl) dX8_ofLotNow_94 (fun v29 => ?_)
  refine r_if_eq hC 104 dX8_ofLotNow_97 (by decide) ?_ ?_
  · refine r_iconst hC (0) rfl dX8_ofLotNow_104 ?_
    refine Wo.sub [3, 0] rfl ?_
    exact t_X8_ofLotNow_105 hC p1 r2 0 10 r6 r6 σ28 _ _ ⟨by omega, by omega⟩
  · refine r_iconst hC (1) rfl dX8_ofLotNow_100 ?_
    refine r_goto hC 105 dX8_ofLotNow_101 (by decide) ?_
    refine Wo.sub [3, 0] rfl ?_
    exact t_X8_ofLotNow_105 hC p1 r2 1 10 r6 r6 σ28 _ _ ⟨by omega, by omega⟩

set_option maxRecDepth 100000 in
set_option maxHeartbeats 4000000 in
theorem ct_X8_ofLotNow {l : Launch} (hl : l.stackTraces = false) (G : Glb) (a0 : Nat) (p0 : Int32) (p1 : Int32) (σ : Mem) : Ct rvI l yX8_ofLotNow (Cond.code yX8_ofLotNow cX8_ofLotNow 5 (some .int) :: uW) { frames := 3, cells := 1, slots := 14, locals := 64 } 1 14 G [.ref a0, .int p0, .int p1] σ (f_X8_ofLotNow a0 p0 p1 σ) := by
  refine Ct.of hl (by decide +kernel) (Nat.le_of_ble_eq_true rfl) (fun C hC hin => ?_)
  have e : lv_args 0 [.ref a0, .int p0, .int p1] = [(0, .ref a0), (1, .int p0), (2, .int p1)] := rfl
  rw [e]
  exact t_X8_ofLotNow_0 hC a0 p0 p1 σ 0 0 ⟨Nat.le_of_ble_eq_true rfl, Nat.le_of_ble_eq_true rfl⟩

noncomputable def b_X8_ofLot_46 (y46_0 : Int32) (σ : Mem) : Option ((Int32) × Mem) :=
some (y46_0, σ)

noncomputable def b_X8_ofLot_36 (σ : Mem) : Option ((Int32) × Mem) :=
b_X8_ofLot_46 0 σ

noncomputable def b_X8_ofLot_29 (a0 : Nat) (x29_1 : Int32) (x29_2 : Int32) (y29_0 : Int32) (y29_1 : (Option Nat)) (σ : Mem) : Option ((Int32) × Mem) :=
ob 10 σ y29_1 fun h11 => cl1 (f_X8_refuse h11 y29_0 2 σ) fun v9 σ10 =>
if v9 = 0 then
ob 10 σ10 (some a0) fun h14 => cl1 (f_X8_ofLotNow h14 x29_1 x29_2 σ10) fun v12 σ13 =>
b_X8_ofLot_46 v12 σ13
else
b_X8_ofLot_36 σ10

noncomputable def b_X8_ofLot_0 (a0 : Nat) (p0 : Int32) (p1 : Int32) (σ : Mem) : Option ((Int32) × Mem) :=
ob 10 σ (some a0) fun h3 => cl1 (f_X8_isNoLot h3 p0 σ) fun v1 σ2 =>
ob 10 σ2 (some a0) fun h6 => cl1 (f_X8_start h6 v1 1 σ2) fun v4 σ5 =>
if v4 = 0 then
cl1 (f_X8_isIn p1 0 17 σ5) fun v7 σ8 =>
if v7 = 0 then
b_X8_ofLot_29 a0 p0 p1 1 (some a0) σ8
else
b_X8_ofLot_29 a0 p0 p1 0 (some a0) σ8
else
b_X8_ofLot_36 σ5

noncomputable def f_X8_ofLot (a0 : Nat) (p0 : Int32) (p1 : Int32) (σ : Mem) : Option ((Int32) × Mem) := b_X8_ofLot_0 a0 p0 p1 σ
set_option maxRecDepth 100000 in
set_option maxHeartbeats 4000000 in
theorem t_X8_ofLot_46 {C : Cxt} {G : Glb} (hC : CX C G RX8 cX8_ofLot 3 (some .int) 4 1 14 88) (y46_0 : Int32) (σ : Mem) (kc ks : Nat) (hN : kc + 0 ≤ 1 ∧ ks + 0 ≤ 14) : Wo C G 3 (QP C G rvI 1 14) (b_X8_ofLot_46  y46_0 σ) σ kc ks 46 [] [.int y46_0] := by
  unfold b_X8_ofLot_46
  exact e_I hC ⟨by omega, by omega⟩ dX8_ofLot_46

set_option maxRecDepth 100000 in
set_option maxHeartbeats 4000000 in
theorem t_X8_ofLot_36 {C : Cxt} {G : Glb} (hC : CX C G RX8 cX8_ofLot 3 (some .int) 4 1 14 88) (σ : Mem) (kc ks : Nat) (hN : kc + 0 ≤ 1 ∧ ks + 0 ≤ 14) : Wo C G 3 (QP C G rvI 1 14) (b_X8_ofLot_36   σ) σ kc ks 36 [] [] := by
  unfold b_X8_ofLot_36
  refine r_iconst hC (0) rfl dX8_ofLot_36 ?_
  refine r_goto hC 46 dX8_ofLot_37 (by decide) ?_
  exact t_X8_ofLot_46 hC 0 σ _ _ ⟨by omega, by omega⟩

set_option maxRecDepth 100000 in
set_option maxHeartbeats 4000000 in
theorem t_X8_ofLot_29 {C : Cxt} {G : Glb} (hC : CX C G RX8 cX8_ofLot 3 (some .int) 4 1 14 88) (a0 : Nat) (x29_1 : Int32) (x29_2 : Int32) (y29_0 : Int32) (y29_1 : (Option Nat)) (σ : Mem) (kc ks : Nat) (hN : kc + 1 ≤ 1 ∧ ks + 14 ≤ 14) : Wo C G 3 (QP C G rvI 1 14) (b_X8_ofLot_29  a0 x29_1 x29_2 y29_0 y29_1 σ) σ kc ks 29 [(0, va_rf (some a0)), (1, .int x29_1), (2, .int x29_2)] [.int y29_0, va_rf y29_1] := by
  unfold b_X8_ofLot_29
  refine r_iconst hC (2) rfl dX8_ofLot_29 ?_
  refine call_V hC (av := [.int y29_0, .int 2]) (st := []) (r := y29_1) (ci := 10) rfl rfl (fun h9 => ct_X8_refuse hC.hl G h9 y29_0 2 σ) q_886 q_888 q_13 q_44 q_889 yd_X8_refuse rfl ⟨Nat.le_of_ble_eq_true rfl, Nat.le_of_ble_eq_true rfl⟩ ⟨by omega, by omega⟩ rfl (Nat.le_of_ble_eq_true rfl) dX8_ofLot_30 (fun v9 σ10 => ?_)
  show Wo _ _ _ _ _ _ _ _ _ _ [.int v9]
  refine r_if_eq hC 40 dX8_ofLot_33 (by decide) ?_ ?_
  · refine r_aloadn hC 0 (r := (some a0)) rfl rfl dX8_ofLot_40 ?_
    refine r_iloadn hC 1 rfl rfl dX8_ofLot_41 ?_
    refine r_iloadn hC 2 rfl rfl dX8_ofLot_42 ?_
    refine call_V hC (av := [.int x29_1, .int x29_2]) (st := []) (r := (some a0)) (ci := 10) rfl rfl (fun h9 => ct_X8_ofLotNow hC.hl G h9 x29_1 x29_2 σ10) q_1345 q_1347 q_26 q_44 q_1348 yd_X8_ofLotNow rfl ⟨Nat.le_of_ble_eq_true rfl, Nat.le_of_ble_eq_true rfl⟩ ⟨by omega, by omega⟩ rfl (Nat.le_of_ble_eq_true rfl) dX8_ofLot_43 (fun v12 σ13 => ?_)
    show Wo _ _ _ _ _ _ _ _ _ _ [.int v12]
    refine Wo.sub [] rfl ?_
    exact t_X8_ofLot_46 hC v12 σ13 _ _ ⟨by omega, by omega⟩
  · refine Wo.sub [] rfl ?_
    exact t_X8_ofLot_36 hC  σ10 _ _ ⟨by omega, by omega⟩

set_option maxRecDepth 100000 in
set_option maxHeartbeats 4000000 in
theorem t_X8_ofLot_0 {C : Cxt} {G : Glb} (hC : CX C G RX8 cX8_ofLot 3 (some .int) 4 1 14 88) (a0 : Nat) (p0 : Int32) (p1 : Int32) (σ : Mem) (kc ks : Nat) (hN : kc + 1 ≤ 1 ∧ ks + 14 ≤ 14) : Wo C G 3 (QP C G rvI 1 14) (b_X8_ofLot_0  a0 p0 p1 σ) σ kc ks 0 [(0, va_rf (some a0)), (1, .int p0), (2, .int p1)] [] := by
  unfold b_X8_ofLot_0
  refine r_aloadn hC 0 (r := (some a0)) rfl rfl dX8_ofLot_0 ?_
  refine r_aloadn hC 0 (r := (some a0)) rfl rfl dX8_ofLot_1 ?_
  refine r_iloadn hC 1 rfl rfl dX8_ofLot_2 ?_
  refine call_V hC (av := [.int p0]) (st := [va_rf (some a0)]) (r := (some a0)) (ci := 10) rfl rfl (fun h9 => ct_X8_isNoLot hC.hl G h9 p0 σ) q_1165 q_1167 q_19 q_44 q_1168 yd_X8_isNoLot rfl ⟨Nat.le_of_ble_eq_true rfl, Nat.le_of_ble_eq_true rfl⟩ ⟨by omega, by omega⟩ rfl (by simp [cat_rf, cat_i, cat_j, cat_d, cat_a]) dX8_ofLot_3 (fun v1 σ2 => ?_)
  show Wo _ _ _ _ _ _ _ _ _ _ [.int v1, va_rf (some a0)]
  refine r_iconst hC (1) rfl dX8_ofLot_6 ?_
  refine call_V hC (av := [.int v1, .int 1]) (st := []) (r := (some a0)) (ci := 10) rfl rfl (fun h9 => ct_X8_start hC.hl G h9 v1 1 σ2) q_882 q_884 q_12 q_44 q_885 yd_X8_start rfl ⟨Nat.le_of_ble_eq_true rfl, Nat.le_of_ble_eq_true rfl⟩ ⟨by omega, by omega⟩ rfl (Nat.le_of_ble_eq_true rfl) dX8_ofLot_7 (fun v4 σ5 => ?_)
  show Wo _ _ _ _ _ _ _ _ _ _ [.int v4]
  refine r_if_ne hC 36 dX8_ofLot_10 (by decide) ?_ ?_
  · refine Wo.sub [] rfl ?_
    exact t_X8_ofLot_36 hC  σ5 _ _ ⟨by omega, by omega⟩
  · refine r_aloadn hC 0 (r := (some a0)) rfl rfl dX8_ofLot_13 ?_
    refine r_iloadn hC 2 rfl rfl dX8_ofLot_14 ?_
    refine r_iconst hC (0) rfl dX8_ofLot_15 ?_
    refine r_bipush hC (17) (by decide) dX8_ofLot_16 ?_
    refine call_S hC (av := [.int p1, .int 0, .int 17]) (st := [va_rf (some a0)]) (ct_X8_isIn hC.hl G p1 0 17 σ5) q_879 q_880 q_44 q_881 yd_X8_isIn rfl ⟨Nat.le_of_ble_eq_true rfl, Nat.le_of_ble_eq_true rfl⟩ ⟨by omega, by omega⟩ rfl (by simp [cat_rf, cat_i, cat_j, cat_d, cat_a]) dX8_ofLot_18 (fun v7 σ8 => ?_)
    show Wo _ _ _ _ _ _ _ _ _ _ [.int v7, va_rf (some a0)]
    refine r_if_ne hC 28 dX8_ofLot_21 (by decide) ?_ ?_
    · refine r_iconst hC (0) rfl dX8_ofLot_28 ?_
      exact t_X8_ofLot_29 hC a0 p0 p1 0 (some a0) σ8 _ _ ⟨by omega, by omega⟩
    · refine r_iconst hC (1) rfl dX8_ofLot_24 ?_
      refine r_goto hC 29 dX8_ofLot_25 (by decide) ?_
      exact t_X8_ofLot_29 hC a0 p0 p1 1 (some a0) σ8 _ _ ⟨by omega, by omega⟩

set_option maxRecDepth 100000 in
set_option maxHeartbeats 4000000 in
theorem ct_X8_ofLot {l : Launch} (hl : l.stackTraces = false) (G : Glb) (a0 : Nat) (p0 : Int32) (p1 : Int32) (σ : Mem) : Ct rvI l yX8_ofLot (Cond.code yX8_ofLot cX8_ofLot 3 (some .int) :: uW) { frames := 4, cells := 1, slots := 14, locals := 88 } 1 14 G [.ref a0, .int p0, .int p1] σ (f_X8_ofLot a0 p0 p1 σ) := by
  refine Ct.of hl (by decide +kernel) (Nat.le_of_ble_eq_true rfl) (fun C hC hin => ?_)
  have e : lv_args 0 [.ref a0, .int p0, .int p1] = [(0, .ref a0), (1, .int p0), (2, .int p1)] := rfl
  rw [e]
  exact t_X8_ofLot_0 hC a0 p0 p1 σ 0 0 ⟨Nat.le_of_ble_eq_true rfl, Nat.le_of_ble_eq_true rfl⟩

noncomputable def b_X8_isNote_62 (y62_0 : Int32) (σ : Mem) : Option ((Int32) × Mem) :=
bo y62_0 (some (y62_0, σ))

noncomputable def b_X8_isNote_61 (σ : Mem) : Option ((Int32) × Mem) :=
b_X8_isNote_62 0 σ

noncomputable def b_X8_isNote_50 (y50_0 : Int32) (y50_1 : (Option Nat)) (σ : Mem) : Option ((Int32) × Mem) :=
ob 10 σ y50_1 fun h17 => cl1 (f_X8_refuse h17 y50_0 3 σ) fun v15 σ16 =>
if v15 = 0 then
b_X8_isNote_62 1 σ16
else
b_X8_isNote_61 σ16

noncomputable def b_X8_isNote_28 (a0 : Nat) (x28_1 : Int32) (y28_0 : Int32) (y28_1 : (Option Nat)) (σ : Mem) : Option ((Int32) × Mem) :=
ob 10 σ y28_1 fun h11 => cl1 (f_X8_refuse h11 y28_0 2 σ) fun v9 σ10 =>
if v9 = 0 then
ob 10 σ10 (some a0) fun h14 => cl1 (f_X8_isState h14 x28_1 2 σ10) fun v12 σ13 =>
if v12 = 0 then
b_X8_isNote_50 1 (some a0) σ13
else
b_X8_isNote_50 0 (some a0) σ13
else
b_X8_isNote_61 σ10

noncomputable def b_X8_isNote_0 (a0 : Nat) (p0 : Int32) (p1 : Int32) (σ : Mem) : Option ((Int32) × Mem) :=
ob 10 σ (some a0) fun h3 => cl1 (f_X8_isNoLot h3 p0 σ) fun v1 σ2 =>
ob 10 σ2 (some a0) fun h6 => cl1 (f_X8_start h6 v1 1 σ2) fun v4 σ5 =>
if v4 = 0 then
cl1 (f_X8_isIn p1 0 2 σ5) fun v7 σ8 =>
if v7 = 0 then
b_X8_isNote_28 a0 p0 1 (some a0) σ8
else
b_X8_isNote_28 a0 p0 0 (some a0) σ8
else
b_X8_isNote_61 σ5

noncomputable def f_X8_isNote (a0 : Nat) (p0 : Int32) (p1 : Int32) (σ : Mem) : Option ((Int32) × Mem) := b_X8_isNote_0 a0 p0 p1 σ
set_option maxRecDepth 100000 in
set_option maxHeartbeats 4000000 in
theorem t_X8_isNote_62 {C : Cxt} {G : Glb} (hC : CX C G RX8 cX8_isNote 3 (some .boolean) 4 0 0 86) (y62_0 : Int32) (σ : Mem) : Wo C G 3 (QP C G rvI 0 0) (b_X8_isNote_62  y62_0 σ) σ 0 0 62 [] [.int y62_0] := by
  unfold b_X8_isNote_62
  exact e_B hC ⟨Nat.zero_le _, Nat.zero_le _⟩ dX8_isNote_62

set_option maxRecDepth 100000 in
set_option maxHeartbeats 4000000 in
theorem t_X8_isNote_61 {C : Cxt} {G : Glb} (hC : CX C G RX8 cX8_isNote 3 (some .boolean) 4 0 0 86) (σ : Mem) : Wo C G 3 (QP C G rvI 0 0) (b_X8_isNote_61   σ) σ 0 0 61 [] [] := by
  unfold b_X8_isNote_61
  refine r_iconst hC (0) rfl dX8_isNote_61 ?_
  exact t_X8_isNote_62 hC 0 σ

set_option maxRecDepth 100000 in
set_option maxHeartbeats 4000000 in
theorem t_X8_isNote_50 {C : Cxt} {G : Glb} (hC : CX C G RX8 cX8_isNote 3 (some .boolean) 4 0 0 86) (y50_0 : Int32) (y50_1 : (Option Nat)) (σ : Mem) : Wo C G 3 (QP C G rvI 0 0) (b_X8_isNote_50  y50_0 y50_1 σ) σ 0 0 50 [] [.int y50_0, va_rf y50_1] := by
  unfold b_X8_isNote_50
  refine r_iconst hC (3) rfl dX8_isNote_50 ?_
  refine call_V hC (av := [.int y50_0, .int 3]) (st := []) (r := y50_1) (ci := 10) rfl rfl (fun h9 => ct_X8_refuse hC.hl G h9 y50_0 3 σ) q_886 q_888 q_13 q_44 q_889 yd_X8_refuse rfl ⟨Nat.le_of_ble_eq_true rfl, Nat.le_of_ble_eq_true rfl⟩ ⟨Nat.zero_le _, Nat.zero_le _⟩ rfl (Nat.le_of_ble_eq_true rfl) dX8_isNote_51 (fun v15 σ16 => ?_)
  show Wo _ _ _ _ _ _ _ _ _ _ [.int v15]
  refine r_if_ne hC 61 dX8_isNote_54 (by decide) ?_ ?_
  · exact t_X8_isNote_61 hC  σ16
  · refine r_iconst hC (1) rfl dX8_isNote_57 ?_
    refine r_goto hC 62 dX8_isNote_58 (by decide) ?_
    exact t_X8_isNote_62 hC 1 σ16

set_option maxRecDepth 100000 in
set_option maxHeartbeats 4000000 in
theorem t_X8_isNote_28 {C : Cxt} {G : Glb} (hC : CX C G RX8 cX8_isNote 3 (some .boolean) 4 0 0 86) (a0 : Nat) (x28_1 : Int32) (y28_0 : Int32) (y28_1 : (Option Nat)) (σ : Mem) : Wo C G 3 (QP C G rvI 0 0) (b_X8_isNote_28  a0 x28_1 y28_0 y28_1 σ) σ 0 0 28 [(0, va_rf (some a0)), (1, .int x28_1)] [.int y28_0, va_rf y28_1] := by
  unfold b_X8_isNote_28
  refine r_iconst hC (2) rfl dX8_isNote_28 ?_
  refine call_V hC (av := [.int y28_0, .int 2]) (st := []) (r := y28_1) (ci := 10) rfl rfl (fun h9 => ct_X8_refuse hC.hl G h9 y28_0 2 σ) q_886 q_888 q_13 q_44 q_889 yd_X8_refuse rfl ⟨Nat.le_of_ble_eq_true rfl, Nat.le_of_ble_eq_true rfl⟩ ⟨Nat.zero_le _, Nat.zero_le _⟩ rfl (Nat.le_of_ble_eq_true rfl) dX8_isNote_29 (fun v9 σ10 => ?_)
  show Wo _ _ _ _ _ _ _ _ _ _ [.int v9]
  refine r_if_ne hC 61 dX8_isNote_32 (by decide) ?_ ?_
  · refine Wo.sub [] rfl ?_
    exact t_X8_isNote_61 hC  σ10
  · refine r_aloadn hC 0 (r := (some a0)) rfl rfl dX8_isNote_35 ?_
    refine r_aloadn hC 0 (r := (some a0)) rfl rfl dX8_isNote_36 ?_
    refine r_iloadn hC 1 rfl rfl dX8_isNote_37 ?_
    refine r_iconst hC (2) rfl dX8_isNote_38 ?_
    refine call_V hC (av := [.int x28_1, .int 2]) (st := [va_rf (some a0)]) (r := (some a0)) (ci := 10) rfl rfl (fun h9 => ct_X8_isState hC.hl G h9 x28_1 2 σ10) q_1181 q_1183 q_20 q_44 q_1184 yd_X8_isState rfl ⟨Nat.le_of_ble_eq_true rfl, Nat.le_of_ble_eq_true rfl⟩ ⟨Nat.zero_le _, Nat.zero_le _⟩ rfl (by simp [cat_rf, cat_i, cat_j, cat_d, cat_a]) dX8_isNote_39 (fun v12 σ13 => ?_)
    show Wo _ _ _ _ _ _ _ _ _ _ [.int v12, va_rf (some a0)]
    refine r_if_ne hC 49 dX8_isNote_42 (by decide) ?_ ?_
    · refine r_iconst hC (0) rfl dX8_isNote_49 ?_
      refine Wo.sub [] rfl ?_
      exact t_X8_isNote_50 hC 0 (some a0) σ13
    · refine r_iconst hC (1) rfl dX8_isNote_45 ?_
      refine r_goto hC 50 dX8_isNote_46 (by decide) ?_
      refine Wo.sub [] rfl ?_
      exact t_X8_isNote_50 hC 1 (some a0) σ13

set_option maxRecDepth 100000 in
set_option maxHeartbeats 4000000 in
theorem t_X8_isNote_0 {C : Cxt} {G : Glb} (hC : CX C G RX8 cX8_isNote 3 (some .boolean) 4 0 0 86) (a0 : Nat) (p0 : Int32) (p1 : Int32) (σ : Mem) : Wo C G 3 (QP C G rvI 0 0) (b_X8_isNote_0  a0 p0 p1 σ) σ 0 0 0 [(0, va_rf (some a0)), (1, .int p0), (2, .int p1)] [] := by
  unfold b_X8_isNote_0
  refine r_aloadn hC 0 (r := (some a0)) rfl rfl dX8_isNote_0 ?_
  refine r_aloadn hC 0 (r := (some a0)) rfl rfl dX8_isNote_1 ?_
  refine r_iloadn hC 1 rfl rfl dX8_isNote_2 ?_
  refine call_V hC (av := [.int p0]) (st := [va_rf (some a0)]) (r := (some a0)) (ci := 10) rfl rfl (fun h9 => ct_X8_isNoLot hC.hl G h9 p0 σ) q_1165 q_1167 q_19 q_44 q_1168 yd_X8_isNoLot rfl ⟨Nat.le_of_ble_eq_true rfl, Nat.le_of_ble_eq_true rfl⟩ ⟨Nat.zero_le _, Nat.zero_le _⟩ rfl (by simp [cat_rf, cat_i, cat_j, cat_d, cat_a]) dX8_isNote_3 (fun v1 σ2 => ?_)
  show Wo _ _ _ _ _ _ _ _ _ _ [.int v1, va_rf (some a0)]
  refine r_iconst hC (1) rfl dX8_isNote_6 ?_
  refine call_V hC (av := [.int v1, .int 1]) (st := []) (r := (some a0)) (ci := 10) rfl rfl (fun h9 => ct_X8_start hC.hl G h9 v1 1 σ2) q_882 q_884 q_12 q_44 q_885 yd_X8_start rfl ⟨Nat.le_of_ble_eq_true rfl, Nat.le_of_ble_eq_true rfl⟩ ⟨Nat.zero_le _, Nat.zero_le _⟩ rfl (Nat.le_of_ble_eq_true rfl) dX8_isNote_7 (fun v4 σ5 => ?_)
  show Wo _ _ _ _ _ _ _ _ _ _ [.int v4]
  refine r_if_ne hC 61 dX8_isNote_10 (by decide) ?_ ?_
  · refine Wo.sub [] rfl ?_
    exact t_X8_isNote_61 hC  σ5
  · refine r_aloadn hC 0 (r := (some a0)) rfl rfl dX8_isNote_13 ?_
    refine r_iloadn hC 2 rfl rfl dX8_isNote_14 ?_
    refine r_iconst hC (0) rfl dX8_isNote_15 ?_
    refine r_iconst hC (2) rfl dX8_isNote_16 ?_
    refine call_S hC (av := [.int p1, .int 0, .int 2]) (st := [va_rf (some a0)]) (ct_X8_isIn hC.hl G p1 0 2 σ5) q_879 q_880 q_44 q_881 yd_X8_isIn rfl ⟨Nat.le_of_ble_eq_true rfl, Nat.le_of_ble_eq_true rfl⟩ ⟨Nat.zero_le _, Nat.zero_le _⟩ rfl (by simp [cat_rf, cat_i, cat_j, cat_d, cat_a]) dX8_isNote_17 (fun v7 σ8 => ?_)
    show Wo _ _ _ _ _ _ _ _ _ _ [.int v7, va_rf (some a0)]
    refine r_if_ne hC 27 dX8_isNote_20 (by decide) ?_ ?_
    · refine r_iconst hC (0) rfl dX8_isNote_27 ?_
      refine Wo.sub [0, 1] rfl ?_
      exact t_X8_isNote_28 hC a0 p0 0 (some a0) σ8
    · refine r_iconst hC (1) rfl dX8_isNote_23 ?_
      refine r_goto hC 28 dX8_isNote_24 (by decide) ?_
      refine Wo.sub [0, 1] rfl ?_
      exact t_X8_isNote_28 hC a0 p0 1 (some a0) σ8

set_option maxRecDepth 100000 in
set_option maxHeartbeats 4000000 in
theorem ct_X8_isNote {l : Launch} (hl : l.stackTraces = false) (G : Glb) (a0 : Nat) (p0 : Int32) (p1 : Int32) (σ : Mem) : Ct rvI l yX8_isNote (Cond.code yX8_isNote cX8_isNote 3 (some .boolean) :: uW) { frames := 4, cells := 0, slots := 0, locals := 86 } 0 0 G [.ref a0, .int p0, .int p1] σ (f_X8_isNote a0 p0 p1 σ) := by
  refine Ct.of hl (by decide +kernel) (Nat.le_of_ble_eq_true rfl) (fun C hC hin => ?_)
  have e : lv_args 0 [.ref a0, .int p0, .int p1] = [(0, .ref a0), (1, .int p0), (2, .int p1)] := rfl
  rw [e]
  exact t_X8_isNote_0 hC a0 p0 p1 σ

noncomputable def b_X8_note_28 (y28_0 : Int32) (σ : Mem) : Option ((Int32) × Mem) :=
some (y28_0, σ)

noncomputable def b_X8_note_0 (a0 : Nat) (p0 : Int32) (p1 : Int32) (σ : Mem) : Option ((Int32) × Mem) :=
ob 10 σ (some a0) fun h3 => cl1 (f_X8_isNote h3 p0 p1 σ) fun v1 σ2 =>
if v1 = 0 then
b_X8_note_28 0 σ2
else
gR 10 7 σ2 (some a0) fun r4 =>
ob 1 σ2 r4 fun h7 => cl1 (f_Jx4a65c_get_915e3 h7 p0 σ2) fun r5 σ6 =>
ck 8 σ6 r5 <|
ob 7 σ6 r5 fun h10 => cl1 (f_X5_note h10 p1 σ6) fun v8 σ9 =>
b_X8_note_28 v8 σ9

noncomputable def f_X8_note (a0 : Nat) (p0 : Int32) (p1 : Int32) (σ : Mem) : Option ((Int32) × Mem) := b_X8_note_0 a0 p0 p1 σ
set_option maxRecDepth 100000 in
set_option maxHeartbeats 4000000 in
theorem t_X8_note_28 {C : Cxt} {G : Glb} (hC : CX C G RX8 cX8_note 3 (some .int) 5 0 0 108) (y28_0 : Int32) (σ : Mem) : Wo C G 3 (QP C G rvI 0 0) (b_X8_note_28  y28_0 σ) σ 0 0 28 [] [.int y28_0] := by
  unfold b_X8_note_28
  exact e_I hC ⟨Nat.zero_le _, Nat.zero_le _⟩ dX8_note_28

set_option maxRecDepth 100000 in
set_option maxHeartbeats 4000000 in
theorem t_X8_note_0 {C : Cxt} {G : Glb} (hC : CX C G RX8 cX8_note 3 (some .int) 5 0 0 108) (a0 : Nat) (p0 : Int32) (p1 : Int32) (σ : Mem) : Wo C G 3 (QP C G rvI 0 0) (b_X8_note_0  a0 p0 p1 σ) σ 0 0 0 [(0, va_rf (some a0)), (1, .int p0), (2, .int p1)] [] := by
  unfold b_X8_note_0
  refine r_aloadn hC 0 (r := (some a0)) rfl rfl dX8_note_0 ?_
  refine r_iloadn hC 1 rfl rfl dX8_note_1 ?_
  refine r_iloadn hC 2 rfl rfl dX8_note_2 ?_
  refine call_V hC (av := [.int p0, .int p1]) (st := []) (r := (some a0)) (ci := 10) rfl rfl (fun h9 => ct_X8_isNote hC.hl G h9 p0 p1 σ) q_1353 q_1355 q_27 q_44 q_1356 yd_X8_isNote rfl ⟨Nat.le_of_ble_eq_true rfl, Nat.le_of_ble_eq_true rfl⟩ ⟨Nat.zero_le _, Nat.zero_le _⟩ rfl (Nat.le_of_ble_eq_true rfl) dX8_note_3 (fun v1 σ2 => ?_)
  show Wo _ _ _ _ _ _ _ _ _ _ [.int v1]
  refine r_if_eq hC 27 dX8_note_6 (by decide) ?_ ?_
  · refine r_iconst hC (0) rfl dX8_note_27 ?_
    refine Wo.sub [] rfl ?_
    exact t_X8_note_28 hC 0 σ2
  · refine r_aloadn hC 0 (r := (some a0)) rfl rfl dX8_note_9 ?_
    refine r_gR hC (k := 7) (r := (some a0)) cls_10 (by decide) rfl q_847 (Or.inl rfl) dX8_note_10 (fun r4 => ?_)
    refine r_iloadn hC 1 rfl rfl dX8_note_13 ?_
    refine call_V hC (av := [.int p0]) (st := []) (r := r4) (ci := 1) rfl rfl (fun h9 => ct_Jx4a65c_get_915e3 hC.hl G h9 p0 σ2) q_1057 q_1058 q_1059 q_47 q_1060 yd_Jx4a65c_get_915e3 rfl ⟨Nat.le_of_ble_eq_true rfl, Nat.le_of_ble_eq_true rfl⟩ ⟨Nat.zero_le _, Nat.zero_le _⟩ rfl (Nat.le_of_ble_eq_true rfl) dX8_note_14 (fun r5 σ6 => ?_)
    show Wo _ _ _ _ _ _ _ _ _ _ [va_rf r5]
    refine r_ckO hC (r := r5) cls_7 q_1087 dX8_note_17 ?_
    refine r_iloadn hC 2 rfl rfl dX8_note_20 ?_
    refine call_V hC (av := [.int p1]) (st := []) (r := r5) (ci := 7) rfl rfl (fun h9 => ct_X5_note hC.hl G h9 p1 σ6) q_1262 q_1263 q_1264 q_63 q_1265 yd_X5_note rfl ⟨Nat.le_of_ble_eq_true rfl, Nat.le_of_ble_eq_true rfl⟩ ⟨Nat.zero_le _, Nat.zero_le _⟩ rfl (Nat.le_of_ble_eq_true rfl) dX8_note_21 (fun v8 σ9 => ?_)
    show Wo _ _ _ _ _ _ _ _ _ _ [.int v8]
    refine r_goto hC 28 dX8_note_24 (by decide) ?_
    refine Wo.sub [] rfl ?_
    exact t_X8_note_28 hC v8 σ9

set_option maxRecDepth 100000 in
set_option maxHeartbeats 4000000 in
theorem ct_X8_note {l : Launch} (hl : l.stackTraces = false) (G : Glb) (a0 : Nat) (p0 : Int32) (p1 : Int32) (σ : Mem) : Ct rvI l yX8_note (Cond.code yX8_note cX8_note 3 (some .int) :: uW) { frames := 5, cells := 0, slots := 0, locals := 108 } 0 0 G [.ref a0, .int p0, .int p1] σ (f_X8_note a0 p0 p1 σ) := by
  refine Ct.of hl (by decide +kernel) (Nat.le_of_ble_eq_true rfl) (fun C hC hin => ?_)
  have e : lv_args 0 [.ref a0, .int p0, .int p1] = [(0, .ref a0), (1, .int p0), (2, .int p1)] := rfl
  rw [e]
  exact t_X8_note_0 hC a0 p0 p1 σ

noncomputable def b_X8_tasteNow_16 (k16 : Nat → Int32 → Int32 → Int32 → (Option Nat) → Int32 → Int32 → Mem → Option ((Int32) × Mem)) (a0 : Nat) (x16_1 : Int32) (x16_2 : Int32) (x16_3 : Int32) (x16_4 : (Option Nat)) (x16_5 : Int32) (x16_6 : Int32) (σ : Mem) : Option ((Int32) × Mem) :=
if x16_5 ≤ x16_6 then
dv x16_3 3 fun v3 =>
cl1 (f_X8_held v3 σ) fun v4 σ5 =>
some (v4, σ5)
else
aR 5 σ x16_4 x16_6 fun r6 =>
gR 10 7 σ (some a0) fun r7 =>
ob 1 σ r7 fun h10 => cl1 (f_Jx4a65c_get_915e3 h10 x16_1 σ) fun r8 σ9 =>
ck 8 σ9 r8 <|
ob 7 σ9 r8 fun h13 => cl1 (f_X5_note h13 x16_2 σ9) fun v11 σ12 =>
ob 9 σ12 r6 fun h16 => cl1 (f_X7_tells h16 v11 σ12) fun v14 σ15 =>
ob 9 σ15 r6 fun h19 => cl1 (f_X7_guess h19 σ15) fun v17 σ18 =>
nm (v14 - v17) fun v20 =>
nm (x16_3 + v20) fun v21 =>
nm (x16_6 + 1) fun v22 =>
k16 a0 x16_1 x16_2 v21 x16_4 x16_5 v22 σ18

noncomputable def l_X8_tasteNow_16 (n : Nat) : Nat → Int32 → Int32 → Int32 → (Option Nat) → Int32 → Int32 → Mem → Option ((Int32) × Mem) := itr (fun _ _ _ _ _ _ _ _ => none) (fun k => b_X8_tasteNow_16  k) n

noncomputable def b_X8_tasteNow_0 (a0 : Nat) (p0 : Int32) (p1 : Int32) (σ : Mem) : Option ((Int32) × Mem) :=
gR 10 8 σ (some a0) fun r1 =>
aL σ r1 fun v2 =>
l_X8_tasteNow_16 40 a0 p0 p1 0 r1 v2 0 σ

noncomputable def f_X8_tasteNow (a0 : Nat) (p0 : Int32) (p1 : Int32) (σ : Mem) : Option ((Int32) × Mem) := b_X8_tasteNow_0 a0 p0 p1 σ
set_option maxRecDepth 100000 in
set_option maxHeartbeats 4000000 in
theorem t_X8_tasteNow_16 {C : Cxt} {G : Glb} (hC : CX C G RX8 cX8_tasteNow 8 (some .int) 3 0 0 64) (k16 : Nat → Int32 → Int32 → Int32 → (Option Nat) → Int32 → Int32 → Mem → Option ((Int32) × Mem)) (hk16 : ∀ (a0 : Nat) (x16_1 : Int32) (x16_2 : Int32) (x16_3 : Int32) (x16_4 : (Option Nat)) (x16_5 : Int32) (x16_6 : Int32) (σ : Mem), Wo C G 8 (QP C G rvI 0 0) (k16 a0 x16_1 x16_2 x16_3 x16_4 x16_5 x16_6 σ) σ 0 0 16 [(0, va_rf (some a0)), (1, .int x16_1), (2, .int x16_2), (3, .int x16_3), (4, va_rf x16_4), (5, .int x16_5), (6, .int x16_6)] []) (a0 : Nat) (x16_1 : Int32) (x16_2 : Int32) (x16_3 : Int32) (x16_4 : (Option Nat)) (x16_5 : Int32) (x16_6 : Int32) (σ : Mem) : Wo C G 8 (QP C G rvI 0 0) (b_X8_tasteNow_16 k16 a0 x16_1 x16_2 x16_3 x16_4 x16_5 x16_6 σ) σ 0 0 16 [(0, va_rf (some a0)), (1, .int x16_1), (2, .int x16_2), (3, .int x16_3), (4, va_rf x16_4), (5, .int x16_5), (6, .int x16_6)] [] := by
  unfold b_X8_tasteNow_16
  refine r_iload hC 6 rfl dX8_tasteNow_16 ?_
  refine r_iload hC 5 rfl dX8_tasteNow_18 ?_
  refine r_icmp_ge hC 65 dX8_tasteNow_20 (by decide) ?_ ?_
  · refine r_iloadn hC 3 rfl rfl dX8_tasteNow_65 ?_
    refine r_iconst hC (3) rfl dX8_tasteNow_66 ?_
    refine r_idiv hC dX8_tasteNow_67 (fun v3 => ?_)
    refine call_S hC (av := [.int v3]) (st := []) (ct_X8_held hC.hl G v3 σ) q_1365 q_1267 q_44 q_1268 yd_X8_held rfl ⟨Nat.le_of_ble_eq_true rfl, Nat.le_of_ble_eq_true rfl⟩ ⟨Nat.zero_le _, Nat.zero_le _⟩ rfl (Nat.le_of_ble_eq_true rfl) dX8_tasteNow_68 (fun v4 σ5 => ?_)
    show Wo _ _ _ _ _ _ _ _ _ _ [.int v4]
    exact e_I hC ⟨Nat.zero_le _, Nat.zero_le _⟩ dX8_tasteNow_71
  · refine r_aload hC 4 (r := x16_4) rfl dX8_tasteNow_23 ?_
    refine r_iload hC 6 rfl dX8_tasteNow_25 ?_
    refine r_aR hC (t := 5) (r := x16_4) rfl rfl dX8_tasteNow_27 (fun r6 => ?_)
    refine r_astore hC [(7, va_rf r6), (0, va_rf (some a0)), (1, .int x16_1), (2, .int x16_2), (3, .int x16_3), (4, va_rf x16_4), (5, .int x16_5), (6, .int x16_6)] (r := r6) (i := 7) (by decide) rfl dX8_tasteNow_28 ?_
    refine r_iloadn hC 4 rfl rfl dX8_tasteNow_30 ?_
    refine r_aload hC 0 (r := r6) rfl dX8_tasteNow_31 ?_
    refine r_aloadn hC 1 (r := (some a0)) rfl rfl dX8_tasteNow_33 ?_
    refine r_gR hC (k := 7) (r := (some a0)) cls_10 (by decide) rfl q_847 (Or.inl rfl) dX8_tasteNow_34 (fun r7 => ?_)
    refine r_iloadn hC 2 rfl rfl dX8_tasteNow_37 ?_
    refine call_V hC (av := [.int x16_1]) (st := [va_rf r6, .int x16_3]) (r := r7) (ci := 1) rfl rfl (fun h9 => ct_Jx4a65c_get_915e3 hC.hl G h9 x16_1 σ) q_1057 q_1058 q_1059 q_47 q_1060 yd_Jx4a65c_get_915e3 rfl ⟨Nat.le_of_ble_eq_true rfl, Nat.le_of_ble_eq_true rfl⟩ ⟨Nat.zero_le _, Nat.zero_le _⟩ rfl (by simp [cat_rf, cat_i, cat_j, cat_d, cat_a]) dX8_tasteNow_38 (fun r8 σ9 => ?_)
    show Wo _ _ _ _ _ _ _ _ _ _ [va_rf r8, va_rf r6, .int x16_3]
    refine r_ckO hC (r := r8) cls_7 q_1087 dX8_tasteNow_41 ?_
    refine r_iloadn hC 3 rfl rfl dX8_tasteNow_44 ?_
    refine call_V hC (av := [.int x16_2]) (st := [va_rf r6, .int x16_3]) (r := r8) (ci := 7) rfl rfl (fun h9 => ct_X5_note hC.hl G h9 x16_2 σ9) q_1262 q_1263 q_1264 q_63 q_1265 yd_X5_note rfl ⟨Nat.le_of_ble_eq_true rfl, Nat.le_of_ble_eq_true rfl⟩ ⟨Nat.zero_le _, Nat.zero_le _⟩ rfl (by simp [cat_rf, cat_i, cat_j, cat_d, cat_a]) dX8_tasteNow_45 (fun v11 σ12 => ?_)
    show Wo _ _ _ _ _ _ _ _ _ _ [.int v11, va_rf r6, .int x16_3]
    refine call_V hC (av := [.int v11]) (st := [.int x16_3]) (r := r6) (ci := 9) rfl rfl (fun h9 => ct_X7_tells hC.hl G h9 v11 σ12) q_1286 q_1287 q_1288 q_48 q_1289 yd_X7_tells rfl ⟨Nat.le_of_ble_eq_true rfl, Nat.le_of_ble_eq_true rfl⟩ ⟨Nat.zero_le _, Nat.zero_le _⟩ rfl (by simp [cat_rf, cat_i, cat_j, cat_d, cat_a]) dX8_tasteNow_48 (fun v14 σ15 => ?_)
    show Wo _ _ _ _ _ _ _ _ _ _ [.int v14, .int x16_3]
    refine r_aload hC 0 (r := r6) rfl dX8_tasteNow_51 ?_
    refine call_V hC (av := []) (st := [.int v14, .int x16_3]) (r := r6) (ci := 9) rfl rfl (fun h9 => ct_X7_guess hC.hl G h9 σ15) q_1291 q_1292 q_1293 q_48 q_1294 yd_X7_guess rfl ⟨Nat.le_of_ble_eq_true rfl, Nat.le_of_ble_eq_true rfl⟩ ⟨Nat.zero_le _, Nat.zero_le _⟩ rfl (by simp [cat_rf, cat_i, cat_j, cat_d, cat_a]) dX8_tasteNow_53 (fun v17 σ18 => ?_)
    show Wo _ _ _ _ _ _ _ _ _ _ [.int v17, .int v14, .int x16_3]
    refine r_isub hC dX8_tasteNow_56 (fun v20 => ?_)
    refine r_iadd hC dX8_tasteNow_57 (fun v21 => ?_)
    refine r_istoren hC [(3, .int v21), (7, va_rf r6), (0, va_rf (some a0)), (1, .int x16_1), (2, .int x16_2), (4, va_rf x16_4), (5, .int x16_5), (6, .int x16_6)] (i := 3) rfl (by decide) rfl dX8_tasteNow_58 ?_
    refine r_iinc hC 7 (fun w => [(6, .int w), (3, .int v21), (7, va_rf r6), (0, va_rf (some a0)), (1, .int x16_1), (2, .int x16_2), (4, va_rf x16_4), (5, .int x16_5)]) 1 rfl (by decide) rfl (fun w => rfl) dX8_tasteNow_59 (fun v22 => ?_)
    refine r_goto hC 16 dX8_tasteNow_62 (by decide) ?_
    refine Wo.sub [3, 4, 5, 1, 6, 7, 0] rfl ?_
    exact hk16 a0 x16_1 x16_2 v21 x16_4 x16_5 v22 σ18

set_option maxRecDepth 100000 in
set_option maxHeartbeats 4000000 in
theorem u_X8_tasteNow_16 {C : Cxt} {G : Glb} (hC : CX C G RX8 cX8_tasteNow 8 (some .int) 3 0 0 64) : ∀ (n : Nat) (a0 : Nat) (x16_1 : Int32) (x16_2 : Int32) (x16_3 : Int32) (x16_4 : (Option Nat)) (x16_5 : Int32) (x16_6 : Int32) (σ : Mem), Wo C G 8 (QP C G rvI 0 0) (l_X8_tasteNow_16  n a0 x16_1 x16_2 x16_3 x16_4 x16_5 x16_6 σ) σ 0 0 16 [(0, va_rf (some a0)), (1, .int x16_1), (2, .int x16_2), (3, .int x16_3), (4, va_rf x16_4), (5, .int x16_5), (6, .int x16_6)] [] := by
  intro n
  induction n with
  | zero => intro a0 x16_1 x16_2 x16_3 x16_4 x16_5 x16_6 σ; exact Wo.none
  | succ n ih => intro a0 x16_1 x16_2 x16_3 x16_4 x16_5 x16_6 σ; exact t_X8_tasteNow_16 hC (l_X8_tasteNow_16  n) ih a0 x16_1 x16_2 x16_3 x16_4 x16_5 x16_6 σ

set_option maxRecDepth 100000 in
set_option maxHeartbeats 4000000 in
theorem t_X8_tasteNow_0 {C : Cxt} {G : Glb} (hC : CX C G RX8 cX8_tasteNow 8 (some .int) 3 0 0 64) (a0 : Nat) (p0 : Int32) (p1 : Int32) (σ : Mem) : Wo C G 8 (QP C G rvI 0 0) (b_X8_tasteNow_0  a0 p0 p1 σ) σ 0 0 0 [(0, va_rf (some a0)), (1, .int p0), (2, .int p1)] [] := by
  unfold b_X8_tasteNow_0
  refine r_iconst hC (0) rfl dX8_tasteNow_0 ?_
  refine r_istoren hC [(3, .int 0), (0, va_rf (some a0)), (1, .int p0), (2, .int p1)] (i := 3) rfl (by decide) rfl dX8_tasteNow_1 ?_
  refine r_aloadn hC 1 (r := (some a0)) rfl rfl dX8_tasteNow_2 ?_
  refine r_gR hC (k := 8) (r := (some a0)) cls_10 (by decide) rfl q_848 (Or.inl rfl) dX8_tasteNow_3 (fun r1 => ?_)
  refine r_astore hC [(4, va_rf r1), (3, .int 0), (0, va_rf (some a0)), (1, .int p0), (2, .int p1)] (r := r1) (i := 4) (by decide) rfl dX8_tasteNow_6 ?_
  refine r_aload hC 0 (r := r1) rfl dX8_tasteNow_8 ?_
  refine r_aL hC (r := r1) dX8_tasteNow_10 (fun v2 => ?_)
  refine r_istore hC [(5, .int v2), (4, va_rf r1), (3, .int 0), (0, va_rf (some a0)), (1, .int p0), (2, .int p1)] (i := 5) (by decide) (by simp [List.filter, cat_rf, cat_i, cat_j, cat_d, cat_a]) dX8_tasteNow_11 ?_
  refine r_iconst hC (0) rfl dX8_tasteNow_13 ?_
  refine r_istore hC [(6, .int 0), (5, .int v2), (4, va_rf r1), (3, .int 0), (0, va_rf (some a0)), (1, .int p0), (2, .int p1)] (i := 6) (by decide) rfl dX8_tasteNow_14 ?_
  refine Wo.sub [4, 5, 6, 3, 2, 1, 0] rfl ?_
  exact u_X8_tasteNow_16 hC 40 a0 p0 p1 0 r1 v2 0 σ

set_option maxRecDepth 100000 in
set_option maxHeartbeats 4000000 in
theorem ct_X8_tasteNow {l : Launch} (hl : l.stackTraces = false) (G : Glb) (a0 : Nat) (p0 : Int32) (p1 : Int32) (σ : Mem) : Ct rvI l yX8_tasteNow (Cond.code yX8_tasteNow cX8_tasteNow 8 (some .int) :: uW) { frames := 3, cells := 0, slots := 0, locals := 64 } 0 0 G [.ref a0, .int p0, .int p1] σ (f_X8_tasteNow a0 p0 p1 σ) := by
  refine Ct.of hl (by decide +kernel) (Nat.le_of_ble_eq_true rfl) (fun C hC hin => ?_)
  have e : lv_args 0 [.ref a0, .int p0, .int p1] = [(0, .ref a0), (1, .int p0), (2, .int p1)] := rfl
  rw [e]
  exact t_X8_tasteNow_0 hC a0 p0 p1 σ

noncomputable def b_X8_taste_19 (y19_0 : Int32) (σ : Mem) : Option ((Int32) × Mem) :=
some (y19_0, σ)

noncomputable def b_X8_taste_0 (a0 : Nat) (p0 : Int32) (p1 : Int32) (σ : Mem) : Option ((Int32) × Mem) :=
ob 10 σ (some a0) fun h3 => cl1 (f_X8_isNote h3 p0 p1 σ) fun v1 σ2 =>
if v1 = 0 then
b_X8_taste_19 0 σ2
else
ob 10 σ2 (some a0) fun h6 => cl1 (f_X8_tasteNow h6 p0 p1 σ2) fun v4 σ5 =>
b_X8_taste_19 v4 σ5

noncomputable def f_X8_taste (a0 : Nat) (p0 : Int32) (p1 : Int32) (σ : Mem) : Option ((Int32) × Mem) := b_X8_taste_0 a0 p0 p1 σ
set_option maxRecDepth 100000 in
set_option maxHeartbeats 4000000 in
theorem t_X8_taste_19 {C : Cxt} {G : Glb} (hC : CX C G RX8 cX8_taste 3 (some .int) 5 0 0 108) (y19_0 : Int32) (σ : Mem) : Wo C G 3 (QP C G rvI 0 0) (b_X8_taste_19  y19_0 σ) σ 0 0 19 [] [.int y19_0] := by
  unfold b_X8_taste_19
  exact e_I hC ⟨Nat.zero_le _, Nat.zero_le _⟩ dX8_taste_19

set_option maxRecDepth 100000 in
set_option maxHeartbeats 4000000 in
theorem t_X8_taste_0 {C : Cxt} {G : Glb} (hC : CX C G RX8 cX8_taste 3 (some .int) 5 0 0 108) (a0 : Nat) (p0 : Int32) (p1 : Int32) (σ : Mem) : Wo C G 3 (QP C G rvI 0 0) (b_X8_taste_0  a0 p0 p1 σ) σ 0 0 0 [(0, va_rf (some a0)), (1, .int p0), (2, .int p1)] [] := by
  unfold b_X8_taste_0
  refine r_aloadn hC 0 (r := (some a0)) rfl rfl dX8_taste_0 ?_
  refine r_iloadn hC 1 rfl rfl dX8_taste_1 ?_
  refine r_iloadn hC 2 rfl rfl dX8_taste_2 ?_
  refine call_V hC (av := [.int p0, .int p1]) (st := []) (r := (some a0)) (ci := 10) rfl rfl (fun h9 => ct_X8_isNote hC.hl G h9 p0 p1 σ) q_1353 q_1355 q_27 q_44 q_1356 yd_X8_isNote rfl ⟨Nat.le_of_ble_eq_true rfl, Nat.le_of_ble_eq_true rfl⟩ ⟨Nat.zero_le _, Nat.zero_le _⟩ rfl (Nat.le_of_ble_eq_true rfl) dX8_taste_3 (fun v1 σ2 => ?_)
  show Wo _ _ _ _ _ _ _ _ _ _ [.int v1]
  refine r_if_eq hC 18 dX8_taste_6 (by decide) ?_ ?_
  · refine r_iconst hC (0) rfl dX8_taste_18 ?_
    refine Wo.sub [] rfl ?_
    exact t_X8_taste_19 hC 0 σ2
  · refine r_aloadn hC 0 (r := (some a0)) rfl rfl dX8_taste_9 ?_
    refine r_iloadn hC 1 rfl rfl dX8_taste_10 ?_
    refine r_iloadn hC 2 rfl rfl dX8_taste_11 ?_
    refine call_V hC (av := [.int p0, .int p1]) (st := []) (r := (some a0)) (ci := 10) rfl rfl (fun h9 => ct_X8_tasteNow hC.hl G h9 p0 p1 σ2) q_1361 q_1363 q_28 q_44 q_1364 yd_X8_tasteNow rfl ⟨Nat.le_of_ble_eq_true rfl, Nat.le_of_ble_eq_true rfl⟩ ⟨Nat.zero_le _, Nat.zero_le _⟩ rfl (Nat.le_of_ble_eq_true rfl) dX8_taste_12 (fun v4 σ5 => ?_)
    show Wo _ _ _ _ _ _ _ _ _ _ [.int v4]
    refine r_goto hC 19 dX8_taste_15 (by decide) ?_
    refine Wo.sub [] rfl ?_
    exact t_X8_taste_19 hC v4 σ5

set_option maxRecDepth 100000 in
set_option maxHeartbeats 4000000 in
theorem ct_X8_taste {l : Launch} (hl : l.stackTraces = false) (G : Glb) (a0 : Nat) (p0 : Int32) (p1 : Int32) (σ : Mem) : Ct rvI l yX8_taste (Cond.code yX8_taste cX8_taste 3 (some .int) :: uW) { frames := 5, cells := 0, slots := 0, locals := 108 } 0 0 G [.ref a0, .int p0, .int p1] σ (f_X8_taste a0 p0 p1 σ) := by
  refine Ct.of hl (by decide +kernel) (Nat.le_of_ble_eq_true rfl) (fun C hC hin => ?_)
  have e : lv_args 0 [.ref a0, .int p0, .int p1] = [(0, .ref a0), (1, .int p0), (2, .int p1)] := rfl
  rw [e]
  exact t_X8_taste_0 hC a0 p0 p1 σ

noncomputable def b_X8_ofTasterNow_25 (y25_0 : Int32) (σ : Mem) : Option ((Int32) × Mem) :=
some (y25_0, σ)

noncomputable def b_X8_ofTasterNow_0 (a0 : Nat) (p0 : Int32) (p1 : Int32) (σ : Mem) : Option ((Int32) × Mem) :=
if p1 = 0 then
gR 10 8 σ (some a0) fun r4 =>
aR 5 σ r4 p0 fun r5 =>
ob 9 σ r5 fun h8 => cl1 (f_X7_guess h8 σ) fun v6 σ7 =>
b_X8_ofTasterNow_25 v6 σ7
else
gR 10 8 σ (some a0) fun r1 =>
aR 5 σ r1 p0 fun r2 =>
gI 9 2 σ r2 fun v3 =>
b_X8_ofTasterNow_25 v3 σ

noncomputable def f_X8_ofTasterNow (a0 : Nat) (p0 : Int32) (p1 : Int32) (σ : Mem) : Option ((Int32) × Mem) := b_X8_ofTasterNow_0 a0 p0 p1 σ
set_option maxRecDepth 100000 in
set_option maxHeartbeats 4000000 in
theorem t_X8_ofTasterNow_25 {C : Cxt} {G : Glb} (hC : CX C G RX8 cX8_ofTasterNow 3 (some .int) 2 0 0 36) (y25_0 : Int32) (σ : Mem) : Wo C G 3 (QP C G rvI 0 0) (b_X8_ofTasterNow_25  y25_0 σ) σ 0 0 25 [] [.int y25_0] := by
  unfold b_X8_ofTasterNow_25
  exact e_I hC ⟨Nat.zero_le _, Nat.zero_le _⟩ dX8_ofTasterNow_25

set_option maxRecDepth 100000 in
set_option maxHeartbeats 4000000 in
theorem t_X8_ofTasterNow_0 {C : Cxt} {G : Glb} (hC : CX C G RX8 cX8_ofTasterNow 3 (some .int) 2 0 0 36) (a0 : Nat) (p0 : Int32) (p1 : Int32) (σ : Mem) : Wo C G 3 (QP C G rvI 0 0) (b_X8_ofTasterNow_0  a0 p0 p1 σ) σ 0 0 0 [(0, va_rf (some a0)), (1, .int p0), (2, .int p1)] [] := by
  unfold b_X8_ofTasterNow_0
  refine r_iloadn hC 2 rfl rfl dX8_ofTasterNow_0 ?_
  refine r_if_ne hC 16 dX8_ofTasterNow_1 (by decide) ?_ ?_
  · refine r_aloadn hC 0 (r := (some a0)) rfl rfl dX8_ofTasterNow_16 ?_
    refine r_gR hC (k := 8) (r := (some a0)) cls_10 (by decide) rfl q_848 (Or.inl rfl) dX8_ofTasterNow_17 (fun r1 => ?_)
    refine r_iloadn hC 1 rfl rfl dX8_ofTasterNow_20 ?_
    refine r_aR hC (t := 5) (r := r1) rfl rfl dX8_ofTasterNow_21 (fun r2 => ?_)
    refine r_gI hC (k := 2) (r := r2) cls_9 (by decide) rfl q_832 (Or.inl rfl) dX8_ofTasterNow_22 (fun v3 => ?_)
    refine Wo.sub [] rfl ?_
    exact t_X8_ofTasterNow_25 hC v3 σ
  · refine r_aloadn hC 0 (r := (some a0)) rfl rfl dX8_ofTasterNow_4 ?_
    refine r_gR hC (k := 8) (r := (some a0)) cls_10 (by decide) rfl q_848 (Or.inl rfl) dX8_ofTasterNow_5 (fun r4 => ?_)
    refine r_iloadn hC 1 rfl rfl dX8_ofTasterNow_8 ?_
    refine r_aR hC (t := 5) (r := r4) rfl rfl dX8_ofTasterNow_9 (fun r5 => ?_)
    refine call_V hC (av := []) (st := []) (r := r5) (ci := 9) rfl rfl (fun h9 => ct_X7_guess hC.hl G h9 σ) q_1291 q_1292 q_1293 q_48 q_1294 yd_X7_guess rfl ⟨Nat.le_of_ble_eq_true rfl, Nat.le_of_ble_eq_true rfl⟩ ⟨Nat.zero_le _, Nat.zero_le _⟩ rfl (Nat.le_of_ble_eq_true rfl) dX8_ofTasterNow_10 (fun v6 σ7 => ?_)
    show Wo _ _ _ _ _ _ _ _ _ _ [.int v6]
    refine r_goto hC 25 dX8_ofTasterNow_13 (by decide) ?_
    refine Wo.sub [] rfl ?_
    exact t_X8_ofTasterNow_25 hC v6 σ7

set_option maxRecDepth 100000 in
set_option maxHeartbeats 4000000 in
theorem ct_X8_ofTasterNow {l : Launch} (hl : l.stackTraces = false) (G : Glb) (a0 : Nat) (p0 : Int32) (p1 : Int32) (σ : Mem) : Ct rvI l yX8_ofTasterNow (Cond.code yX8_ofTasterNow cX8_ofTasterNow 3 (some .int) :: uW) { frames := 2, cells := 0, slots := 0, locals := 36 } 0 0 G [.ref a0, .int p0, .int p1] σ (f_X8_ofTasterNow a0 p0 p1 σ) := by
  refine Ct.of hl (by decide +kernel) (Nat.le_of_ble_eq_true rfl) (fun C hC hin => ?_)
  have e : lv_args 0 [.ref a0, .int p0, .int p1] = [(0, .ref a0), (1, .int p0), (2, .int p1)] := rfl
  rw [e]
  exact t_X8_ofTasterNow_0 hC a0 p0 p1 σ

noncomputable def b_X8_ofTaster_44 (y44_0 : Int32) (σ : Mem) : Option ((Int32) × Mem) :=
some (y44_0, σ)

noncomputable def b_X8_ofTaster_34 (σ : Mem) : Option ((Int32) × Mem) :=
b_X8_ofTaster_44 0 σ

noncomputable def b_X8_ofTaster_27 (a0 : Nat) (x27_1 : Int32) (x27_2 : Int32) (y27_0 : Int32) (y27_1 : (Option Nat)) (σ : Mem) : Option ((Int32) × Mem) :=
ob 10 σ y27_1 fun h10 => cl1 (f_X8_refuse h10 y27_0 2 σ) fun v8 σ9 =>
if v8 = 0 then
ob 10 σ9 (some a0) fun h13 => cl1 (f_X8_ofTasterNow h13 x27_1 x27_2 σ9) fun v11 σ12 =>
b_X8_ofTaster_44 v11 σ12
else
b_X8_ofTaster_34 σ9

noncomputable def b_X8_ofTaster_0 (a0 : Nat) (p0 : Int32) (p1 : Int32) (σ : Mem) : Option ((Int32) × Mem) :=
cl1 (f_X8_isNoTaster p0 σ) fun v1 σ2 =>
ob 10 σ2 (some a0) fun h5 => cl1 (f_X8_start h5 v1 1 σ2) fun v3 σ4 =>
if v3 = 0 then
cl1 (f_X8_isIn p1 0 1 σ4) fun v6 σ7 =>
if v6 = 0 then
b_X8_ofTaster_27 a0 p0 p1 1 (some a0) σ7
else
b_X8_ofTaster_27 a0 p0 p1 0 (some a0) σ7
else
b_X8_ofTaster_34 σ4

noncomputable def f_X8_ofTaster (a0 : Nat) (p0 : Int32) (p1 : Int32) (σ : Mem) : Option ((Int32) × Mem) := b_X8_ofTaster_0 a0 p0 p1 σ
set_option maxRecDepth 100000 in
set_option maxHeartbeats 4000000 in
theorem t_X8_ofTaster_44 {C : Cxt} {G : Glb} (hC : CX C G RX8 cX8_ofTaster 3 (some .int) 3 0 0 58) (y44_0 : Int32) (σ : Mem) : Wo C G 3 (QP C G rvI 0 0) (b_X8_ofTaster_44  y44_0 σ) σ 0 0 44 [] [.int y44_0] := by
  unfold b_X8_ofTaster_44
  exact e_I hC ⟨Nat.zero_le _, Nat.zero_le _⟩ dX8_ofTaster_44

set_option maxRecDepth 100000 in
set_option maxHeartbeats 4000000 in
theorem t_X8_ofTaster_34 {C : Cxt} {G : Glb} (hC : CX C G RX8 cX8_ofTaster 3 (some .int) 3 0 0 58) (σ : Mem) : Wo C G 3 (QP C G rvI 0 0) (b_X8_ofTaster_34   σ) σ 0 0 34 [] [] := by
  unfold b_X8_ofTaster_34
  refine r_iconst hC (0) rfl dX8_ofTaster_34 ?_
  refine r_goto hC 44 dX8_ofTaster_35 (by decide) ?_
  exact t_X8_ofTaster_44 hC 0 σ

set_option maxRecDepth 100000 in
set_option maxHeartbeats 4000000 in
theorem t_X8_ofTaster_27 {C : Cxt} {G : Glb} (hC : CX C G RX8 cX8_ofTaster 3 (some .int) 3 0 0 58) (a0 : Nat) (x27_1 : Int32) (x27_2 : Int32) (y27_0 : Int32) (y27_1 : (Option Nat)) (σ : Mem) : Wo C G 3 (QP C G rvI 0 0) (b_X8_ofTaster_27  a0 x27_1 x27_2 y27_0 y27_1 σ) σ 0 0 27 [(0, va_rf (some a0)), (1, .int x27_1), (2, .int x27_2)] [.int y27_0, va_rf y27_1] := by
  unfold b_X8_ofTaster_27
  refine r_iconst hC (2) rfl dX8_ofTaster_27 ?_
  refine call_V hC (av := [.int y27_0, .int 2]) (st := []) (r := y27_1) (ci := 10) rfl rfl (fun h9 => ct_X8_refuse hC.hl G h9 y27_0 2 σ) q_886 q_888 q_13 q_44 q_889 yd_X8_refuse rfl ⟨Nat.le_of_ble_eq_true rfl, Nat.le_of_ble_eq_true rfl⟩ ⟨Nat.zero_le _, Nat.zero_le _⟩ rfl (Nat.le_of_ble_eq_true rfl) dX8_ofTaster_28 (fun v8 σ9 => ?_)
  show Wo _ _ _ _ _ _ _ _ _ _ [.int v8]
  refine r_if_eq hC 38 dX8_ofTaster_31 (by decide) ?_ ?_
  · refine r_aloadn hC 0 (r := (some a0)) rfl rfl dX8_ofTaster_38 ?_
    refine r_iloadn hC 1 rfl rfl dX8_ofTaster_39 ?_
    refine r_iloadn hC 2 rfl rfl dX8_ofTaster_40 ?_
    refine call_V hC (av := [.int x27_1, .int x27_2]) (st := []) (r := (some a0)) (ci := 10) rfl rfl (fun h9 => ct_X8_ofTasterNow hC.hl G h9 x27_1 x27_2 σ9) q_1370 q_1372 q_29 q_44 q_1373 yd_X8_ofTasterNow rfl ⟨Nat.le_of_ble_eq_true rfl, Nat.le_of_ble_eq_true rfl⟩ ⟨Nat.zero_le _, Nat.zero_le _⟩ rfl (Nat.le_of_ble_eq_true rfl) dX8_ofTaster_41 (fun v11 σ12 => ?_)
    show Wo _ _ _ _ _ _ _ _ _ _ [.int v11]
    refine Wo.sub [] rfl ?_
    exact t_X8_ofTaster_44 hC v11 σ12
  · refine Wo.sub [] rfl ?_
    exact t_X8_ofTaster_34 hC  σ9

set_option maxRecDepth 100000 in
set_option maxHeartbeats 4000000 in
theorem t_X8_ofTaster_0 {C : Cxt} {G : Glb} (hC : CX C G RX8 cX8_ofTaster 3 (some .int) 3 0 0 58) (a0 : Nat) (p0 : Int32) (p1 : Int32) (σ : Mem) : Wo C G 3 (QP C G rvI 0 0) (b_X8_ofTaster_0  a0 p0 p1 σ) σ 0 0 0 [(0, va_rf (some a0)), (1, .int p0), (2, .int p1)] [] := by
  unfold b_X8_ofTaster_0
  refine r_aloadn hC 0 (r := (some a0)) rfl rfl dX8_ofTaster_0 ?_
  refine r_iloadn hC 1 rfl rfl dX8_ofTaster_1 ?_
  refine call_S hC (av := [.int p0]) (st := [va_rf (some a0)]) (ct_X8_isNoTaster hC.hl G p0 σ) q_1279 q_1280 q_44 q_1281 yd_X8_isNoTaster rfl ⟨Nat.le_of_ble_eq_true rfl, Nat.le_of_ble_eq_true rfl⟩ ⟨Nat.zero_le _, Nat.zero_le _⟩ rfl (by simp [cat_rf, cat_i, cat_j, cat_d, cat_a]) dX8_ofTaster_2 (fun v1 σ2 => ?_)
  show Wo _ _ _ _ _ _ _ _ _ _ [.int v1, va_rf (some a0)]
  refine r_iconst hC (1) rfl dX8_ofTaster_5 ?_
  refine call_V hC (av := [.int v1, .int 1]) (st := []) (r := (some a0)) (ci := 10) rfl rfl (fun h9 => ct_X8_start hC.hl G h9 v1 1 σ2) q_882 q_884 q_12 q_44 q_885 yd_X8_start rfl ⟨Nat.le_of_ble_eq_true rfl, Nat.le_of_ble_eq_true rfl⟩ ⟨Nat.zero_le _, Nat.zero_le _⟩ rfl (Nat.le_of_ble_eq_true rfl) dX8_ofTaster_6 (fun v3 σ4 => ?_)
  show Wo _ _ _ _ _ _ _ _ _ _ [.int v3]
  refine r_if_ne hC 34 dX8_ofTaster_9 (by decide) ?_ ?_
  · refine Wo.sub [] rfl ?_
    exact t_X8_ofTaster_34 hC  σ4
  · refine r_aloadn hC 0 (r := (some a0)) rfl rfl dX8_ofTaster_12 ?_
    refine r_iloadn hC 2 rfl rfl dX8_ofTaster_13 ?_
    refine r_iconst hC (0) rfl dX8_ofTaster_14 ?_
    refine r_iconst hC (1) rfl dX8_ofTaster_15 ?_
    refine call_S hC (av := [.int p1, .int 0, .int 1]) (st := [va_rf (some a0)]) (ct_X8_isIn hC.hl G p1 0 1 σ4) q_879 q_880 q_44 q_881 yd_X8_isIn rfl ⟨Nat.le_of_ble_eq_true rfl, Nat.le_of_ble_eq_true rfl⟩ ⟨Nat.zero_le _, Nat.zero_le _⟩ rfl (by simp [cat_rf, cat_i, cat_j, cat_d, cat_a]) dX8_ofTaster_16 (fun v6 σ7 => ?_)
    show Wo _ _ _ _ _ _ _ _ _ _ [.int v6, va_rf (some a0)]
    refine r_if_ne hC 26 dX8_ofTaster_19 (by decide) ?_ ?_
    · refine r_iconst hC (0) rfl dX8_ofTaster_26 ?_
      exact t_X8_ofTaster_27 hC a0 p0 p1 0 (some a0) σ7
    · refine r_iconst hC (1) rfl dX8_ofTaster_22 ?_
      refine r_goto hC 27 dX8_ofTaster_23 (by decide) ?_
      exact t_X8_ofTaster_27 hC a0 p0 p1 1 (some a0) σ7

set_option maxRecDepth 100000 in
set_option maxHeartbeats 4000000 in
theorem ct_X8_ofTaster {l : Launch} (hl : l.stackTraces = false) (G : Glb) (a0 : Nat) (p0 : Int32) (p1 : Int32) (σ : Mem) : Ct rvI l yX8_ofTaster (Cond.code yX8_ofTaster cX8_ofTaster 3 (some .int) :: uW) { frames := 3, cells := 0, slots := 0, locals := 58 } 0 0 G [.ref a0, .int p0, .int p1] σ (f_X8_ofTaster a0 p0 p1 σ) := by
  refine Ct.of hl (by decide +kernel) (Nat.le_of_ble_eq_true rfl) (fun C hC hin => ?_)
  have e : lv_args 0 [.ref a0, .int p0, .int p1] = [(0, .ref a0), (1, .int p0), (2, .int p1)] := rfl
  rw [e]
  exact t_X8_ofTaster_0 hC a0 p0 p1 σ

noncomputable def b_X8_bidOfNow_18 (e0 mi : Nat) (k18 : Int32 → (Option Nat) → Mem → Option ((Int32) × Mem)) (x18_1 : Int32) (x18_3 : (Option Nat)) (σ : Mem) : Option ((Int32) × Mem) :=
ob 0 σ x18_3 fun h11 => cl1 (f_Jx35411_hasNext_aae02 h11 σ) fun v9 σ10 =>
if v9 = 0 then
some ((-1), σ10)
else
ob 0 σ10 x18_3 fun h14 => cl1 (f_Jx35411_next_0502b e0 mi h14 σ10) fun r12 σ13 =>
ck 100 σ13 r12 <|
aI σ13 r12 0 fun v15 =>
if v15 = x18_1 then
aI σ13 r12 1 fun v16 =>
some (v16, σ13)
else
k18 x18_1 x18_3 σ13

noncomputable def l_X8_bidOfNow_18 (e0 mi : Nat) (n : Nat) : Int32 → (Option Nat) → Mem → Option ((Int32) × Mem) := itr (fun _ _ _ => none) (fun k => b_X8_bidOfNow_18 e0 mi  k) n

noncomputable def b_X8_bidOfNow_0 (e0 mi : Nat) (a0 : Nat) (p0 : Int32) (p1 : Int32) (σ : Mem) : Option ((Int32) × Mem) :=
gR 10 7 σ (some a0) fun r1 =>
ob 1 σ r1 fun h4 => cl1 (f_Jx4a65c_get_915e3 h4 p1 σ) fun r2 σ3 =>
ck 8 σ3 r2 <|
gR 7 14 σ3 r2 fun r5 =>
ob 1 σ3 r5 fun h8 => cl1 (f_Jx4a65c_iterator_32c93 h8 σ3) fun r6 σ7 =>
l_X8_bidOfNow_18 e0 mi 40 p0 r6 σ7

noncomputable def f_X8_bidOfNow (e0 mi : Nat) (a0 : Nat) (p0 : Int32) (p1 : Int32) (σ : Mem) : Option ((Int32) × Mem) := b_X8_bidOfNow_0 e0 mi a0 p0 p1 σ
set_option maxRecDepth 100000 in
set_option maxHeartbeats 4000000 in
theorem t_X8_bidOfNow_18 {C : Cxt} {G : Glb} (hC : CX C G RX8 cX8_bidOfNow 5 (some .int) 3 1 4 64) (P18 : Nat → Nat → Prop) (hm18 : ∀ a b a2 b2 : Nat, a ≤ a2 → b ≤ b2 → P18 a2 b2 → P18 a b) (k18 : Int32 → (Option Nat) → Mem → Option ((Int32) × Mem)) (hk18 : ∀ (x18_1 : Int32) (x18_3 : (Option Nat)) (σ : Mem) (kc ks : Nat), P18 kc ks → Wo C G 5 (QP C G rvI 1 4) (k18 x18_1 x18_3 σ) σ kc ks 18 [(1, .int x18_1), (3, va_rf x18_3)] []) (x18_1 : Int32) (x18_3 : (Option Nat)) (σ : Mem) (kc ks : Nat) (hN : kc + 0 ≤ 1 ∧ ks + 0 ≤ 4) (hP18 : P18 (kc + 0) (ks + 0)) : Wo C G 5 (QP C G rvI 1 4) (b_X8_bidOfNow_18 G.2.2.2.1 G.2.2.2.2 k18 x18_1 x18_3 σ) σ kc ks 18 [(1, .int x18_1), (3, va_rf x18_3)] [] := by
  unfold b_X8_bidOfNow_18
  refine r_aloadn hC 1 (r := x18_3) rfl rfl dX8_bidOfNow_18 ?_
  refine call_F hC (av := []) (st := []) (r := x18_3) (ci := 0) rfl hC.hK.1.2.2.2.1.1 (fun h9 => ct_Jx35411_hasNext_aae02 hC.hl G h9 σ) q_1017 q_1023 q_1021 q_59 q_1025 ydx_hasNext rfl ⟨Nat.le_of_ble_eq_true rfl, Nat.le_of_ble_eq_true rfl⟩ ⟨by omega, by omega⟩ rfl (Nat.le_of_ble_eq_true rfl) dX8_bidOfNow_19 (fun v9 σ10 => ?_)
  show Wo _ _ _ _ _ _ _ _ _ _ [.int v9]
  refine r_if_eq hC 54 dX8_bidOfNow_24 (by decide) ?_ ?_
  · refine r_iconst hC (-1) rfl dX8_bidOfNow_54 ?_
    exact e_I hC ⟨by omega, by omega⟩ dX8_bidOfNow_55
  · refine r_aloadn hC 1 (r := x18_3) rfl rfl dX8_bidOfNow_27 ?_
    refine call_F hC (av := []) (st := []) (r := x18_3) (ci := 0) rfl hC.hK.1.2.2.2.1.2.1 (fun h9 => ct_Jx35411_next_0502b hC.hl G h9 σ10) q_1027 q_1032 q_1030 q_59 q_1034 ydx_next rfl ⟨Nat.le_of_ble_eq_true rfl, Nat.le_of_ble_eq_true rfl⟩ ⟨by omega, by omega⟩ rfl (Nat.le_of_ble_eq_true rfl) dX8_bidOfNow_28 (fun r12 σ13 => ?_)
    show Wo _ _ _ _ _ _ _ _ _ _ [va_rf r12]
    refine r_ckI hC (r := r12) q_1311 dX8_bidOfNow_33 ?_
    refine r_astore hC [(4, va_rf r12), (1, .int x18_1), (3, va_rf x18_3)] (r := r12) (i := 4) (by decide) (by simp [List.filter, cat_rf, cat_i, cat_j, cat_d, cat_a]) dX8_bidOfNow_36 ?_
    refine r_aload hC 0 (r := r12) rfl dX8_bidOfNow_38 ?_
    refine r_iconst hC (0) rfl dX8_bidOfNow_40 ?_
    refine r_aI hC (r := r12) dX8_bidOfNow_41 (fun v15 => ?_)
    refine r_iloadn hC 1 rfl rfl dX8_bidOfNow_42 ?_
    refine r_icmp_ne hC 51 dX8_bidOfNow_43 (by decide) ?_ ?_
    · refine r_goto hC 18 dX8_bidOfNow_51 (by decide) ?_
      refine Wo.sub [1, 2] rfl ?_
      exact hk18 x18_1 x18_3 σ13 _ _ (hm18 _ _ _ _ (by omega) (by omega) hP18)
    · refine r_aload hC 0 (r := r12) rfl dX8_bidOfNow_46 ?_
      refine r_iconst hC (1) rfl dX8_bidOfNow_48 ?_
      refine r_aI hC (r := r12) dX8_bidOfNow_49 (fun v16 => ?_)
      exact e_I hC ⟨by omega, by omega⟩ dX8_bidOfNow_50

set_option maxRecDepth 100000 in
set_option maxHeartbeats 4000000 in
theorem u_X8_bidOfNow_18 {C : Cxt} {G : Glb} (hC : CX C G RX8 cX8_bidOfNow 5 (some .int) 3 1 4 64) : ∀ (n : Nat) (x18_1 : Int32) (x18_3 : (Option Nat)) (σ : Mem) (kc ks : Nat), (∀ m, n = m + 1 → (kc + m * 0 + 0 ≤ 1 ∧ ks + m * 0 + 0 ≤ 4)) → Wo C G 5 (QP C G rvI 1 4) (l_X8_bidOfNow_18 G.2.2.2.1 G.2.2.2.2  n x18_1 x18_3 σ) σ kc ks 18 [(1, .int x18_1), (3, va_rf x18_3)] [] := by
  intro n
  induction n with
  | zero => intro x18_1 x18_3 σ kc ks h0; exact Wo.none
  | succ n ih =>
    intro x18_1 x18_3 σ kc ks h0
    exact t_X8_bidOfNow_18 hC (fun kc ks => (∀ m, n = m + 1 → (kc + m * 0 + 0 ≤ 1 ∧ ks + m * 0 + 0 ≤ 4))) (fun a b a2 b2 h1 h2 h m e => ⟨by have := (h m e).1; omega, by have := (h m e).2; omega⟩) (l_X8_bidOfNow_18 G.2.2.2.1 G.2.2.2.2  n) ih x18_1 x18_3 σ kc ks ⟨by have := (h0 n rfl).1; omega, by have := (h0 n rfl).2; omega⟩ (fun m e => by
      subst e
      exact ⟨by have := (h0 _ rfl).1; omega, by have := (h0 _ rfl).2; omega⟩)

set_option maxRecDepth 100000 in
set_option maxHeartbeats 4000000 in
theorem t_X8_bidOfNow_0 {C : Cxt} {G : Glb} (hC : CX C G RX8 cX8_bidOfNow 5 (some .int) 3 1 4 64) (a0 : Nat) (p0 : Int32) (p1 : Int32) (σ : Mem) (kc ks : Nat) (hN : kc + 1 ≤ 1 ∧ ks + 4 ≤ 4) : Wo C G 5 (QP C G rvI 1 4) (b_X8_bidOfNow_0 G.2.2.2.1 G.2.2.2.2  a0 p0 p1 σ) σ kc ks 0 [(0, va_rf (some a0)), (1, .int p0), (2, .int p1)] [] := by
  unfold b_X8_bidOfNow_0
  refine r_aloadn hC 0 (r := (some a0)) rfl rfl dX8_bidOfNow_0 ?_
  refine r_gR hC (k := 7) (r := (some a0)) cls_10 (by decide) rfl q_847 (Or.inl rfl) dX8_bidOfNow_1 (fun r1 => ?_)
  refine r_iloadn hC 2 rfl rfl dX8_bidOfNow_4 ?_
  refine call_V hC (av := [.int p1]) (st := []) (r := r1) (ci := 1) rfl rfl (fun h9 => ct_Jx4a65c_get_915e3 hC.hl G h9 p1 σ) q_1057 q_1058 q_1059 q_47 q_1060 yd_Jx4a65c_get_915e3 rfl ⟨Nat.le_of_ble_eq_true rfl, Nat.le_of_ble_eq_true rfl⟩ ⟨by omega, by omega⟩ rfl (Nat.le_of_ble_eq_true rfl) dX8_bidOfNow_5 (fun r2 σ3 => ?_)
  show Wo _ _ _ _ _ _ _ _ _ _ [va_rf r2]
  refine r_ckO hC (r := r2) cls_7 q_1087 dX8_bidOfNow_8 ?_
  refine r_gR hC (k := 14) (r := r2) cls_7 (by decide) rfl q_1124 (Or.inl rfl) dX8_bidOfNow_11 (fun r5 => ?_)
  refine call_V hC (av := []) (st := []) (r := r5) (ci := 1) rfl rfl (fun h9 => ct_Jx4a65c_iterator_32c93 hC.hl G h9 σ3) q_993 q_994 q_995 q_47 q_996 yd_Jx4a65c_iterator_32c93 rfl ⟨Nat.le_of_ble_eq_true rfl, Nat.le_of_ble_eq_true rfl⟩ ⟨by omega, by omega⟩ rfl (Nat.le_of_ble_eq_true rfl) dX8_bidOfNow_14 (fun r6 σ7 => ?_)
  show Wo _ _ _ _ _ _ _ _ _ _ [va_rf r6]
  refine r_astoren hC [(3, va_rf r6), (0, va_rf (some a0)), (1, .int p0), (2, .int p1)] (r := r6) (i := 3) rfl (by decide) rfl dX8_bidOfNow_17 ?_
  refine Wo.sub [2, 0] rfl ?_
  exact u_X8_bidOfNow_18 hC 40 p0 r6 σ7 _ _ (fun m e => by cases e; exact ⟨by omega, by omega⟩)

set_option maxRecDepth 100000 in
set_option maxHeartbeats 4000000 in
theorem ct_X8_bidOfNow {l : Launch} (hl : l.stackTraces = false) (G : Glb) (a0 : Nat) (p0 : Int32) (p1 : Int32) (σ : Mem) : Ct rvI l yX8_bidOfNow (Cond.code yX8_bidOfNow cX8_bidOfNow 5 (some .int) :: uW) { frames := 3, cells := 1, slots := 4, locals := 64 } 1 4 G [.ref a0, .int p0, .int p1] σ (f_X8_bidOfNow G.2.2.2.1 G.2.2.2.2 a0 p0 p1 σ) := by
  refine Ct.of hl (by decide +kernel) (Nat.le_of_ble_eq_true rfl) (fun C hC hin => ?_)
  have e : lv_args 0 [.ref a0, .int p0, .int p1] = [(0, .ref a0), (1, .int p0), (2, .int p1)] := rfl
  rw [e]
  exact t_X8_bidOfNow_0 hC a0 p0 p1 σ 0 0 ⟨Nat.le_of_ble_eq_true rfl, Nat.le_of_ble_eq_true rfl⟩

noncomputable def b_X8_bidOf_38 (e0 mi : Nat) (y38_0 : Int32) (σ : Mem) : Option ((Int32) × Mem) :=
some (y38_0, σ)

noncomputable def b_X8_bidOf_21 (e0 mi : Nat) (a0 : Nat) (x21_1 : Int32) (x21_2 : Int32) (y21_0 : Int32) (y21_1 : (Option Nat)) (σ : Mem) : Option ((Int32) × Mem) :=
ob 10 σ y21_1 fun h5 => cl1 (f_X8_start h5 y21_0 1 σ) fun v3 σ4 =>
if v3 = 0 then
ob 10 σ4 (some a0) fun h8 => cl1 (f_X8_bidOfNow e0 mi h8 x21_1 x21_2 σ4) fun v6 σ7 =>
b_X8_bidOf_38 e0 mi v6 σ7
else
b_X8_bidOf_38 e0 mi 0 σ4

noncomputable def b_X8_bidOf_16 (e0 mi : Nat) (a0 : Nat) (x16_1 : Int32) (x16_2 : Int32) (y16_0 : (Option Nat)) (σ : Mem) : Option ((Int32) × Mem) :=
b_X8_bidOf_21 e0 mi a0 x16_1 x16_2 1 y16_0 σ

noncomputable def b_X8_bidOf_0 (e0 mi : Nat) (a0 : Nat) (p0 : Int32) (p1 : Int32) (σ : Mem) : Option ((Int32) × Mem) :=
cl1 (f_X8_isNoBuyer p0 σ) fun v1 σ2 =>
if v1 = 0 then
ob 10 σ2 (some a0) fun h11 => cl1 (f_X8_isNoLot h11 p1 σ2) fun v9 σ10 =>
if v9 = 0 then
b_X8_bidOf_21 e0 mi a0 p0 p1 0 (some a0) σ10
else
b_X8_bidOf_16 e0 mi a0 p0 p1 (some a0) σ10
else
b_X8_bidOf_16 e0 mi a0 p0 p1 (some a0) σ2

noncomputable def f_X8_bidOf (e0 mi : Nat) (a0 : Nat) (p0 : Int32) (p1 : Int32) (σ : Mem) : Option ((Int32) × Mem) := b_X8_bidOf_0 e0 mi a0 p0 p1 σ
set_option maxRecDepth 100000 in
set_option maxHeartbeats 4000000 in
theorem t_X8_bidOf_38 {C : Cxt} {G : Glb} (hC : CX C G RX8 cX8_bidOf 3 (some .int) 4 1 4 88) (y38_0 : Int32) (σ : Mem) (kc ks : Nat) (hN : kc + 0 ≤ 1 ∧ ks + 0 ≤ 4) : Wo C G 3 (QP C G rvI 1 4) (b_X8_bidOf_38 G.2.2.2.1 G.2.2.2.2  y38_0 σ) σ kc ks 38 [] [.int y38_0] := by
  unfold b_X8_bidOf_38
  exact e_I hC ⟨by omega, by omega⟩ dX8_bidOf_38

set_option maxRecDepth 100000 in
set_option maxHeartbeats 4000000 in
theorem t_X8_bidOf_21 {C : Cxt} {G : Glb} (hC : CX C G RX8 cX8_bidOf 3 (some .int) 4 1 4 88) (a0 : Nat) (x21_1 : Int32) (x21_2 : Int32) (y21_0 : Int32) (y21_1 : (Option Nat)) (σ : Mem) (kc ks : Nat) (hN : kc + 1 ≤ 1 ∧ ks + 4 ≤ 4) : Wo C G 3 (QP C G rvI 1 4) (b_X8_bidOf_21 G.2.2.2.1 G.2.2.2.2  a0 x21_1 x21_2 y21_0 y21_1 σ) σ kc ks 21 [(0, va_rf (some a0)), (1, .int x21_1), (2, .int x21_2)] [.int y21_0, va_rf y21_1] := by
  unfold b_X8_bidOf_21
  refine r_iconst hC (1) rfl dX8_bidOf_21 ?_
  refine call_V hC (av := [.int y21_0, .int 1]) (st := []) (r := y21_1) (ci := 10) rfl rfl (fun h9 => ct_X8_start hC.hl G h9 y21_0 1 σ) q_882 q_884 q_12 q_44 q_885 yd_X8_start rfl ⟨Nat.le_of_ble_eq_true rfl, Nat.le_of_ble_eq_true rfl⟩ ⟨by omega, by omega⟩ rfl (Nat.le_of_ble_eq_true rfl) dX8_bidOf_22 (fun v3 σ4 => ?_)
  show Wo _ _ _ _ _ _ _ _ _ _ [.int v3]
  refine r_if_eq hC 32 dX8_bidOf_25 (by decide) ?_ ?_
  · refine r_aloadn hC 0 (r := (some a0)) rfl rfl dX8_bidOf_32 ?_
    refine r_iloadn hC 1 rfl rfl dX8_bidOf_33 ?_
    refine r_iloadn hC 2 rfl rfl dX8_bidOf_34 ?_
    refine call_V hC (av := [.int x21_1, .int x21_2]) (st := []) (r := (some a0)) (ci := 10) rfl rfl (fun h9 => ct_X8_bidOfNow hC.hl G h9 x21_1 x21_2 σ4) q_1378 q_1380 q_30 q_44 q_1381 yd_X8_bidOfNow rfl ⟨Nat.le_of_ble_eq_true rfl, Nat.le_of_ble_eq_true rfl⟩ ⟨by omega, by omega⟩ rfl (Nat.le_of_ble_eq_true rfl) dX8_bidOf_35 (fun v6 σ7 => ?_)
    show Wo _ _ _ _ _ _ _ _ _ _ [.int v6]
    refine Wo.sub [] rfl ?_
    exact t_X8_bidOf_38 hC v6 σ7 _ _ ⟨by omega, by omega⟩
  · refine r_iconst hC (0) rfl dX8_bidOf_28 ?_
    refine r_goto hC 38 dX8_bidOf_29 (by decide) ?_
    refine Wo.sub [] rfl ?_
    exact t_X8_bidOf_38 hC 0 σ4 _ _ ⟨by omega, by omega⟩

set_option maxRecDepth 100000 in
set_option maxHeartbeats 4000000 in
theorem t_X8_bidOf_16 {C : Cxt} {G : Glb} (hC : CX C G RX8 cX8_bidOf 3 (some .int) 4 1 4 88) (a0 : Nat) (x16_1 : Int32) (x16_2 : Int32) (y16_0 : (Option Nat)) (σ : Mem) (kc ks : Nat) (hN : kc + 1 ≤ 1 ∧ ks + 4 ≤ 4) : Wo C G 3 (QP C G rvI 1 4) (b_X8_bidOf_16 G.2.2.2.1 G.2.2.2.2  a0 x16_1 x16_2 y16_0 σ) σ kc ks 16 [(0, va_rf (some a0)), (1, .int x16_1), (2, .int x16_2)] [va_rf y16_0] := by
  unfold b_X8_bidOf_16
  refine r_iconst hC (1) rfl dX8_bidOf_16 ?_
  refine r_goto hC 21 dX8_bidOf_17 (by decide) ?_
  exact t_X8_bidOf_21 hC a0 x16_1 x16_2 1 y16_0 σ _ _ ⟨by omega, by omega⟩

set_option maxRecDepth 100000 in
set_option maxHeartbeats 4000000 in
theorem t_X8_bidOf_0 {C : Cxt} {G : Glb} (hC : CX C G RX8 cX8_bidOf 3 (some .int) 4 1 4 88) (a0 : Nat) (p0 : Int32) (p1 : Int32) (σ : Mem) (kc ks : Nat) (hN : kc + 1 ≤ 1 ∧ ks + 4 ≤ 4) : Wo C G 3 (QP C G rvI 1 4) (b_X8_bidOf_0 G.2.2.2.1 G.2.2.2.2  a0 p0 p1 σ) σ kc ks 0 [(0, va_rf (some a0)), (1, .int p0), (2, .int p1)] [] := by
  unfold b_X8_bidOf_0
  refine r_aloadn hC 0 (r := (some a0)) rfl rfl dX8_bidOf_0 ?_
  refine r_iloadn hC 1 rfl rfl dX8_bidOf_1 ?_
  refine call_S hC (av := [.int p0]) (st := [va_rf (some a0)]) (ct_X8_isNoBuyer hC.hl G p0 σ) q_1300 q_1301 q_44 q_1302 yd_X8_isNoBuyer rfl ⟨Nat.le_of_ble_eq_true rfl, Nat.le_of_ble_eq_true rfl⟩ ⟨by omega, by omega⟩ rfl (by simp [cat_rf, cat_i, cat_j, cat_d, cat_a]) dX8_bidOf_2 (fun v1 σ2 => ?_)
  show Wo _ _ _ _ _ _ _ _ _ _ [.int v1, va_rf (some a0)]
  refine r_if_ne hC 16 dX8_bidOf_5 (by decide) ?_ ?_
  · exact t_X8_bidOf_16 hC a0 p0 p1 (some a0) σ2 _ _ ⟨by omega, by omega⟩
  · refine r_aloadn hC 0 (r := (some a0)) rfl rfl dX8_bidOf_8 ?_
    refine r_iloadn hC 2 rfl rfl dX8_bidOf_9 ?_
    refine call_V hC (av := [.int p1]) (st := [va_rf (some a0)]) (r := (some a0)) (ci := 10) rfl rfl (fun h9 => ct_X8_isNoLot hC.hl G h9 p1 σ2) q_1165 q_1167 q_19 q_44 q_1168 yd_X8_isNoLot rfl ⟨Nat.le_of_ble_eq_true rfl, Nat.le_of_ble_eq_true rfl⟩ ⟨by omega, by omega⟩ rfl (by simp [cat_rf, cat_i, cat_j, cat_d, cat_a]) dX8_bidOf_10 (fun v9 σ10 => ?_)
    show Wo _ _ _ _ _ _ _ _ _ _ [.int v9, va_rf (some a0)]
    refine r_if_eq hC 20 dX8_bidOf_13 (by decide) ?_ ?_
    · refine r_iconst hC (0) rfl dX8_bidOf_20 ?_
      exact t_X8_bidOf_21 hC a0 p0 p1 0 (some a0) σ10 _ _ ⟨by omega, by omega⟩
    · exact t_X8_bidOf_16 hC a0 p0 p1 (some a0) σ10 _ _ ⟨by omega, by omega⟩

set_option maxRecDepth 100000 in
set_option maxHeartbeats 4000000 in
theorem ct_X8_bidOf {l : Launch} (hl : l.stackTraces = false) (G : Glb) (a0 : Nat) (p0 : Int32) (p1 : Int32) (σ : Mem) : Ct rvI l yX8_bidOf (Cond.code yX8_bidOf cX8_bidOf 3 (some .int) :: uW) { frames := 4, cells := 1, slots := 4, locals := 88 } 1 4 G [.ref a0, .int p0, .int p1] σ (f_X8_bidOf G.2.2.2.1 G.2.2.2.2 a0 p0 p1 σ) := by
  refine Ct.of hl (by decide +kernel) (Nat.le_of_ble_eq_true rfl) (fun C hC hin => ?_)
  have e : lv_args 0 [.ref a0, .int p0, .int p1] = [(0, .ref a0), (1, .int p0), (2, .int p1)] := rfl
  rw [e]
  exact t_X8_bidOf_0 hC a0 p0 p1 σ 0 0 ⟨Nat.le_of_ble_eq_true rfl, Nat.le_of_ble_eq_true rfl⟩

noncomputable def b_X8_count_45 (e0 mi : Nat) (k10 : Int32 → Int32 → (Option Nat) → Mem → Option ((Int32) × Mem)) (x45_1 : Int32) (x45_3 : (Option Nat)) (y45_0 : Int32) (y45_1 : Int32) (σ : Mem) : Option ((Int32) × Mem) :=
nm (y45_1 + y45_0) fun v12 =>
k10 x45_1 v12 x45_3 σ

noncomputable def b_X8_count_10 (e0 mi : Nat) (k10 : Int32 → Int32 → (Option Nat) → Mem → Option ((Int32) × Mem)) (x10_1 : Int32) (x10_2 : Int32) (x10_3 : (Option Nat)) (σ : Mem) : Option ((Int32) × Mem) :=
ob 0 σ x10_3 fun h7 => cl1 (f_Jx35411_hasNext_aae02 h7 σ) fun v5 σ6 =>
if v5 = 0 then
some (x10_2, σ6)
else
ob 0 σ6 x10_3 fun h10 => cl1 (f_Jx35411_next_0502b e0 mi h10 σ6) fun r8 σ9 =>
ck 8 σ9 r8 <|
gI 7 0 σ9 r8 fun v11 =>
if v11 = x10_1 then
b_X8_count_45 e0 mi k10 x10_1 x10_3 1 x10_2 σ9
else
b_X8_count_45 e0 mi k10 x10_1 x10_3 0 x10_2 σ9

noncomputable def l_X8_count_10 (e0 mi : Nat) (n : Nat) : Int32 → Int32 → (Option Nat) → Mem → Option ((Int32) × Mem) := itr (fun _ _ _ _ => none) (fun k => b_X8_count_10 e0 mi  k) n

noncomputable def b_X8_count_0 (e0 mi : Nat) (a0 : Nat) (p0 : Int32) (σ : Mem) : Option ((Int32) × Mem) :=
gR 10 7 σ (some a0) fun r1 =>
ob 1 σ r1 fun h4 => cl1 (f_Jx4a65c_iterator_32c93 h4 σ) fun r2 σ3 =>
l_X8_count_10 e0 mi 40 p0 0 r2 σ3

noncomputable def f_X8_count (e0 mi : Nat) (a0 : Nat) (p0 : Int32) (σ : Mem) : Option ((Int32) × Mem) := b_X8_count_0 e0 mi a0 p0 σ
set_option maxRecDepth 100000 in
set_option maxHeartbeats 4000000 in
theorem t_X8_count_45 {C : Cxt} {G : Glb} (hC : CX C G RX8 cX8_count 5 (some .int) 3 1 4 53) (P10 : Nat → Nat → Prop) (hm10 : ∀ a b a2 b2 : Nat, a ≤ a2 → b ≤ b2 → P10 a2 b2 → P10 a b) (k10 : Int32 → Int32 → (Option Nat) → Mem → Option ((Int32) × Mem)) (hk10 : ∀ (x10_1 : Int32) (x10_2 : Int32) (x10_3 : (Option Nat)) (σ : Mem) (kc ks : Nat), P10 kc ks → Wo C G 5 (QP C G rvI 1 4) (k10 x10_1 x10_2 x10_3 σ) σ kc ks 10 [(1, .int x10_1), (2, .int x10_2), (3, va_rf x10_3)] []) (x45_1 : Int32) (x45_3 : (Option Nat)) (y45_0 : Int32) (y45_1 : Int32) (σ : Mem) (kc ks : Nat) (hN : kc + 0 ≤ 1 ∧ ks + 0 ≤ 4) (hP10 : P10 (kc + 0) (ks + 0)) : Wo C G 5 (QP C G rvI 1 4) (b_X8_count_45 G.2.2.2.1 G.2.2.2.2 k10 x45_1 x45_3 y45_0 y45_1 σ) σ kc ks 45 [(1, .int x45_1), (3, va_rf x45_3)] [.int y45_0, .int y45_1] := by
  unfold b_X8_count_45
  refine r_iadd hC dX8_count_45 (fun v12 => ?_)
  refine r_istoren hC [(2, .int v12), (1, .int x45_1), (3, va_rf x45_3)] (i := 2) rfl (by decide) rfl dX8_count_46 ?_
  refine r_goto hC 10 dX8_count_47 (by decide) ?_
  refine Wo.sub [1, 0, 2] rfl ?_
  exact hk10 x45_1 v12 x45_3 σ _ _ (hm10 _ _ _ _ (by omega) (by omega) hP10)

set_option maxRecDepth 100000 in
set_option maxHeartbeats 4000000 in
theorem t_X8_count_10 {C : Cxt} {G : Glb} (hC : CX C G RX8 cX8_count 5 (some .int) 3 1 4 53) (P10 : Nat → Nat → Prop) (hm10 : ∀ a b a2 b2 : Nat, a ≤ a2 → b ≤ b2 → P10 a2 b2 → P10 a b) (k10 : Int32 → Int32 → (Option Nat) → Mem → Option ((Int32) × Mem)) (hk10 : ∀ (x10_1 : Int32) (x10_2 : Int32) (x10_3 : (Option Nat)) (σ : Mem) (kc ks : Nat), P10 kc ks → Wo C G 5 (QP C G rvI 1 4) (k10 x10_1 x10_2 x10_3 σ) σ kc ks 10 [(1, .int x10_1), (2, .int x10_2), (3, va_rf x10_3)] []) (x10_1 : Int32) (x10_2 : Int32) (x10_3 : (Option Nat)) (σ : Mem) (kc ks : Nat) (hN : kc + 0 ≤ 1 ∧ ks + 0 ≤ 4) (hP10 : P10 (kc + 0) (ks + 0)) : Wo C G 5 (QP C G rvI 1 4) (b_X8_count_10 G.2.2.2.1 G.2.2.2.2 k10 x10_1 x10_2 x10_3 σ) σ kc ks 10 [(1, .int x10_1), (2, .int x10_2), (3, va_rf x10_3)] [] := by
  unfold b_X8_count_10
  refine r_aloadn hC 2 (r := x10_3) rfl rfl dX8_count_10 ?_
  refine call_F hC (av := []) (st := []) (r := x10_3) (ci := 0) rfl hC.hK.1.2.2.2.1.1 (fun h9 => ct_Jx35411_hasNext_aae02 hC.hl G h9 σ) q_1017 q_1023 q_1021 q_59 q_1025 ydx_hasNext rfl ⟨Nat.le_of_ble_eq_true rfl, Nat.le_of_ble_eq_true rfl⟩ ⟨by omega, by omega⟩ rfl (Nat.le_of_ble_eq_true rfl) dX8_count_11 (fun v5 σ6 => ?_)
  show Wo _ _ _ _ _ _ _ _ _ _ [.int v5]
  refine r_if_eq hC 50 dX8_count_16 (by decide) ?_ ?_
  · refine r_iloadn hC 1 rfl rfl dX8_count_50 ?_
    exact e_I hC ⟨by omega, by omega⟩ dX8_count_51
  · refine r_aloadn hC 2 (r := x10_3) rfl rfl dX8_count_19 ?_
    refine call_F hC (av := []) (st := []) (r := x10_3) (ci := 0) rfl hC.hK.1.2.2.2.1.2.1 (fun h9 => ct_Jx35411_next_0502b hC.hl G h9 σ6) q_1027 q_1032 q_1030 q_59 q_1034 ydx_next rfl ⟨Nat.le_of_ble_eq_true rfl, Nat.le_of_ble_eq_true rfl⟩ ⟨by omega, by omega⟩ rfl (Nat.le_of_ble_eq_true rfl) dX8_count_20 (fun r8 σ9 => ?_)
    show Wo _ _ _ _ _ _ _ _ _ _ [va_rf r8]
    refine r_ckO hC (r := r8) cls_7 q_1087 dX8_count_25 ?_
    refine r_astore hC [(4, va_rf r8), (1, .int x10_1), (2, .int x10_2), (3, va_rf x10_3)] (r := r8) (i := 4) (by decide) (by simp [List.filter, cat_rf, cat_i, cat_j, cat_d, cat_a]) dX8_count_28 ?_
    refine r_iloadn hC 2 rfl rfl dX8_count_30 ?_
    refine r_aload hC 0 (r := r8) rfl dX8_count_31 ?_
    refine r_gI hC (k := 0) (r := r8) cls_7 (by decide) rfl q_1096 (Or.inl rfl) dX8_count_33 (fun v11 => ?_)
    refine r_iloadn hC 1 rfl rfl dX8_count_36 ?_
    refine r_icmp_ne hC 44 dX8_count_37 (by decide) ?_ ?_
    · refine r_iconst hC (0) rfl dX8_count_44 ?_
      refine Wo.sub [1, 3] rfl ?_
      exact t_X8_count_45 hC P10 hm10 k10 hk10 x10_1 x10_3 0 x10_2 σ9 _ _ ⟨by omega, by omega⟩ (hm10 _ _ _ _ (by omega) (by omega) hP10)
    · refine r_iconst hC (1) rfl dX8_count_40 ?_
      refine r_goto hC 45 dX8_count_41 (by decide) ?_
      refine Wo.sub [1, 3] rfl ?_
      exact t_X8_count_45 hC P10 hm10 k10 hk10 x10_1 x10_3 1 x10_2 σ9 _ _ ⟨by omega, by omega⟩ (hm10 _ _ _ _ (by omega) (by omega) hP10)

set_option maxRecDepth 100000 in
set_option maxHeartbeats 4000000 in
theorem u_X8_count_10 {C : Cxt} {G : Glb} (hC : CX C G RX8 cX8_count 5 (some .int) 3 1 4 53) : ∀ (n : Nat) (x10_1 : Int32) (x10_2 : Int32) (x10_3 : (Option Nat)) (σ : Mem) (kc ks : Nat), (∀ m, n = m + 1 → (kc + m * 0 + 0 ≤ 1 ∧ ks + m * 0 + 0 ≤ 4)) → Wo C G 5 (QP C G rvI 1 4) (l_X8_count_10 G.2.2.2.1 G.2.2.2.2  n x10_1 x10_2 x10_3 σ) σ kc ks 10 [(1, .int x10_1), (2, .int x10_2), (3, va_rf x10_3)] [] := by
  intro n
  induction n with
  | zero => intro x10_1 x10_2 x10_3 σ kc ks h0; exact Wo.none
  | succ n ih =>
    intro x10_1 x10_2 x10_3 σ kc ks h0
    exact t_X8_count_10 hC (fun kc ks => (∀ m, n = m + 1 → (kc + m * 0 + 0 ≤ 1 ∧ ks + m * 0 + 0 ≤ 4))) (fun a b a2 b2 h1 h2 h m e => ⟨by have := (h m e).1; omega, by have := (h m e).2; omega⟩) (l_X8_count_10 G.2.2.2.1 G.2.2.2.2  n) ih x10_1 x10_2 x10_3 σ kc ks ⟨by have := (h0 n rfl).1; omega, by have := (h0 n rfl).2; omega⟩ (fun m e => by
      subst e
      exact ⟨by have := (h0 _ rfl).1; omega, by have := (h0 _ rfl).2; omega⟩)

set_option maxRecDepth 100000 in
set_option maxHeartbeats 4000000 in
theorem t_X8_count_0 {C : Cxt} {G : Glb} (hC : CX C G RX8 cX8_count 5 (some .int) 3 1 4 53) (a0 : Nat) (p0 : Int32) (σ : Mem) (kc ks : Nat) (hN : kc + 1 ≤ 1 ∧ ks + 4 ≤ 4) : Wo C G 5 (QP C G rvI 1 4) (b_X8_count_0 G.2.2.2.1 G.2.2.2.2  a0 p0 σ) σ kc ks 0 [(0, va_rf (some a0)), (1, .int p0)] [] := by
  unfold b_X8_count_0
  refine r_iconst hC (0) rfl dX8_count_0 ?_
  refine r_istoren hC [(2, .int 0), (0, va_rf (some a0)), (1, .int p0)] (i := 2) rfl (by decide) rfl dX8_count_1 ?_
  refine r_aloadn hC 1 (r := (some a0)) rfl rfl dX8_count_2 ?_
  refine r_gR hC (k := 7) (r := (some a0)) cls_10 (by decide) rfl q_847 (Or.inl rfl) dX8_count_3 (fun r1 => ?_)
  refine call_V hC (av := []) (st := []) (r := r1) (ci := 1) rfl rfl (fun h9 => ct_Jx4a65c_iterator_32c93 hC.hl G h9 σ) q_993 q_994 q_995 q_47 q_996 yd_Jx4a65c_iterator_32c93 rfl ⟨Nat.le_of_ble_eq_true rfl, Nat.le_of_ble_eq_true rfl⟩ ⟨by omega, by omega⟩ rfl (Nat.le_of_ble_eq_true rfl) dX8_count_6 (fun r2 σ3 => ?_)
  show Wo _ _ _ _ _ _ _ _ _ _ [va_rf r2]
  refine r_astoren hC [(3, va_rf r2), (2, .int 0), (0, va_rf (some a0)), (1, .int p0)] (r := r2) (i := 3) rfl (by decide) rfl dX8_count_9 ?_
  refine Wo.sub [3, 1, 0] rfl ?_
  exact u_X8_count_10 hC 40 p0 0 r2 σ3 _ _ (fun m e => by cases e; exact ⟨by omega, by omega⟩)

set_option maxRecDepth 100000 in
set_option maxHeartbeats 4000000 in
theorem ct_X8_count {l : Launch} (hl : l.stackTraces = false) (G : Glb) (a0 : Nat) (p0 : Int32) (σ : Mem) : Ct rvI l yX8_count (Cond.code yX8_count cX8_count 5 (some .int) :: uW) { frames := 3, cells := 1, slots := 4, locals := 53 } 1 4 G [.ref a0, .int p0] σ (f_X8_count G.2.2.2.1 G.2.2.2.2 a0 p0 σ) := by
  refine Ct.of hl (by decide +kernel) (Nat.le_of_ble_eq_true rfl) (fun C hC hin => ?_)
  have e : lv_args 0 [.ref a0, .int p0] = [(0, .ref a0), (1, .int p0)] := rfl
  rw [e]
  exact t_X8_count_0 hC a0 p0 σ 0 0 ⟨Nat.le_of_ble_eq_true rfl, Nat.le_of_ble_eq_true rfl⟩

noncomputable def b_X8_manyNow_26 (e0 mi : Nat) (k26 : Nat → Int32 → Int32 → (Option Nat) → Mem → Option ((Int32) × Mem)) (a0 : Nat) (x26_1 : Int32) (x26_2 : Int32) (x26_3 : (Option Nat)) (σ : Mem) : Option ((Int32) × Mem) :=
ob 0 σ x26_3 fun h7 => cl1 (f_Jx35411_hasNext_aae02 h7 σ) fun v5 σ6 =>
if v5 = 0 then
nA 0 11 σ6 11 fun σ8 r9 =>
gR 10 6 σ8 (some a0) fun r10 =>
ob 1 σ8 r10 fun h13 => cl1 (f_Jx4a65c_size_8abf5 h13 σ8) fun v11 σ12 =>
wI σ12 r9 0 v11 fun σ14 =>
gI 10 1 σ14 (some a0) fun v15 =>
wI σ14 r9 1 v15 fun σ16 =>
gR 10 7 σ16 (some a0) fun r17 =>
ob 1 σ16 r17 fun h20 => cl1 (f_Jx4a65c_size_8abf5 h20 σ16) fun v18 σ19 =>
wI σ19 r9 2 v18 fun σ21 =>
ob 10 σ21 (some a0) fun h24 => cl1 (f_X8_count e0 mi h24 0 σ21) fun v22 σ23 =>
wI σ23 r9 3 v22 fun σ25 =>
ob 10 σ25 (some a0) fun h28 => cl1 (f_X8_count e0 mi h28 1 σ25) fun v26 σ27 =>
wI σ27 r9 4 v26 fun σ29 =>
ob 10 σ29 (some a0) fun h32 => cl1 (f_X8_count e0 mi h32 2 σ29) fun v30 σ31 =>
wI σ31 r9 5 v30 fun σ33 =>
gI 10 2 σ33 (some a0) fun v34 =>
wI σ33 r9 6 v34 fun σ35 =>
gI 10 3 σ35 (some a0) fun v36 =>
wI σ35 r9 7 v36 fun σ37 =>
wI σ37 r9 8 x26_2 fun σ38 =>
gI 10 4 σ38 (some a0) fun v39 =>
wI σ38 r9 9 v39 fun σ40 =>
gI 10 5 σ40 (some a0) fun v41 =>
wI σ40 r9 10 v41 fun σ42 =>
aI σ42 r9 x26_1 fun v43 =>
some (v43, σ42)
else
ob 0 σ6 x26_3 fun h46 => cl1 (f_Jx35411_next_0502b e0 mi h46 σ6) fun r44 σ45 =>
ck 8 σ45 r44 <|
ob 7 σ45 r44 fun h49 => cl1 (f_X5_dry h49 σ45) fun v47 σ48 =>
nm (x26_2 + v47) fun v50 =>
k26 a0 x26_1 v50 x26_3 σ48

noncomputable def l_X8_manyNow_26 (e0 mi : Nat) (n : Nat) : Nat → Int32 → Int32 → (Option Nat) → Mem → Option ((Int32) × Mem) := itr (fun _ _ _ _ _ => none) (fun k => b_X8_manyNow_26 e0 mi  k) n

noncomputable def b_X8_manyNow_0 (e0 mi : Nat) (a0 : Nat) (p0 : Int32) (σ : Mem) : Option ((Int32) × Mem) :=
if p0 ≤ 10 then
gR 10 7 σ (some a0) fun r1 =>
ob 1 σ r1 fun h4 => cl1 (f_Jx4a65c_iterator_32c93 h4 σ) fun r2 σ3 =>
l_X8_manyNow_26 e0 mi 40 a0 p0 0 r2 σ3
else
gR 10 9 σ (some a0) fun r51 =>
nm (p0 - 11) fun v52 =>
aI σ r51 v52 fun v53 =>
some (v53, σ)

noncomputable def f_X8_manyNow (e0 mi : Nat) (a0 : Nat) (p0 : Int32) (σ : Mem) : Option ((Int32) × Mem) := b_X8_manyNow_0 e0 mi a0 p0 σ
set_option maxRecDepth 100000 in
set_option maxHeartbeats 4000000 in
theorem t_X8_manyNow_26 {C : Cxt} {G : Glb} (hC : CX C G RX8 cX8_manyNow 5 (some .int) 4 5 27 77) (P26 : Nat → Nat → Prop) (hm26 : ∀ a b a2 b2 : Nat, a ≤ a2 → b ≤ b2 → P26 a2 b2 → P26 a b) (k26 : Nat → Int32 → Int32 → (Option Nat) → Mem → Option ((Int32) × Mem)) (hk26 : ∀ (a0 : Nat) (x26_1 : Int32) (x26_2 : Int32) (x26_3 : (Option Nat)) (σ : Mem) (kc ks : Nat), P26 kc ks → Wo C G 5 (QP C G rvI 5 27) (k26 a0 x26_1 x26_2 x26_3 σ) σ kc ks 26 [(0, va_rf (some a0)), (1, .int x26_1), (2, .int x26_2), (3, va_rf x26_3)] []) (a0 : Nat) (x26_1 : Int32) (x26_2 : Int32) (x26_3 : (Option Nat)) (σ : Mem) (kc ks : Nat) (hN : kc + 4 ≤ 5 ∧ ks + 23 ≤ 27) (hP26 : P26 (kc + 0) (ks + 0)) : Wo C G 5 (QP C G rvI 5 27) (b_X8_manyNow_26 G.2.2.2.1 G.2.2.2.2 k26 a0 x26_1 x26_2 x26_3 σ) σ kc ks 26 [(0, va_rf (some a0)), (1, .int x26_1), (2, .int x26_2), (3, va_rf x26_3)] [] := by
  unfold b_X8_manyNow_26
  refine r_aloadn hC 3 (r := x26_3) rfl rfl dX8_manyNow_26 ?_
  refine call_F hC (av := []) (st := []) (r := x26_3) (ci := 0) rfl hC.hK.1.2.2.2.1.1 (fun h9 => ct_Jx35411_hasNext_aae02 hC.hl G h9 σ) q_1017 q_1023 q_1021 q_59 q_1025 ydx_hasNext rfl ⟨Nat.le_of_ble_eq_true rfl, Nat.le_of_ble_eq_true rfl⟩ ⟨by omega, by omega⟩ rfl (Nat.le_of_ble_eq_true rfl) dX8_manyNow_27 (fun v5 σ6 => ?_)
  show Wo _ _ _ _ _ _ _ _ _ _ [.int v5]
  refine r_if_eq hC 57 dX8_manyNow_32 (by decide) ?_ ?_
  · refine r_bipush hC (11) (by decide) dX8_manyNow_57 ?_
    refine r_nA hC (t := 0) (b := 11) (ty := .int) rfl rfl rfl (fun _ h => va_nm_int h) q_102 (Nat.le_of_ble_eq_true rfl) ⟨by omega, by omega⟩ dX8_manyNow_59 (fun σ8 r9 => ?_)
    refine r_dup hC (cat_rf _) dX8_manyNow_61 ?_
    refine r_iconst hC (0) rfl dX8_manyNow_62 ?_
    refine r_aloadn hC 0 (r := (some a0)) rfl rfl dX8_manyNow_63 ?_
    refine r_gR hC (k := 6) (r := (some a0)) cls_10 (by decide) rfl q_846 (Or.inl rfl) dX8_manyNow_64 (fun r10 => ?_)
    refine call_V hC (av := []) (st := [.int 0, va_rf r9, va_rf r9]) (r := r10) (ci := 1) rfl rfl (fun h9 => ct_Jx4a65c_size_8abf5 hC.hl G h9 σ8) q_890 q_891 q_892 q_47 q_893 yd_Jx4a65c_size_8abf5 rfl ⟨Nat.le_of_ble_eq_true rfl, Nat.le_of_ble_eq_true rfl⟩ ⟨by omega, by omega⟩ rfl (by simp [cat_rf, cat_i, cat_j, cat_d, cat_a]) dX8_manyNow_67 (fun v11 σ12 => ?_)
    show Wo _ _ _ _ _ _ _ _ _ _ [.int v11, .int 0, va_rf r9, va_rf r9]
    refine r_wI hC (r := r9) dX8_manyNow_70 (fun σ14 => ?_)
    refine r_dup hC (cat_rf _) dX8_manyNow_71 ?_
    refine r_iconst hC (1) rfl dX8_manyNow_72 ?_
    refine r_aloadn hC 0 (r := (some a0)) rfl rfl dX8_manyNow_73 ?_
    refine r_gI hC (k := 1) (r := (some a0)) cls_10 (by decide) rfl q_841 (Or.inl rfl) dX8_manyNow_74 (fun v15 => ?_)
    refine r_wI hC (r := r9) dX8_manyNow_77 (fun σ16 => ?_)
    refine r_dup hC (cat_rf _) dX8_manyNow_78 ?_
    refine r_iconst hC (2) rfl dX8_manyNow_79 ?_
    refine r_aloadn hC 0 (r := (some a0)) rfl rfl dX8_manyNow_80 ?_
    refine r_gR hC (k := 7) (r := (some a0)) cls_10 (by decide) rfl q_847 (Or.inl rfl) dX8_manyNow_81 (fun r17 => ?_)
    refine call_V hC (av := []) (st := [.int 2, va_rf r9, va_rf r9]) (r := r17) (ci := 1) rfl rfl (fun h9 => ct_Jx4a65c_size_8abf5 hC.hl G h9 σ16) q_890 q_891 q_892 q_47 q_893 yd_Jx4a65c_size_8abf5 rfl ⟨Nat.le_of_ble_eq_true rfl, Nat.le_of_ble_eq_true rfl⟩ ⟨by omega, by omega⟩ rfl (by simp [cat_rf, cat_i, cat_j, cat_d, cat_a]) dX8_manyNow_84 (fun v18 σ19 => ?_)
    show Wo _ _ _ _ _ _ _ _ _ _ [.int v18, .int 2, va_rf r9, va_rf r9]
    refine r_wI hC (r := r9) dX8_manyNow_87 (fun σ21 => ?_)
    refine r_dup hC (cat_rf _) dX8_manyNow_88 ?_
    refine r_iconst hC (3) rfl dX8_manyNow_89 ?_
    refine r_aloadn hC 0 (r := (some a0)) rfl rfl dX8_manyNow_90 ?_
    refine r_iconst hC (0) rfl dX8_manyNow_91 ?_
    refine call_V hC (av := [.int 0]) (st := [.int 3, va_rf r9, va_rf r9]) (r := (some a0)) (ci := 10) rfl rfl (fun h9 => ct_X8_count hC.hl G h9 0 σ21) q_1390 q_1392 q_32 q_44 q_1393 yd_X8_count rfl ⟨Nat.le_of_ble_eq_true rfl, Nat.le_of_ble_eq_true rfl⟩ ⟨by omega, by omega⟩ rfl (by simp [cat_rf, cat_i, cat_j, cat_d, cat_a]) dX8_manyNow_92 (fun v22 σ23 => ?_)
    show Wo _ _ _ _ _ _ _ _ _ _ [.int v22, .int 3, va_rf r9, va_rf r9]
    refine r_wI hC (r := r9) dX8_manyNow_95 (fun σ25 => ?_)
    refine r_dup hC (cat_rf _) dX8_manyNow_96 ?_
    refine r_iconst hC (4) rfl dX8_manyNow_97 ?_
    refine r_aloadn hC 0 (r := (some a0)) rfl rfl dX8_manyNow_98 ?_
    refine r_iconst hC (1) rfl dX8_manyNow_99 ?_
    refine call_V hC (av := [.int 1]) (st := [.int 4, va_rf r9, va_rf r9]) (r := (some a0)) (ci := 10) rfl rfl (fun h9 => ct_X8_count hC.hl G h9 1 σ25) q_1390 q_1392 q_32 q_44 q_1393 yd_X8_count rfl ⟨Nat.le_of_ble_eq_true rfl, Nat.le_of_ble_eq_true rfl⟩ ⟨by omega, by omega⟩ rfl (by simp [cat_rf, cat_i, cat_j, cat_d, cat_a]) dX8_manyNow_100 (fun v26 σ27 => ?_)
    show Wo _ _ _ _ _ _ _ _ _ _ [.int v26, .int 4, va_rf r9, va_rf r9]
    refine r_wI hC (r := r9) dX8_manyNow_103 (fun σ29 => ?_)
    refine r_dup hC (cat_rf _) dX8_manyNow_104 ?_
    refine r_iconst hC (5) rfl dX8_manyNow_105 ?_
    refine r_aloadn hC 0 (r := (some a0)) rfl rfl dX8_manyNow_106 ?_
    refine r_iconst hC (2) rfl dX8_manyNow_107 ?_
    refine call_V hC (av := [.int 2]) (st := [.int 5, va_rf r9, va_rf r9]) (r := (some a0)) (ci := 10) rfl rfl (fun h9 => ct_X8_count hC.hl G h9 2 σ29) q_1390 q_1392 q_32 q_44 q_1393 yd_X8_count rfl ⟨Nat.le_of_ble_eq_true rfl, Nat.le_of_ble_eq_true rfl⟩ ⟨by omega, by omega⟩ rfl (by simp [cat_rf, cat_i, cat_j, cat_d, cat_a]) dX8_manyNow_108 (fun v30 σ31 => ?_)
    show Wo _ _ _ _ _ _ _ _ _ _ [.int v30, .int 5, va_rf r9, va_rf r9]
    refine r_wI hC (r := r9) dX8_manyNow_111 (fun σ33 => ?_)
    refine r_dup hC (cat_rf _) dX8_manyNow_112 ?_
    refine r_bipush hC (6) (by decide) dX8_manyNow_113 ?_
    refine r_aloadn hC 0 (r := (some a0)) rfl rfl dX8_manyNow_115 ?_
    refine r_gI hC (k := 2) (r := (some a0)) cls_10 (by decide) rfl q_842 (Or.inl rfl) dX8_manyNow_116 (fun v34 => ?_)
    refine r_wI hC (r := r9) dX8_manyNow_119 (fun σ35 => ?_)
    refine r_dup hC (cat_rf _) dX8_manyNow_120 ?_
    refine r_bipush hC (7) (by decide) dX8_manyNow_121 ?_
    refine r_aloadn hC 0 (r := (some a0)) rfl rfl dX8_manyNow_123 ?_
    refine r_gI hC (k := 3) (r := (some a0)) cls_10 (by decide) rfl q_843 (Or.inl rfl) dX8_manyNow_124 (fun v36 => ?_)
    refine r_wI hC (r := r9) dX8_manyNow_127 (fun σ37 => ?_)
    refine r_dup hC (cat_rf _) dX8_manyNow_128 ?_
    refine r_bipush hC (8) (by decide) dX8_manyNow_129 ?_
    refine r_iloadn hC 2 rfl rfl dX8_manyNow_131 ?_
    refine r_wI hC (r := r9) dX8_manyNow_132 (fun σ38 => ?_)
    refine r_dup hC (cat_rf _) dX8_manyNow_133 ?_
    refine r_bipush hC (9) (by decide) dX8_manyNow_134 ?_
    refine r_aloadn hC 0 (r := (some a0)) rfl rfl dX8_manyNow_136 ?_
    refine r_gI hC (k := 4) (r := (some a0)) cls_10 (by decide) rfl q_844 (Or.inl rfl) dX8_manyNow_137 (fun v39 => ?_)
    refine r_wI hC (r := r9) dX8_manyNow_140 (fun σ40 => ?_)
    refine r_dup hC (cat_rf _) dX8_manyNow_141 ?_
    refine r_bipush hC (10) (by decide) dX8_manyNow_142 ?_
    refine r_aloadn hC 0 (r := (some a0)) rfl rfl dX8_manyNow_144 ?_
    refine r_gI hC (k := 5) (r := (some a0)) cls_10 (by decide) rfl q_845 (Or.inl rfl) dX8_manyNow_145 (fun v41 => ?_)
    refine r_wI hC (r := r9) dX8_manyNow_148 (fun σ42 => ?_)
    refine r_astoren hC [(3, va_rf r9), (0, va_rf (some a0)), (1, .int x26_1), (2, .int x26_2)] (r := r9) (i := 3) rfl (by decide) rfl dX8_manyNow_149 ?_
    refine r_aloadn hC 0 (r := r9) rfl rfl dX8_manyNow_150 ?_
    refine r_iloadn hC 2 rfl rfl dX8_manyNow_151 ?_
    refine r_aI hC (r := r9) dX8_manyNow_152 (fun v43 => ?_)
    exact e_I hC ⟨by omega, by omega⟩ dX8_manyNow_153
  · refine r_aloadn hC 3 (r := x26_3) rfl rfl dX8_manyNow_35 ?_
    refine call_F hC (av := []) (st := []) (r := x26_3) (ci := 0) rfl hC.hK.1.2.2.2.1.2.1 (fun h9 => ct_Jx35411_next_0502b hC.hl G h9 σ6) q_1027 q_1032 q_1030 q_59 q_1034 ydx_next rfl ⟨Nat.le_of_ble_eq_true rfl, Nat.le_of_ble_eq_true rfl⟩ ⟨by omega, by omega⟩ rfl (Nat.le_of_ble_eq_true rfl) dX8_manyNow_36 (fun r44 σ45 => ?_)
    show Wo _ _ _ _ _ _ _ _ _ _ [va_rf r44]
    refine r_ckO hC (r := r44) cls_7 q_1087 dX8_manyNow_41 ?_
    refine r_astore hC [(4, va_rf r44), (0, va_rf (some a0)), (1, .int x26_1), (2, .int x26_2), (3, va_rf x26_3)] (r := r44) (i := 4) (by decide) (by simp [List.filter, cat_rf, cat_i, cat_j, cat_d, cat_a]) dX8_manyNow_44 ?_
    refine r_iloadn hC 3 rfl rfl dX8_manyNow_46 ?_
    refine r_aload hC 0 (r := r44) rfl dX8_manyNow_47 ?_
    refine call_V hC (av := []) (st := [.int x26_2]) (r := r44) (ci := 7) rfl rfl (fun h9 => ct_X5_dry hC.hl G h9 σ45) q_1157 q_1158 q_1159 q_63 q_1160 yd_X5_dry rfl ⟨Nat.le_of_ble_eq_true rfl, Nat.le_of_ble_eq_true rfl⟩ ⟨by omega, by omega⟩ rfl (by simp [cat_rf, cat_i, cat_j, cat_d, cat_a]) dX8_manyNow_49 (fun v47 σ48 => ?_)
    show Wo _ _ _ _ _ _ _ _ _ _ [.int v47, .int x26_2]
    refine r_iadd hC dX8_manyNow_52 (fun v50 => ?_)
    refine r_istoren hC [(2, .int v50), (4, va_rf r44), (0, va_rf (some a0)), (1, .int x26_1), (3, va_rf x26_3)] (i := 2) rfl (by decide) rfl dX8_manyNow_53 ?_
    refine r_goto hC 26 dX8_manyNow_54 (by decide) ?_
    refine Wo.sub [2, 3, 0, 4] rfl ?_
    exact hk26 a0 x26_1 v50 x26_3 σ48 _ _ (hm26 _ _ _ _ (by omega) (by omega) hP26)

set_option maxRecDepth 100000 in
set_option maxHeartbeats 4000000 in
theorem u_X8_manyNow_26 {C : Cxt} {G : Glb} (hC : CX C G RX8 cX8_manyNow 5 (some .int) 4 5 27 77) : ∀ (n : Nat) (a0 : Nat) (x26_1 : Int32) (x26_2 : Int32) (x26_3 : (Option Nat)) (σ : Mem) (kc ks : Nat), (∀ m, n = m + 1 → (kc + m * 0 + 4 ≤ 5 ∧ ks + m * 0 + 23 ≤ 27)) → Wo C G 5 (QP C G rvI 5 27) (l_X8_manyNow_26 G.2.2.2.1 G.2.2.2.2  n a0 x26_1 x26_2 x26_3 σ) σ kc ks 26 [(0, va_rf (some a0)), (1, .int x26_1), (2, .int x26_2), (3, va_rf x26_3)] [] := by
  intro n
  induction n with
  | zero => intro a0 x26_1 x26_2 x26_3 σ kc ks h0; exact Wo.none
  | succ n ih =>
    intro a0 x26_1 x26_2 x26_3 σ kc ks h0
    exact t_X8_manyNow_26 hC (fun kc ks => (∀ m, n = m + 1 → (kc + m * 0 + 4 ≤ 5 ∧ ks + m * 0 + 23 ≤ 27))) (fun a b a2 b2 h1 h2 h m e => ⟨by have := (h m e).1; omega, by have := (h m e).2; omega⟩) (l_X8_manyNow_26 G.2.2.2.1 G.2.2.2.2  n) ih a0 x26_1 x26_2 x26_3 σ kc ks ⟨by have := (h0 n rfl).1; omega, by have := (h0 n rfl).2; omega⟩ (fun m e => by
      subst e
      exact ⟨by have := (h0 _ rfl).1; omega, by have := (h0 _ rfl).2; omega⟩)

set_option maxRecDepth 100000 in
set_option maxHeartbeats 4000000 in
theorem t_X8_manyNow_0 {C : Cxt} {G : Glb} (hC : CX C G RX8 cX8_manyNow 5 (some .int) 4 5 27 77) (a0 : Nat) (p0 : Int32) (σ : Mem) (kc ks : Nat) (hN : kc + 5 ≤ 5 ∧ ks + 27 ≤ 27) : Wo C G 5 (QP C G rvI 5 27) (b_X8_manyNow_0 G.2.2.2.1 G.2.2.2.2  a0 p0 σ) σ kc ks 0 [(0, va_rf (some a0)), (1, .int p0)] [] := by
  unfold b_X8_manyNow_0
  refine r_iloadn hC 1 rfl rfl dX8_manyNow_0 ?_
  refine r_bipush hC (10) (by decide) dX8_manyNow_1 ?_
  refine r_icmp_le hC 16 dX8_manyNow_3 (by decide) ?_ ?_
  · refine r_iconst hC (0) rfl dX8_manyNow_16 ?_
    refine r_istoren hC [(2, .int 0), (0, va_rf (some a0)), (1, .int p0)] (i := 2) rfl (by decide) rfl dX8_manyNow_17 ?_
    refine r_aloadn hC 1 (r := (some a0)) rfl rfl dX8_manyNow_18 ?_
    refine r_gR hC (k := 7) (r := (some a0)) cls_10 (by decide) rfl q_847 (Or.inl rfl) dX8_manyNow_19 (fun r1 => ?_)
    refine call_V hC (av := []) (st := []) (r := r1) (ci := 1) rfl rfl (fun h9 => ct_Jx4a65c_iterator_32c93 hC.hl G h9 σ) q_993 q_994 q_995 q_47 q_996 yd_Jx4a65c_iterator_32c93 rfl ⟨Nat.le_of_ble_eq_true rfl, Nat.le_of_ble_eq_true rfl⟩ ⟨by omega, by omega⟩ rfl (Nat.le_of_ble_eq_true rfl) dX8_manyNow_22 (fun r2 σ3 => ?_)
    show Wo _ _ _ _ _ _ _ _ _ _ [va_rf r2]
    refine r_astoren hC [(3, va_rf r2), (2, .int 0), (0, va_rf (some a0)), (1, .int p0)] (r := r2) (i := 3) rfl (by decide) rfl dX8_manyNow_25 ?_
    refine Wo.sub [2, 3, 1, 0] rfl ?_
    exact u_X8_manyNow_26 hC 40 a0 p0 0 r2 σ3 _ _ (fun m e => by cases e; exact ⟨by omega, by omega⟩)
  · refine r_aloadn hC 0 (r := (some a0)) rfl rfl dX8_manyNow_6 ?_
    refine r_gR hC (k := 9) (r := (some a0)) cls_10 (by decide) rfl q_849 (Or.inl rfl) dX8_manyNow_7 (fun r51 => ?_)
    refine r_iloadn hC 1 rfl rfl dX8_manyNow_10 ?_
    refine r_bipush hC (11) (by decide) dX8_manyNow_11 ?_
    refine r_isub hC dX8_manyNow_13 (fun v52 => ?_)
    refine r_aI hC (r := r51) dX8_manyNow_14 (fun v53 => ?_)
    exact e_I hC ⟨by omega, by omega⟩ dX8_manyNow_15

set_option maxRecDepth 100000 in
set_option maxHeartbeats 4000000 in
theorem ct_X8_manyNow {l : Launch} (hl : l.stackTraces = false) (G : Glb) (a0 : Nat) (p0 : Int32) (σ : Mem) : Ct rvI l yX8_manyNow (Cond.code yX8_manyNow cX8_manyNow 5 (some .int) :: uW) { frames := 4, cells := 5, slots := 27, locals := 77 } 5 27 G [.ref a0, .int p0] σ (f_X8_manyNow G.2.2.2.1 G.2.2.2.2 a0 p0 σ) := by
  refine Ct.of hl (by decide +kernel) (Nat.le_of_ble_eq_true rfl) (fun C hC hin => ?_)
  have e : lv_args 0 [.ref a0, .int p0] = [(0, .ref a0), (1, .int p0)] := rfl
  rw [e]
  exact t_X8_manyNow_0 hC a0 p0 σ 0 0 ⟨Nat.le_of_ble_eq_true rfl, Nat.le_of_ble_eq_true rfl⟩

noncomputable def b_X8_many_32 (e0 mi : Nat) (y32_0 : Int32) (σ : Mem) : Option ((Int32) × Mem) :=
some (y32_0, σ)

noncomputable def b_X8_many_16 (e0 mi : Nat) (a0 : Nat) (x16_1 : Int32) (y16_0 : Int32) (y16_1 : (Option Nat)) (σ : Mem) : Option ((Int32) × Mem) :=
ob 10 σ y16_1 fun h5 => cl1 (f_X8_start h5 y16_0 1 σ) fun v3 σ4 =>
if v3 = 0 then
ob 10 σ4 (some a0) fun h8 => cl1 (f_X8_manyNow e0 mi h8 x16_1 σ4) fun v6 σ7 =>
b_X8_many_32 e0 mi v6 σ7
else
b_X8_many_32 e0 mi 0 σ4

noncomputable def b_X8_many_0 (e0 mi : Nat) (a0 : Nat) (p0 : Int32) (σ : Mem) : Option ((Int32) × Mem) :=
cl1 (f_X8_isIn p0 0 14 σ) fun v1 σ2 =>
if v1 = 0 then
b_X8_many_16 e0 mi a0 p0 1 (some a0) σ2
else
b_X8_many_16 e0 mi a0 p0 0 (some a0) σ2

noncomputable def f_X8_many (e0 mi : Nat) (a0 : Nat) (p0 : Int32) (σ : Mem) : Option ((Int32) × Mem) := b_X8_many_0 e0 mi a0 p0 σ
set_option maxRecDepth 100000 in
set_option maxHeartbeats 4000000 in
theorem t_X8_many_32 {C : Cxt} {G : Glb} (hC : CX C G RX8 cX8_many 2 (some .int) 5 5 27 101) (y32_0 : Int32) (σ : Mem) (kc ks : Nat) (hN : kc + 0 ≤ 5 ∧ ks + 0 ≤ 27) : Wo C G 2 (QP C G rvI 5 27) (b_X8_many_32 G.2.2.2.1 G.2.2.2.2  y32_0 σ) σ kc ks 32 [] [.int y32_0] := by
  unfold b_X8_many_32
  exact e_I hC ⟨by omega, by omega⟩ dX8_many_32

set_option maxRecDepth 100000 in
set_option maxHeartbeats 4000000 in
theorem t_X8_many_16 {C : Cxt} {G : Glb} (hC : CX C G RX8 cX8_many 2 (some .int) 5 5 27 101) (a0 : Nat) (x16_1 : Int32) (y16_0 : Int32) (y16_1 : (Option Nat)) (σ : Mem) (kc ks : Nat) (hN : kc + 5 ≤ 5 ∧ ks + 27 ≤ 27) : Wo C G 2 (QP C G rvI 5 27) (b_X8_many_16 G.2.2.2.1 G.2.2.2.2  a0 x16_1 y16_0 y16_1 σ) σ kc ks 16 [(0, va_rf (some a0)), (1, .int x16_1)] [.int y16_0, va_rf y16_1] := by
  unfold b_X8_many_16
  refine r_iconst hC (1) rfl dX8_many_16 ?_
  refine call_V hC (av := [.int y16_0, .int 1]) (st := []) (r := y16_1) (ci := 10) rfl rfl (fun h9 => ct_X8_start hC.hl G h9 y16_0 1 σ) q_882 q_884 q_12 q_44 q_885 yd_X8_start rfl ⟨Nat.le_of_ble_eq_true rfl, Nat.le_of_ble_eq_true rfl⟩ ⟨by omega, by omega⟩ rfl (Nat.le_of_ble_eq_true rfl) dX8_many_17 (fun v3 σ4 => ?_)
  show Wo _ _ _ _ _ _ _ _ _ _ [.int v3]
  refine r_if_eq hC 27 dX8_many_20 (by decide) ?_ ?_
  · refine r_aloadn hC 0 (r := (some a0)) rfl rfl dX8_many_27 ?_
    refine r_iloadn hC 1 rfl rfl dX8_many_28 ?_
    refine call_V hC (av := [.int x16_1]) (st := []) (r := (some a0)) (ci := 10) rfl rfl (fun h9 => ct_X8_manyNow hC.hl G h9 x16_1 σ4) q_1386 q_1388 q_31 q_44 q_1389 yd_X8_manyNow rfl ⟨Nat.le_of_ble_eq_true rfl, Nat.le_of_ble_eq_true rfl⟩ ⟨by omega, by omega⟩ rfl (Nat.le_of_ble_eq_true rfl) dX8_many_29 (fun v6 σ7 => ?_)
    show Wo _ _ _ _ _ _ _ _ _ _ [.int v6]
    refine Wo.sub [] rfl ?_
    exact t_X8_many_32 hC v6 σ7 _ _ ⟨by omega, by omega⟩
  · refine r_iconst hC (0) rfl dX8_many_23 ?_
    refine r_goto hC 32 dX8_many_24 (by decide) ?_
    refine Wo.sub [] rfl ?_
    exact t_X8_many_32 hC 0 σ4 _ _ ⟨by omega, by omega⟩

set_option maxRecDepth 100000 in
set_option maxHeartbeats 4000000 in
theorem t_X8_many_0 {C : Cxt} {G : Glb} (hC : CX C G RX8 cX8_many 2 (some .int) 5 5 27 101) (a0 : Nat) (p0 : Int32) (σ : Mem) (kc ks : Nat) (hN : kc + 5 ≤ 5 ∧ ks + 27 ≤ 27) : Wo C G 2 (QP C G rvI 5 27) (b_X8_many_0 G.2.2.2.1 G.2.2.2.2  a0 p0 σ) σ kc ks 0 [(0, va_rf (some a0)), (1, .int p0)] [] := by
  unfold b_X8_many_0
  refine r_aloadn hC 0 (r := (some a0)) rfl rfl dX8_many_0 ?_
  refine r_iloadn hC 1 rfl rfl dX8_many_1 ?_
  refine r_iconst hC (0) rfl dX8_many_2 ?_
  refine r_bipush hC (14) (by decide) dX8_many_3 ?_
  refine call_S hC (av := [.int p0, .int 0, .int 14]) (st := [va_rf (some a0)]) (ct_X8_isIn hC.hl G p0 0 14 σ) q_879 q_880 q_44 q_881 yd_X8_isIn rfl ⟨Nat.le_of_ble_eq_true rfl, Nat.le_of_ble_eq_true rfl⟩ ⟨by omega, by omega⟩ rfl (by simp [cat_rf, cat_i, cat_j, cat_d, cat_a]) dX8_many_5 (fun v1 σ2 => ?_)
  show Wo _ _ _ _ _ _ _ _ _ _ [.int v1, va_rf (some a0)]
  refine r_if_ne hC 15 dX8_many_8 (by decide) ?_ ?_
  · refine r_iconst hC (0) rfl dX8_many_15 ?_
    exact t_X8_many_16 hC a0 p0 0 (some a0) σ2 _ _ ⟨by omega, by omega⟩
  · refine r_iconst hC (1) rfl dX8_many_11 ?_
    refine r_goto hC 16 dX8_many_12 (by decide) ?_
    exact t_X8_many_16 hC a0 p0 1 (some a0) σ2 _ _ ⟨by omega, by omega⟩

set_option maxRecDepth 100000 in
set_option maxHeartbeats 4000000 in
theorem ct_X8_many {l : Launch} (hl : l.stackTraces = false) (G : Glb) (a0 : Nat) (p0 : Int32) (σ : Mem) : Ct rvI l yX8_many (Cond.code yX8_many cX8_many 2 (some .int) :: uW) { frames := 5, cells := 5, slots := 27, locals := 101 } 5 27 G [.ref a0, .int p0] σ (f_X8_many G.2.2.2.1 G.2.2.2.2 a0 p0 σ) := by
  refine Ct.of hl (by decide +kernel) (Nat.le_of_ble_eq_true rfl) (fun C hC hin => ?_)
  have e : lv_args 0 [.ref a0, .int p0] = [(0, .ref a0), (1, .int p0)] := rfl
  rw [e]
  exact t_X8_many_0 hC a0 p0 σ 0 0 ⟨Nat.le_of_ble_eq_true rfl, Nat.le_of_ble_eq_true rfl⟩

noncomputable def b_X8_meanNotes_87 (e0 mi : Nat) (y87_0 : UInt64) (σ : Mem) : Option ((UInt64) × Mem) :=
some (y87_0, σ)

noncomputable def b_X8_meanNotes_17 (e0 mi : Nat) (k17 : Int32 → Int32 → (Option Nat) → Mem → Option ((UInt64) × Mem)) (x17_1 : Int32) (x17_2 : Int32) (x17_3 : (Option Nat)) (σ : Mem) : Option ((UInt64) × Mem) :=
ob 0 σ x17_3 fun h8 => cl1 (f_Jx35411_hasNext_aae02 h8 σ) fun v6 σ7 =>
if v6 = 0 then
if x17_2 = 0 then
b_X8_meanNotes_87 e0 mi 0 σ7
else
nm (FP.i2d x17_1) fun v9 =>
nm (FP.i2d x17_2) fun v10 =>
ddv v9 v10 fun v11 =>
b_X8_meanNotes_87 e0 mi v11 σ7
else
ob 0 σ7 x17_3 fun h14 => cl1 (f_Jx35411_next_0502b e0 mi h14 σ7) fun r12 σ13 =>
ck 8 σ13 r12 <|
gI 7 0 σ13 r12 fun v15 =>
if v15 = 2 then
ob 7 σ13 r12 fun h18 => cl1 (f_X5_sum h18 σ13) fun v16 σ17 =>
ob 7 σ17 r12 fun h21 => cl1 (f_X5_dry h21 σ17) fun v19 σ20 =>
nm (v16 * v19) fun v22 =>
nm (x17_1 + v22) fun v23 =>
ob 7 σ20 r12 fun h26 => cl1 (f_X5_dry h26 σ20) fun v24 σ25 =>
nm (x17_2 + v24) fun v27 =>
k17 v23 v27 x17_3 σ25
else
k17 x17_1 x17_2 x17_3 σ13

noncomputable def l_X8_meanNotes_17 (e0 mi : Nat) (n : Nat) : Int32 → Int32 → (Option Nat) → Mem → Option ((UInt64) × Mem) := itr (fun _ _ _ _ => none) (fun k => b_X8_meanNotes_17 e0 mi  k) n

noncomputable def b_X8_meanNotes_0 (e0 mi : Nat) (a0 : Nat) (σ : Mem) : Option ((UInt64) × Mem) :=
pI 10 0 σ (some a0) 0 fun σ1 =>
gR 10 7 σ1 (some a0) fun r2 =>
ob 1 σ1 r2 fun h5 => cl1 (f_Jx4a65c_iterator_32c93 h5 σ1) fun r3 σ4 =>
l_X8_meanNotes_17 e0 mi 40 0 0 r3 σ4

noncomputable def f_X8_meanNotes (e0 mi : Nat) (a0 : Nat) (σ : Mem) : Option ((UInt64) × Mem) := b_X8_meanNotes_0 e0 mi a0 σ
set_option maxRecDepth 100000 in
set_option maxHeartbeats 4000000 in
theorem t_X8_meanNotes_87 {C : Cxt} {G : Glb} (hC : CX C G RX8 cX8_meanNotes 5 (some .double) 4 1 4 76) (y87_0 : UInt64) (σ : Mem) (kc ks : Nat) (hN : kc + 0 ≤ 1 ∧ ks + 0 ≤ 4) : Wo C G 5 (QP C G rvD 1 4) (b_X8_meanNotes_87 G.2.2.2.1 G.2.2.2.2  y87_0 σ) σ kc ks 87 [] [.double y87_0] := by
  unfold b_X8_meanNotes_87
  exact e_D hC ⟨by omega, by omega⟩ dX8_meanNotes_87

set_option maxRecDepth 100000 in
set_option maxHeartbeats 4000000 in
theorem t_X8_meanNotes_17 {C : Cxt} {G : Glb} (hC : CX C G RX8 cX8_meanNotes 5 (some .double) 4 1 4 76) (P17 : Nat → Nat → Prop) (hm17 : ∀ a b a2 b2 : Nat, a ≤ a2 → b ≤ b2 → P17 a2 b2 → P17 a b) (k17 : Int32 → Int32 → (Option Nat) → Mem → Option ((UInt64) × Mem)) (hk17 : ∀ (x17_1 : Int32) (x17_2 : Int32) (x17_3 : (Option Nat)) (σ : Mem) (kc ks : Nat), P17 kc ks → Wo C G 5 (QP C G rvD 1 4) (k17 x17_1 x17_2 x17_3 σ) σ kc ks 17 [(1, .int x17_1), (2, .int x17_2), (3, va_rf x17_3)] []) (x17_1 : Int32) (x17_2 : Int32) (x17_3 : (Option Nat)) (σ : Mem) (kc ks : Nat) (hN : kc + 0 ≤ 1 ∧ ks + 0 ≤ 4) (hP17 : P17 (kc + 0) (ks + 0)) : Wo C G 5 (QP C G rvD 1 4) (b_X8_meanNotes_17 G.2.2.2.1 G.2.2.2.2 k17 x17_1 x17_2 x17_3 σ) σ kc ks 17 [(1, .int x17_1), (2, .int x17_2), (3, va_rf x17_3)] [] := by
  unfold b_X8_meanNotes_17
  refine r_aloadn hC 2 (r := x17_3) rfl rfl dX8_meanNotes_17 ?_
  refine call_F hC (av := []) (st := []) (r := x17_3) (ci := 0) rfl hC.hK.1.2.2.2.1.1 (fun h9 => ct_Jx35411_hasNext_aae02 hC.hl G h9 σ) q_1017 q_1023 q_1021 q_59 q_1025 ydx_hasNext rfl ⟨Nat.le_of_ble_eq_true rfl, Nat.le_of_ble_eq_true rfl⟩ ⟨by omega, by omega⟩ rfl (Nat.le_of_ble_eq_true rfl) dX8_meanNotes_18 (fun v6 σ7 => ?_)
  show Wo _ _ _ _ _ _ _ _ _ _ [.int v6]
  refine r_if_eq hC 74 dX8_meanNotes_23 (by decide) ?_ ?_
  · refine r_iloadn hC 1 rfl rfl dX8_meanNotes_74 ?_
    refine r_if_ne hC 82 dX8_meanNotes_75 (by decide) ?_ ?_
    · refine r_iloadn hC 0 rfl rfl dX8_meanNotes_82 ?_
      refine r_i2d hC dX8_meanNotes_83 (fun v9 => ?_)
      refine r_iloadn hC 1 rfl rfl dX8_meanNotes_84 ?_
      refine r_i2d hC dX8_meanNotes_85 (fun v10 => ?_)
      refine r_ddiv hC dX8_meanNotes_86 (fun v11 => ?_)
      refine Wo.sub [] rfl ?_
      exact t_X8_meanNotes_87 hC v11 σ7 _ _ ⟨by omega, by omega⟩
    · refine r_dconst0 hC dX8_meanNotes_78 ?_
      refine r_goto hC 87 dX8_meanNotes_79 (by decide) ?_
      refine Wo.sub [] rfl ?_
      exact t_X8_meanNotes_87 hC 0 σ7 _ _ ⟨by omega, by omega⟩
  · refine r_aloadn hC 2 (r := x17_3) rfl rfl dX8_meanNotes_26 ?_
    refine call_F hC (av := []) (st := []) (r := x17_3) (ci := 0) rfl hC.hK.1.2.2.2.1.2.1 (fun h9 => ct_Jx35411_next_0502b hC.hl G h9 σ7) q_1027 q_1032 q_1030 q_59 q_1034 ydx_next rfl ⟨Nat.le_of_ble_eq_true rfl, Nat.le_of_ble_eq_true rfl⟩ ⟨by omega, by omega⟩ rfl (Nat.le_of_ble_eq_true rfl) dX8_meanNotes_27 (fun r12 σ13 => ?_)
    show Wo _ _ _ _ _ _ _ _ _ _ [va_rf r12]
    refine r_ckO hC (r := r12) cls_7 q_1087 dX8_meanNotes_32 ?_
    refine r_astore hC [(4, va_rf r12), (1, .int x17_1), (2, .int x17_2), (3, va_rf x17_3)] (r := r12) (i := 4) (by decide) (by simp [List.filter, cat_rf, cat_i, cat_j, cat_d, cat_a]) dX8_meanNotes_35 ?_
    refine r_aload hC 0 (r := r12) rfl dX8_meanNotes_37 ?_
    refine r_gI hC (k := 0) (r := r12) cls_7 (by decide) rfl q_1096 (Or.inl rfl) dX8_meanNotes_39 (fun v15 => ?_)
    refine r_iconst hC (2) rfl dX8_meanNotes_42 ?_
    refine r_icmp_eq hC 49 dX8_meanNotes_43 (by decide) ?_ ?_
    · refine r_iloadn hC 1 rfl rfl dX8_meanNotes_49 ?_
      refine r_aload hC 0 (r := r12) rfl dX8_meanNotes_50 ?_
      refine call_V hC (av := []) (st := [.int x17_1]) (r := r12) (ci := 7) rfl rfl (fun h9 => ct_X5_sum hC.hl G h9 σ13) q_1398 q_1399 q_1400 q_63 q_1401 yd_X5_sum rfl ⟨Nat.le_of_ble_eq_true rfl, Nat.le_of_ble_eq_true rfl⟩ ⟨by omega, by omega⟩ rfl (by simp [cat_rf, cat_i, cat_j, cat_d, cat_a]) dX8_meanNotes_52 (fun v16 σ17 => ?_)
      show Wo _ _ _ _ _ _ _ _ _ _ [.int v16, .int x17_1]
      refine r_aload hC 0 (r := r12) rfl dX8_meanNotes_55 ?_
      refine call_V hC (av := []) (st := [.int v16, .int x17_1]) (r := r12) (ci := 7) rfl rfl (fun h9 => ct_X5_dry hC.hl G h9 σ17) q_1157 q_1158 q_1159 q_63 q_1160 yd_X5_dry rfl ⟨Nat.le_of_ble_eq_true rfl, Nat.le_of_ble_eq_true rfl⟩ ⟨by omega, by omega⟩ rfl (by simp [cat_rf, cat_i, cat_j, cat_d, cat_a]) dX8_meanNotes_57 (fun v19 σ20 => ?_)
      show Wo _ _ _ _ _ _ _ _ _ _ [.int v19, .int v16, .int x17_1]
      refine r_imul hC dX8_meanNotes_60 (fun v22 => ?_)
      refine r_iadd hC dX8_meanNotes_61 (fun v23 => ?_)
      refine r_istoren hC [(1, .int v23), (4, va_rf r12), (2, .int x17_2), (3, va_rf x17_3)] (i := 1) rfl (by decide) rfl dX8_meanNotes_62 ?_
      refine r_iloadn hC 2 rfl rfl dX8_meanNotes_63 ?_
      refine r_aload hC 1 (r := r12) rfl dX8_meanNotes_64 ?_
      refine call_V hC (av := []) (st := [.int x17_2]) (r := r12) (ci := 7) rfl rfl (fun h9 => ct_X5_dry hC.hl G h9 σ20) q_1157 q_1158 q_1159 q_63 q_1160 yd_X5_dry rfl ⟨Nat.le_of_ble_eq_true rfl, Nat.le_of_ble_eq_true rfl⟩ ⟨by omega, by omega⟩ rfl (by simp [cat_rf, cat_i, cat_j, cat_d, cat_a]) dX8_meanNotes_66 (fun v24 σ25 => ?_)
      show Wo _ _ _ _ _ _ _ _ _ _ [.int v24, .int x17_2]
      refine r_iadd hC dX8_meanNotes_69 (fun v27 => ?_)
      refine r_istoren hC [(2, .int v27), (1, .int v23), (4, va_rf r12), (3, va_rf x17_3)] (i := 2) rfl (by decide) rfl dX8_meanNotes_70 ?_
      refine r_goto hC 17 dX8_meanNotes_71 (by decide) ?_
      refine Wo.sub [1, 0, 3] rfl ?_
      exact hk17 v23 v27 x17_3 σ25 _ _ (hm17 _ _ _ _ (by omega) (by omega) hP17)
    · refine r_goto hC 17 dX8_meanNotes_46 (by decide) ?_
      refine Wo.sub [1, 2, 3] rfl ?_
      exact hk17 x17_1 x17_2 x17_3 σ13 _ _ (hm17 _ _ _ _ (by omega) (by omega) hP17)

set_option maxRecDepth 100000 in
set_option maxHeartbeats 4000000 in
theorem u_X8_meanNotes_17 {C : Cxt} {G : Glb} (hC : CX C G RX8 cX8_meanNotes 5 (some .double) 4 1 4 76) : ∀ (n : Nat) (x17_1 : Int32) (x17_2 : Int32) (x17_3 : (Option Nat)) (σ : Mem) (kc ks : Nat), (∀ m, n = m + 1 → (kc + m * 0 + 0 ≤ 1 ∧ ks + m * 0 + 0 ≤ 4)) → Wo C G 5 (QP C G rvD 1 4) (l_X8_meanNotes_17 G.2.2.2.1 G.2.2.2.2  n x17_1 x17_2 x17_3 σ) σ kc ks 17 [(1, .int x17_1), (2, .int x17_2), (3, va_rf x17_3)] [] := by
  intro n
  induction n with
  | zero => intro x17_1 x17_2 x17_3 σ kc ks h0; exact Wo.none
  | succ n ih =>
    intro x17_1 x17_2 x17_3 σ kc ks h0
    exact t_X8_meanNotes_17 hC (fun kc ks => (∀ m, n = m + 1 → (kc + m * 0 + 0 ≤ 1 ∧ ks + m * 0 + 0 ≤ 4))) (fun a b a2 b2 h1 h2 h m e => ⟨by have := (h m e).1; omega, by have := (h m e).2; omega⟩) (l_X8_meanNotes_17 G.2.2.2.1 G.2.2.2.2  n) ih x17_1 x17_2 x17_3 σ kc ks ⟨by have := (h0 n rfl).1; omega, by have := (h0 n rfl).2; omega⟩ (fun m e => by
      subst e
      exact ⟨by have := (h0 _ rfl).1; omega, by have := (h0 _ rfl).2; omega⟩)

set_option maxRecDepth 100000 in
set_option maxHeartbeats 4000000 in
theorem t_X8_meanNotes_0 {C : Cxt} {G : Glb} (hC : CX C G RX8 cX8_meanNotes 5 (some .double) 4 1 4 76) (a0 : Nat) (σ : Mem) (kc ks : Nat) (hN : kc + 1 ≤ 1 ∧ ks + 4 ≤ 4) : Wo C G 5 (QP C G rvD 1 4) (b_X8_meanNotes_0 G.2.2.2.1 G.2.2.2.2  a0 σ) σ kc ks 0 [(0, va_rf (some a0))] [] := by
  unfold b_X8_meanNotes_0
  refine r_aloadn hC 0 (r := (some a0)) rfl rfl dX8_meanNotes_0 ?_
  refine r_iconst hC (0) rfl dX8_meanNotes_1 ?_
  refine r_pI hC (k := 0) (r := (some a0)) cls_10 (by decide) rfl q_840 (Or.inl rfl) (Or.inl rfl) dX8_meanNotes_2 (fun σ1 => ?_)
  refine r_iconst hC (0) rfl dX8_meanNotes_5 ?_
  refine r_istoren hC [(1, .int 0), (0, va_rf (some a0))] (i := 1) rfl (by decide) rfl dX8_meanNotes_6 ?_
  refine r_iconst hC (0) rfl dX8_meanNotes_7 ?_
  refine r_istoren hC [(2, .int 0), (1, .int 0), (0, va_rf (some a0))] (i := 2) rfl (by decide) rfl dX8_meanNotes_8 ?_
  refine r_aloadn hC 2 (r := (some a0)) rfl rfl dX8_meanNotes_9 ?_
  refine r_gR hC (k := 7) (r := (some a0)) cls_10 (by decide) rfl q_847 (Or.inl rfl) dX8_meanNotes_10 (fun r2 => ?_)
  refine call_V hC (av := []) (st := []) (r := r2) (ci := 1) rfl rfl (fun h9 => ct_Jx4a65c_iterator_32c93 hC.hl G h9 σ1) q_993 q_994 q_995 q_47 q_996 yd_Jx4a65c_iterator_32c93 rfl ⟨Nat.le_of_ble_eq_true rfl, Nat.le_of_ble_eq_true rfl⟩ ⟨by omega, by omega⟩ rfl (Nat.le_of_ble_eq_true rfl) dX8_meanNotes_13 (fun r3 σ4 => ?_)
  show Wo _ _ _ _ _ _ _ _ _ _ [va_rf r3]
  refine r_astoren hC [(3, va_rf r3), (2, .int 0), (1, .int 0), (0, va_rf (some a0))] (r := r3) (i := 3) rfl (by decide) rfl dX8_meanNotes_16 ?_
  refine Wo.sub [2, 1, 0] rfl ?_
  exact u_X8_meanNotes_17 hC 40 0 0 r3 σ4 _ _ (fun m e => by cases e; exact ⟨by omega, by omega⟩)

set_option maxRecDepth 100000 in
set_option maxHeartbeats 4000000 in
theorem ct_X8_meanNotes {l : Launch} (hl : l.stackTraces = false) (G : Glb) (a0 : Nat) (σ : Mem) : Ct rvD l yX8_meanNotes (Cond.code yX8_meanNotes cX8_meanNotes 5 (some .double) :: uW) { frames := 4, cells := 1, slots := 4, locals := 76 } 1 4 G [.ref a0] σ (f_X8_meanNotes G.2.2.2.1 G.2.2.2.2 a0 σ) := by
  refine Ct.of hl (by decide +kernel) (Nat.le_of_ble_eq_true rfl) (fun C hC hin => ?_)
  have e : lv_args 0 [.ref a0] = [(0, .ref a0)] := rfl
  rw [e]
  exact t_X8_meanNotes_0 hC a0 σ 0 0 ⟨Nat.le_of_ble_eq_true rfl, Nat.le_of_ble_eq_true rfl⟩

noncomputable def b_X8_flushInNow_19 (k19 : Int32 → Int32 → (Option Nat) → Int32 → Mem → Option ((Int32) × Mem)) (x19_2 : Int32) (x19_3 : Int32) (x19_4 : (Option Nat)) (x19_5 : Int32) (σ : Mem) : Option ((Int32) × Mem) :=
if 30 < x19_5 then
some ((-1), σ)
else
ob 8 σ x19_4 fun h10 => cl1 (f_X6_day h10 x19_2 x19_3 σ) fun v8 σ9 =>
if v8 ≤ 0 then
nm (x19_5 + 1) fun v11 =>
k19 x19_2 x19_3 x19_4 v11 σ9
else
some (x19_5, σ9)

noncomputable def l_X8_flushInNow_19 (n : Nat) : Int32 → Int32 → (Option Nat) → Int32 → Mem → Option ((Int32) × Mem) := itr (fun _ _ _ _ _ => none) (fun k => b_X8_flushInNow_19  k) n

noncomputable def b_X8_flushInNow_0 (a0 : Nat) (p0 : Int32) (p1 : Int32) (p2 : Int32) (σ : Mem) : Option ((Int32) × Mem) :=
gR 10 6 σ (some a0) fun r1 =>
ob 1 σ r1 fun h4 => cl1 (f_Jx4a65c_get_915e3 h4 p0 σ) fun r2 σ3 =>
ck 9 σ3 r2 <|
ob 8 σ3 r2 fun h7 => cl1 (f_X6_copy h7 σ3) fun r5 σ6 =>
l_X8_flushInNow_19 40 p1 p2 r5 1 σ6

noncomputable def f_X8_flushInNow (a0 : Nat) (p0 : Int32) (p1 : Int32) (p2 : Int32) (σ : Mem) : Option ((Int32) × Mem) := b_X8_flushInNow_0 a0 p0 p1 p2 σ
set_option maxRecDepth 100000 in
set_option maxHeartbeats 4000000 in
theorem t_X8_flushInNow_19 {C : Cxt} {G : Glb} (hC : CX C G RX8 cX8_flushInNow 6 (some .int) 3 2 12 64) (P19 : Nat → Nat → Prop) (hm19 : ∀ a b a2 b2 : Nat, a ≤ a2 → b ≤ b2 → P19 a2 b2 → P19 a b) (k19 : Int32 → Int32 → (Option Nat) → Int32 → Mem → Option ((Int32) × Mem)) (hk19 : ∀ (x19_2 : Int32) (x19_3 : Int32) (x19_4 : (Option Nat)) (x19_5 : Int32) (σ : Mem) (kc ks : Nat), P19 kc ks → Wo C G 6 (QP C G rvI 2 12) (k19 x19_2 x19_3 x19_4 x19_5 σ) σ kc ks 19 [(2, .int x19_2), (3, .int x19_3), (4, va_rf x19_4), (5, .int x19_5)] []) (x19_2 : Int32) (x19_3 : Int32) (x19_4 : (Option Nat)) (x19_5 : Int32) (σ : Mem) (kc ks : Nat) (hN : kc + 0 ≤ 2 ∧ ks + 0 ≤ 12) (hP19 : P19 (kc + 0) (ks + 0)) : Wo C G 6 (QP C G rvI 2 12) (b_X8_flushInNow_19 k19 x19_2 x19_3 x19_4 x19_5 σ) σ kc ks 19 [(2, .int x19_2), (3, .int x19_3), (4, va_rf x19_4), (5, .int x19_5)] [] := by
  unfold b_X8_flushInNow_19
  refine r_iload hC 3 rfl dX8_flushInNow_19 ?_
  refine r_bipush hC (30) (by decide) dX8_flushInNow_21 ?_
  refine r_icmp_gt hC 45 dX8_flushInNow_23 (by decide) ?_ ?_
  · refine r_iconst hC (-1) rfl dX8_flushInNow_45 ?_
    exact e_I hC ⟨by omega, by omega⟩ dX8_flushInNow_46
  · refine r_aload hC 2 (r := x19_4) rfl dX8_flushInNow_26 ?_
    refine r_iloadn hC 0 rfl rfl dX8_flushInNow_28 ?_
    refine r_iloadn hC 1 rfl rfl dX8_flushInNow_29 ?_
    refine call_V hC (av := [.int x19_2, .int x19_3]) (st := []) (r := x19_4) (ci := 8) rfl rfl (fun h9 => ct_X6_day hC.hl G h9 x19_2 x19_3 σ) q_1039 q_1040 q_1041 q_54 q_1042 yd_X6_day rfl ⟨Nat.le_of_ble_eq_true rfl, Nat.le_of_ble_eq_true rfl⟩ ⟨by omega, by omega⟩ rfl (Nat.le_of_ble_eq_true rfl) dX8_flushInNow_30 (fun v8 σ9 => ?_)
    show Wo _ _ _ _ _ _ _ _ _ _ [.int v8]
    refine r_if_le hC 39 dX8_flushInNow_33 (by decide) ?_ ?_
    · refine r_iinc hC 3 (fun w => [(5, .int w), (2, .int x19_2), (3, .int x19_3), (4, va_rf x19_4)]) 1 rfl (by decide) rfl (fun w => by simp [List.filter, cat_rf, cat_i, cat_j, cat_d, cat_a]) dX8_flushInNow_39 (fun v11 => ?_)
      refine r_goto hC 19 dX8_flushInNow_42 (by decide) ?_
      refine Wo.sub [1, 2, 3, 0] rfl ?_
      exact hk19 x19_2 x19_3 x19_4 v11 σ9 _ _ (hm19 _ _ _ _ (by omega) (by omega) hP19)
    · refine r_iload hC 3 rfl dX8_flushInNow_36 ?_
      exact e_I hC ⟨by omega, by omega⟩ dX8_flushInNow_38

set_option maxRecDepth 100000 in
set_option maxHeartbeats 4000000 in
theorem u_X8_flushInNow_19 {C : Cxt} {G : Glb} (hC : CX C G RX8 cX8_flushInNow 6 (some .int) 3 2 12 64) : ∀ (n : Nat) (x19_2 : Int32) (x19_3 : Int32) (x19_4 : (Option Nat)) (x19_5 : Int32) (σ : Mem) (kc ks : Nat), (∀ m, n = m + 1 → (kc + m * 0 + 0 ≤ 2 ∧ ks + m * 0 + 0 ≤ 12)) → Wo C G 6 (QP C G rvI 2 12) (l_X8_flushInNow_19  n x19_2 x19_3 x19_4 x19_5 σ) σ kc ks 19 [(2, .int x19_2), (3, .int x19_3), (4, va_rf x19_4), (5, .int x19_5)] [] := by
  intro n
  induction n with
  | zero => intro x19_2 x19_3 x19_4 x19_5 σ kc ks h0; exact Wo.none
  | succ n ih =>
    intro x19_2 x19_3 x19_4 x19_5 σ kc ks h0
    exact t_X8_flushInNow_19 hC (fun kc ks => (∀ m, n = m + 1 → (kc + m * 0 + 0 ≤ 2 ∧ ks + m * 0 + 0 ≤ 12))) (fun a b a2 b2 h1 h2 h m e => ⟨by have := (h m e).1; omega, by have := (h m e).2; omega⟩) (l_X8_flushInNow_19  n) ih x19_2 x19_3 x19_4 x19_5 σ kc ks ⟨by have := (h0 n rfl).1; omega, by have := (h0 n rfl).2; omega⟩ (fun m e => by
      subst e
      exact ⟨by have := (h0 _ rfl).1; omega, by have := (h0 _ rfl).2; omega⟩)

set_option maxRecDepth 100000 in
set_option maxHeartbeats 4000000 in
theorem t_X8_flushInNow_0 {C : Cxt} {G : Glb} (hC : CX C G RX8 cX8_flushInNow 6 (some .int) 3 2 12 64) (a0 : Nat) (p0 : Int32) (p1 : Int32) (p2 : Int32) (σ : Mem) (kc ks : Nat) (hN : kc + 2 ≤ 2 ∧ ks + 12 ≤ 12) : Wo C G 6 (QP C G rvI 2 12) (b_X8_flushInNow_0  a0 p0 p1 p2 σ) σ kc ks 0 [(0, va_rf (some a0)), (1, .int p0), (2, .int p1), (3, .int p2)] [] := by
  unfold b_X8_flushInNow_0
  refine r_aloadn hC 0 (r := (some a0)) rfl rfl dX8_flushInNow_0 ?_
  refine r_gR hC (k := 6) (r := (some a0)) cls_10 (by decide) rfl q_846 (Or.inl rfl) dX8_flushInNow_1 (fun r1 => ?_)
  refine r_iloadn hC 1 rfl rfl dX8_flushInNow_4 ?_
  refine call_V hC (av := [.int p0]) (st := []) (r := r1) (ci := 1) rfl rfl (fun h9 => ct_Jx4a65c_get_915e3 hC.hl G h9 p0 σ) q_1057 q_1058 q_1059 q_47 q_1060 yd_Jx4a65c_get_915e3 rfl ⟨Nat.le_of_ble_eq_true rfl, Nat.le_of_ble_eq_true rfl⟩ ⟨by omega, by omega⟩ rfl (Nat.le_of_ble_eq_true rfl) dX8_flushInNow_5 (fun r2 σ3 => ?_)
  show Wo _ _ _ _ _ _ _ _ _ _ [va_rf r2]
  refine r_ckO hC (r := r2) cls_8 q_894 dX8_flushInNow_8 ?_
  refine call_V hC (av := []) (st := []) (r := r2) (ci := 8) rfl rfl (fun h9 => ct_X6_copy hC.hl G h9 σ3) q_1411 q_1412 q_1413 q_54 q_1414 yd_X6_copy rfl ⟨Nat.le_of_ble_eq_true rfl, Nat.le_of_ble_eq_true rfl⟩ ⟨by omega, by omega⟩ rfl (Nat.le_of_ble_eq_true rfl) dX8_flushInNow_11 (fun r5 σ6 => ?_)
  show Wo _ _ _ _ _ _ _ _ _ _ [va_rf r5]
  refine r_astore hC [(4, va_rf r5), (0, va_rf (some a0)), (1, .int p0), (2, .int p1), (3, .int p2)] (r := r5) (i := 4) (by decide) rfl dX8_flushInNow_14 ?_
  refine r_iconst hC (1) rfl dX8_flushInNow_16 ?_
  refine r_istore hC [(5, .int 1), (4, va_rf r5), (0, va_rf (some a0)), (1, .int p0), (2, .int p1), (3, .int p2)] (i := 5) (by decide) (by simp [List.filter, cat_rf, cat_i, cat_j, cat_d, cat_a]) dX8_flushInNow_17 ?_
  refine Wo.sub [4, 5, 1, 0] rfl ?_
  exact u_X8_flushInNow_19 hC 40 p1 p2 r5 1 σ6 _ _ (fun m e => by cases e; exact ⟨by omega, by omega⟩)

set_option maxRecDepth 100000 in
set_option maxHeartbeats 4000000 in
theorem ct_X8_flushInNow {l : Launch} (hl : l.stackTraces = false) (G : Glb) (a0 : Nat) (p0 : Int32) (p1 : Int32) (p2 : Int32) (σ : Mem) : Ct rvI l yX8_flushInNow (Cond.code yX8_flushInNow cX8_flushInNow 6 (some .int) :: uW) { frames := 3, cells := 2, slots := 12, locals := 64 } 2 12 G [.ref a0, .int p0, .int p1, .int p2] σ (f_X8_flushInNow a0 p0 p1 p2 σ) := by
  refine Ct.of hl (by decide +kernel) (Nat.le_of_ble_eq_true rfl) (fun C hC hin => ?_)
  have e : lv_args 0 [.ref a0, .int p0, .int p1, .int p2] = [(0, .ref a0), (1, .int p0), (2, .int p1), (3, .int p2)] := rfl
  rw [e]
  exact t_X8_flushInNow_0 hC a0 p0 p1 p2 σ 0 0 ⟨Nat.le_of_ble_eq_true rfl, Nat.le_of_ble_eq_true rfl⟩

noncomputable def b_X8_flushIn_37 (y37_0 : Int32) (σ : Mem) : Option ((Int32) × Mem) :=
some (y37_0, σ)

noncomputable def b_X8_flushIn_26 (σ : Mem) : Option ((Int32) × Mem) :=
b_X8_flushIn_37 0 σ

noncomputable def b_X8_flushIn_0 (a0 : Nat) (p0 : Int32) (p1 : Int32) (p2 : Int32) (σ : Mem) : Option ((Int32) × Mem) :=
ob 10 σ (some a0) fun h3 => cl1 (f_X8_isNoSection h3 p0 σ) fun v1 σ2 =>
ob 10 σ2 (some a0) fun h6 => cl1 (f_X8_start h6 v1 1 σ2) fun v4 σ5 =>
if v4 = 0 then
cl1 (f_X8_isNoWeather p1 p2 σ5) fun v7 σ8 =>
ob 10 σ8 (some a0) fun h11 => cl1 (f_X8_refuse h11 v7 2 σ8) fun v9 σ10 =>
if v9 = 0 then
ob 10 σ10 (some a0) fun h14 => cl1 (f_X8_flushInNow h14 p0 p1 p2 σ10) fun v12 σ13 =>
b_X8_flushIn_37 v12 σ13
else
b_X8_flushIn_26 σ10
else
b_X8_flushIn_26 σ5

noncomputable def f_X8_flushIn (a0 : Nat) (p0 : Int32) (p1 : Int32) (p2 : Int32) (σ : Mem) : Option ((Int32) × Mem) := b_X8_flushIn_0 a0 p0 p1 p2 σ
set_option maxRecDepth 100000 in
set_option maxHeartbeats 4000000 in
theorem t_X8_flushIn_37 {C : Cxt} {G : Glb} (hC : CX C G RX8 cX8_flushIn 4 (some .int) 4 2 12 89) (y37_0 : Int32) (σ : Mem) (kc ks : Nat) (hN : kc + 0 ≤ 2 ∧ ks + 0 ≤ 12) : Wo C G 4 (QP C G rvI 2 12) (b_X8_flushIn_37  y37_0 σ) σ kc ks 37 [] [.int y37_0] := by
  unfold b_X8_flushIn_37
  exact e_I hC ⟨by omega, by omega⟩ dX8_flushIn_37

set_option maxRecDepth 100000 in
set_option maxHeartbeats 4000000 in
theorem t_X8_flushIn_26 {C : Cxt} {G : Glb} (hC : CX C G RX8 cX8_flushIn 4 (some .int) 4 2 12 89) (σ : Mem) (kc ks : Nat) (hN : kc + 0 ≤ 2 ∧ ks + 0 ≤ 12) : Wo C G 4 (QP C G rvI 2 12) (b_X8_flushIn_26   σ) σ kc ks 26 [] [] := by
  unfold b_X8_flushIn_26
  refine r_iconst hC (0) rfl dX8_flushIn_26 ?_
  refine r_goto hC 37 dX8_flushIn_27 (by decide) ?_
  exact t_X8_flushIn_37 hC 0 σ _ _ ⟨by omega, by omega⟩

set_option maxRecDepth 100000 in
set_option maxHeartbeats 4000000 in
theorem t_X8_flushIn_0 {C : Cxt} {G : Glb} (hC : CX C G RX8 cX8_flushIn 4 (some .int) 4 2 12 89) (a0 : Nat) (p0 : Int32) (p1 : Int32) (p2 : Int32) (σ : Mem) (kc ks : Nat) (hN : kc + 2 ≤ 2 ∧ ks + 12 ≤ 12) : Wo C G 4 (QP C G rvI 2 12) (b_X8_flushIn_0  a0 p0 p1 p2 σ) σ kc ks 0 [(0, va_rf (some a0)), (1, .int p0), (2, .int p1), (3, .int p2)] [] := by
  unfold b_X8_flushIn_0
  refine r_aloadn hC 0 (r := (some a0)) rfl rfl dX8_flushIn_0 ?_
  refine r_aloadn hC 0 (r := (some a0)) rfl rfl dX8_flushIn_1 ?_
  refine r_iloadn hC 1 rfl rfl dX8_flushIn_2 ?_
  refine call_V hC (av := [.int p0]) (st := [va_rf (some a0)]) (r := (some a0)) (ci := 10) rfl rfl (fun h9 => ct_X8_isNoSection hC.hl G h9 p0 σ) q_1053 q_1055 q_18 q_44 q_1056 yd_X8_isNoSection rfl ⟨Nat.le_of_ble_eq_true rfl, Nat.le_of_ble_eq_true rfl⟩ ⟨by omega, by omega⟩ rfl (by simp [cat_rf, cat_i, cat_j, cat_d, cat_a]) dX8_flushIn_3 (fun v1 σ2 => ?_)
  show Wo _ _ _ _ _ _ _ _ _ _ [.int v1, va_rf (some a0)]
  refine r_iconst hC (1) rfl dX8_flushIn_6 ?_
  refine call_V hC (av := [.int v1, .int 1]) (st := []) (r := (some a0)) (ci := 10) rfl rfl (fun h9 => ct_X8_start hC.hl G h9 v1 1 σ2) q_882 q_884 q_12 q_44 q_885 yd_X8_start rfl ⟨Nat.le_of_ble_eq_true rfl, Nat.le_of_ble_eq_true rfl⟩ ⟨by omega, by omega⟩ rfl (Nat.le_of_ble_eq_true rfl) dX8_flushIn_7 (fun v4 σ5 => ?_)
  show Wo _ _ _ _ _ _ _ _ _ _ [.int v4]
  refine r_if_ne hC 26 dX8_flushIn_10 (by decide) ?_ ?_
  · refine Wo.sub [] rfl ?_
    exact t_X8_flushIn_26 hC  σ5 _ _ ⟨by omega, by omega⟩
  · refine r_aloadn hC 0 (r := (some a0)) rfl rfl dX8_flushIn_13 ?_
    refine r_iloadn hC 2 rfl rfl dX8_flushIn_14 ?_
    refine r_iloadn hC 3 rfl rfl dX8_flushIn_15 ?_
    refine call_S hC (av := [.int p1, .int p2]) (st := [va_rf (some a0)]) (ct_X8_isNoWeather hC.hl G p1 p2 σ5) q_990 q_991 q_44 q_992 yd_X8_isNoWeather rfl ⟨Nat.le_of_ble_eq_true rfl, Nat.le_of_ble_eq_true rfl⟩ ⟨by omega, by omega⟩ rfl (by simp [cat_rf, cat_i, cat_j, cat_d, cat_a]) dX8_flushIn_16 (fun v7 σ8 => ?_)
    show Wo _ _ _ _ _ _ _ _ _ _ [.int v7, va_rf (some a0)]
    refine r_iconst hC (2) rfl dX8_flushIn_19 ?_
    refine call_V hC (av := [.int v7, .int 2]) (st := []) (r := (some a0)) (ci := 10) rfl rfl (fun h9 => ct_X8_refuse hC.hl G h9 v7 2 σ8) q_886 q_888 q_13 q_44 q_889 yd_X8_refuse rfl ⟨Nat.le_of_ble_eq_true rfl, Nat.le_of_ble_eq_true rfl⟩ ⟨by omega, by omega⟩ rfl (Nat.le_of_ble_eq_true rfl) dX8_flushIn_20 (fun v9 σ10 => ?_)
    show Wo _ _ _ _ _ _ _ _ _ _ [.int v9]
    refine r_if_eq hC 30 dX8_flushIn_23 (by decide) ?_ ?_
    · refine r_aloadn hC 0 (r := (some a0)) rfl rfl dX8_flushIn_30 ?_
      refine r_iloadn hC 1 rfl rfl dX8_flushIn_31 ?_
      refine r_iloadn hC 2 rfl rfl dX8_flushIn_32 ?_
      refine r_iloadn hC 3 rfl rfl dX8_flushIn_33 ?_
      refine call_V hC (av := [.int p0, .int p1, .int p2]) (st := []) (r := (some a0)) (ci := 10) rfl rfl (fun h9 => ct_X8_flushInNow hC.hl G h9 p0 p1 p2 σ10) q_1407 q_1409 q_33 q_44 q_1410 yd_X8_flushInNow rfl ⟨Nat.le_of_ble_eq_true rfl, Nat.le_of_ble_eq_true rfl⟩ ⟨by omega, by omega⟩ rfl (Nat.le_of_ble_eq_true rfl) dX8_flushIn_34 (fun v12 σ13 => ?_)
      show Wo _ _ _ _ _ _ _ _ _ _ [.int v12]
      refine Wo.sub [] rfl ?_
      exact t_X8_flushIn_37 hC v12 σ13 _ _ ⟨by omega, by omega⟩
    · refine Wo.sub [] rfl ?_
      exact t_X8_flushIn_26 hC  σ10 _ _ ⟨by omega, by omega⟩

set_option maxRecDepth 100000 in
set_option maxHeartbeats 4000000 in
theorem ct_X8_flushIn {l : Launch} (hl : l.stackTraces = false) (G : Glb) (a0 : Nat) (p0 : Int32) (p1 : Int32) (p2 : Int32) (σ : Mem) : Ct rvI l yX8_flushIn (Cond.code yX8_flushIn cX8_flushIn 4 (some .int) :: uW) { frames := 4, cells := 2, slots := 12, locals := 89 } 2 12 G [.ref a0, .int p0, .int p1, .int p2] σ (f_X8_flushIn a0 p0 p1 p2 σ) := by
  refine Ct.of hl (by decide +kernel) (Nat.le_of_ble_eq_true rfl) (fun C hC hin => ?_)
  have e : lv_args 0 [.ref a0, .int p0, .int p1, .int p2] = [(0, .ref a0), (1, .int p0), (2, .int p1), (3, .int p2)] := rfl
  rw [e]
  exact t_X8_flushIn_0 hC a0 p0 p1 p2 σ 0 0 ⟨Nat.le_of_ble_eq_true rfl, Nat.le_of_ble_eq_true rfl⟩

noncomputable def b_X8_bestFireNow_81 (e0 mi : Nat) (k7 : Nat → Int32 → Int32 → Int32 → Int32 → Mem → Option ((Int32) × Mem)) (k32 : Nat → Int32 → Int32 → Int32 → Int32 → (Option Nat) → Int32 → Mem → Option ((Int32) × Mem)) (a0 : Nat) (x81_1 : Int32) (x81_2 : Int32) (x81_3 : Int32) (x81_4 : Int32) (x81_5 : (Option Nat)) (x81_6 : Int32) (σ : Mem) : Option ((Int32) × Mem) :=
nm (x81_6 + 1) fun v15 =>
k32 a0 x81_1 x81_2 x81_3 x81_4 x81_5 v15 σ

noncomputable def b_X8_bestFireNow_32 (e0 mi : Nat) (k7 : Nat → Int32 → Int32 → Int32 → Int32 → Mem → Option ((Int32) × Mem)) (k32 : Nat → Int32 → Int32 → Int32 → Int32 → (Option Nat) → Int32 → Mem → Option ((Int32) × Mem)) (a0 : Nat) (x32_1 : Int32) (x32_2 : Int32) (x32_3 : Int32) (x32_4 : Int32) (x32_5 : (Option Nat)) (x32_6 : Int32) (σ : Mem) : Option ((Int32) × Mem) :=
if 30 < x32_6 then
nm (x32_4 + 1) fun v8 =>
k7 a0 x32_1 x32_2 x32_3 v8 σ
else
ob 7 σ x32_5 fun h11 => cl1 (f_X5_fire h11 x32_4 σ) fun u9 σ10 =>
ob 7 σ10 x32_5 fun h14 => cl1 (f_X5_isDryEnough h14 σ10) fun v12 σ13 =>
if v12 = 0 then
b_X8_bestFireNow_81 e0 mi k7 k32 a0 x32_1 x32_2 x32_3 x32_4 x32_5 x32_6 σ13
else
ob 7 σ13 x32_5 fun h18 => cl1 (f_X5_sum h18 σ13) fun v16 σ17 =>
if x32_3 < v16 then
ob 7 σ17 x32_5 fun h21 => cl1 (f_X5_sum h21 σ17) fun v19 σ20 =>
nm (100 * x32_4) fun v22 =>
nm (v22 + x32_6) fun v23 =>
b_X8_bestFireNow_81 e0 mi k7 k32 a0 x32_1 v23 v19 x32_4 x32_5 x32_6 σ20
else
b_X8_bestFireNow_81 e0 mi k7 k32 a0 x32_1 x32_2 x32_3 x32_4 x32_5 x32_6 σ17

noncomputable def l_X8_bestFireNow_32 (e0 mi : Nat) (k7 : Nat → Int32 → Int32 → Int32 → Int32 → Mem → Option ((Int32) × Mem)) (n : Nat) : Nat → Int32 → Int32 → Int32 → Int32 → (Option Nat) → Int32 → Mem → Option ((Int32) × Mem) := itr (fun _ _ _ _ _ _ _ _ => none) (fun k => b_X8_bestFireNow_32 e0 mi k7 k) n

noncomputable def b_X8_bestFireNow_7 (e0 mi : Nat) (k7 : Nat → Int32 → Int32 → Int32 → Int32 → Mem → Option ((Int32) × Mem)) (a0 : Nat) (x7_1 : Int32) (x7_2 : Int32) (x7_3 : Int32) (x7_4 : Int32) (σ : Mem) : Option ((Int32) × Mem) :=
if 5 < x7_4 then
some (x7_2, σ)
else
gR 10 7 σ (some a0) fun r1 =>
ob 1 σ r1 fun h4 => cl1 (f_Jx4a65c_get_915e3 h4 x7_1 σ) fun r2 σ3 =>
ck 8 σ3 r2 <|
ob 7 σ3 r2 fun h7 => cl1 (f_X5_copy e0 mi h7 σ3) fun r5 σ6 =>
l_X8_bestFireNow_32 e0 mi k7 31 a0 x7_1 x7_2 x7_3 x7_4 r5 1 σ6

noncomputable def l_X8_bestFireNow_7 (e0 mi : Nat) (n : Nat) : Nat → Int32 → Int32 → Int32 → Int32 → Mem → Option ((Int32) × Mem) := itr (fun _ _ _ _ _ _ => none) (fun k => b_X8_bestFireNow_7 e0 mi  k) n

noncomputable def b_X8_bestFireNow_0 (e0 mi : Nat) (a0 : Nat) (p0 : Int32) (σ : Mem) : Option ((Int32) × Mem) :=
l_X8_bestFireNow_7 e0 mi 6 a0 p0 (-1) (-1) 1 σ

noncomputable def f_X8_bestFireNow (e0 mi : Nat) (a0 : Nat) (p0 : Int32) (σ : Mem) : Option ((Int32) × Mem) := b_X8_bestFireNow_0 e0 mi a0 p0 σ
set_option maxRecDepth 100000 in
set_option maxHeartbeats 4000000 in
theorem t_X8_bestFireNow_81 {C : Cxt} {G : Glb} (hC : CX C G RX8 cX8_bestFireNow 7 (some .int) 7 18 132 134) (P7 : Nat → Nat → Prop) (hm7 : ∀ a b a2 b2 : Nat, a ≤ a2 → b ≤ b2 → P7 a2 b2 → P7 a b) (k7 : Nat → Int32 → Int32 → Int32 → Int32 → Mem → Option ((Int32) × Mem)) (hk7 : ∀ (a0 : Nat) (x7_1 : Int32) (x7_2 : Int32) (x7_3 : Int32) (x7_4 : Int32) (σ : Mem) (kc ks : Nat), P7 kc ks → Wo C G 7 (QP C G rvI 18 132) (k7 a0 x7_1 x7_2 x7_3 x7_4 σ) σ kc ks 7 [(0, va_rf (some a0)), (1, .int x7_1), (2, .int x7_2), (3, .int x7_3), (4, .int x7_4)] []) (P32 : Nat → Nat → Prop) (hm32 : ∀ a b a2 b2 : Nat, a ≤ a2 → b ≤ b2 → P32 a2 b2 → P32 a b) (k32 : Nat → Int32 → Int32 → Int32 → Int32 → (Option Nat) → Int32 → Mem → Option ((Int32) × Mem)) (hk32 : ∀ (a0 : Nat) (x32_1 : Int32) (x32_2 : Int32) (x32_3 : Int32) (x32_4 : Int32) (x32_5 : (Option Nat)) (x32_6 : Int32) (σ : Mem) (kc ks : Nat), P32 kc ks → Wo C G 7 (QP C G rvI 18 132) (k32 a0 x32_1 x32_2 x32_3 x32_4 x32_5 x32_6 σ) σ kc ks 32 [(0, va_rf (some a0)), (1, .int x32_1), (2, .int x32_2), (3, .int x32_3), (4, .int x32_4), (5, va_rf x32_5), (6, .int x32_6)] []) (a0 : Nat) (x81_1 : Int32) (x81_2 : Int32) (x81_3 : Int32) (x81_4 : Int32) (x81_5 : (Option Nat)) (x81_6 : Int32) (σ : Mem) (kc ks : Nat) (hN : kc + 0 ≤ 18 ∧ ks + 0 ≤ 132) (hP7 : P7 (kc + 0) (ks + 0)) (hP32 : P32 (kc + 0) (ks + 0)) : Wo C G 7 (QP C G rvI 18 132) (b_X8_bestFireNow_81 G.2.2.2.1 G.2.2.2.2 k7 k32 a0 x81_1 x81_2 x81_3 x81_4 x81_5 x81_6 σ) σ kc ks 81 [(0, va_rf (some a0)), (1, .int x81_1), (2, .int x81_2), (3, .int x81_3), (4, .int x81_4), (5, va_rf x81_5), (6, .int x81_6)] [] := by
  unfold b_X8_bestFireNow_81
  refine r_iinc hC 6 (fun w => [(6, .int w), (0, va_rf (some a0)), (1, .int x81_1), (2, .int x81_2), (3, .int x81_3), (4, .int x81_4), (5, va_rf x81_5)]) 1 rfl (by decide) rfl (fun w => by simp [List.filter, cat_rf, cat_i, cat_j, cat_d, cat_a]) dX8_bestFireNow_81 (fun v15 => ?_)
  refine r_goto hC 32 dX8_bestFireNow_84 (by decide) ?_
  refine Wo.sub [1, 2, 3, 4, 5, 6, 0] rfl ?_
  exact hk32 a0 x81_1 x81_2 x81_3 x81_4 x81_5 v15 σ _ _ (hm32 _ _ _ _ (by omega) (by omega) hP32)

set_option maxRecDepth 100000 in
set_option maxHeartbeats 4000000 in
theorem t_X8_bestFireNow_32 {C : Cxt} {G : Glb} (hC : CX C G RX8 cX8_bestFireNow 7 (some .int) 7 18 132 134) (P7 : Nat → Nat → Prop) (hm7 : ∀ a b a2 b2 : Nat, a ≤ a2 → b ≤ b2 → P7 a2 b2 → P7 a b) (k7 : Nat → Int32 → Int32 → Int32 → Int32 → Mem → Option ((Int32) × Mem)) (hk7 : ∀ (a0 : Nat) (x7_1 : Int32) (x7_2 : Int32) (x7_3 : Int32) (x7_4 : Int32) (σ : Mem) (kc ks : Nat), P7 kc ks → Wo C G 7 (QP C G rvI 18 132) (k7 a0 x7_1 x7_2 x7_3 x7_4 σ) σ kc ks 7 [(0, va_rf (some a0)), (1, .int x7_1), (2, .int x7_2), (3, .int x7_3), (4, .int x7_4)] []) (P32 : Nat → Nat → Prop) (hm32 : ∀ a b a2 b2 : Nat, a ≤ a2 → b ≤ b2 → P32 a2 b2 → P32 a b) (k32 : Nat → Int32 → Int32 → Int32 → Int32 → (Option Nat) → Int32 → Mem → Option ((Int32) × Mem)) (hk32 : ∀ (a0 : Nat) (x32_1 : Int32) (x32_2 : Int32) (x32_3 : Int32) (x32_4 : Int32) (x32_5 : (Option Nat)) (x32_6 : Int32) (σ : Mem) (kc ks : Nat), P32 kc ks → Wo C G 7 (QP C G rvI 18 132) (k32 a0 x32_1 x32_2 x32_3 x32_4 x32_5 x32_6 σ) σ kc ks 32 [(0, va_rf (some a0)), (1, .int x32_1), (2, .int x32_2), (3, .int x32_3), (4, .int x32_4), (5, va_rf x32_5), (6, .int x32_6)] []) (a0 : Nat) (x32_1 : Int32) (x32_2 : Int32) (x32_3 : Int32) (x32_4 : Int32) (x32_5 : (Option Nat)) (x32_6 : Int32) (σ : Mem) (kc ks : Nat) (hN : kc + 0 ≤ 18 ∧ ks + 0 ≤ 132) (hP7 : P7 (kc + 0) (ks + 0)) (hP32 : P32 (kc + 0) (ks + 0)) : Wo C G 7 (QP C G rvI 18 132) (b_X8_bestFireNow_32 G.2.2.2.1 G.2.2.2.2 k7 k32 a0 x32_1 x32_2 x32_3 x32_4 x32_5 x32_6 σ) σ kc ks 32 [(0, va_rf (some a0)), (1, .int x32_1), (2, .int x32_2), (3, .int x32_3), (4, .int x32_4), (5, va_rf x32_5), (6, .int x32_6)] [] := by
  unfold b_X8_bestFireNow_32
  refine r_iload hC 6 rfl dX8_bestFireNow_32 ?_
  refine r_bipush hC (30) (by decide) dX8_bestFireNow_34 ?_
  refine r_icmp_gt hC 87 dX8_bestFireNow_36 (by decide) ?_ ?_
  · refine r_iinc hC 4 (fun w => [(4, .int w), (0, va_rf (some a0)), (1, .int x32_1), (2, .int x32_2), (3, .int x32_3), (5, va_rf x32_5), (6, .int x32_6)]) 1 rfl (by decide) rfl (fun w => rfl) dX8_bestFireNow_87 (fun v8 => ?_)
    refine r_goto hC 7 dX8_bestFireNow_90 (by decide) ?_
    refine Wo.sub [1, 2, 3, 4, 0] rfl ?_
    exact hk7 a0 x32_1 x32_2 x32_3 v8 σ _ _ (hm7 _ _ _ _ (by omega) (by omega) hP7)
  · refine r_aload hC 5 (r := x32_5) rfl dX8_bestFireNow_39 ?_
    refine r_iload hC 4 rfl dX8_bestFireNow_41 ?_
    refine call_V hC (av := [.int x32_4]) (st := []) (r := x32_5) (ci := 7) rfl rfl (fun h9 => ct_X5_fire hC.hl G h9 x32_4 σ) q_1207 q_1208 q_1209 q_63 q_1210 yd_X5_fire rfl ⟨Nat.le_of_ble_eq_true rfl, Nat.le_of_ble_eq_true rfl⟩ ⟨by omega, by omega⟩ rfl (Nat.le_of_ble_eq_true rfl) dX8_bestFireNow_43 (fun u9 σ10 => ?_)
    show Wo _ _ _ _ _ _ _ _ _ _ []
    refine r_aload hC 5 (r := x32_5) rfl dX8_bestFireNow_46 ?_
    refine call_V hC (av := []) (st := []) (r := x32_5) (ci := 7) rfl rfl (fun h9 => ct_X5_isDryEnough hC.hl G h9 σ10) q_1432 q_1216 q_1217 q_63 q_1218 yd_X5_isDryEnough rfl ⟨Nat.le_of_ble_eq_true rfl, Nat.le_of_ble_eq_true rfl⟩ ⟨by omega, by omega⟩ rfl (Nat.le_of_ble_eq_true rfl) dX8_bestFireNow_48 (fun v12 σ13 => ?_)
    show Wo _ _ _ _ _ _ _ _ _ _ [.int v12]
    refine r_if_eq hC 81 dX8_bestFireNow_51 (by decide) ?_ ?_
    · exact t_X8_bestFireNow_81 hC P7 hm7 k7 hk7 P32 hm32 k32 hk32 a0 x32_1 x32_2 x32_3 x32_4 x32_5 x32_6 σ13 _ _ ⟨by omega, by omega⟩ (hm7 _ _ _ _ (by omega) (by omega) hP7) (hm32 _ _ _ _ (by omega) (by omega) hP32)
    · refine r_aload hC 5 (r := x32_5) rfl dX8_bestFireNow_54 ?_
      refine call_V hC (av := []) (st := []) (r := x32_5) (ci := 7) rfl rfl (fun h9 => ct_X5_sum hC.hl G h9 σ13) q_1398 q_1399 q_1400 q_63 q_1401 yd_X5_sum rfl ⟨Nat.le_of_ble_eq_true rfl, Nat.le_of_ble_eq_true rfl⟩ ⟨by omega, by omega⟩ rfl (Nat.le_of_ble_eq_true rfl) dX8_bestFireNow_56 (fun v16 σ17 => ?_)
      show Wo _ _ _ _ _ _ _ _ _ _ [.int v16]
      refine r_iloadn hC 3 rfl rfl dX8_bestFireNow_59 ?_
      refine r_icmp_gt hC 66 dX8_bestFireNow_60 (by decide) ?_ ?_
      · refine r_aload hC 5 (r := x32_5) rfl dX8_bestFireNow_66 ?_
        refine call_V hC (av := []) (st := []) (r := x32_5) (ci := 7) rfl rfl (fun h9 => ct_X5_sum hC.hl G h9 σ17) q_1398 q_1399 q_1400 q_63 q_1401 yd_X5_sum rfl ⟨Nat.le_of_ble_eq_true rfl, Nat.le_of_ble_eq_true rfl⟩ ⟨by omega, by omega⟩ rfl (Nat.le_of_ble_eq_true rfl) dX8_bestFireNow_68 (fun v19 σ20 => ?_)
        show Wo _ _ _ _ _ _ _ _ _ _ [.int v19]
        refine r_istoren hC [(3, .int v19), (0, va_rf (some a0)), (1, .int x32_1), (2, .int x32_2), (4, .int x32_4), (5, va_rf x32_5), (6, .int x32_6)] (i := 3) rfl (by decide) rfl dX8_bestFireNow_71 ?_
        refine r_bipush hC (100) (by decide) dX8_bestFireNow_72 ?_
        refine r_iload hC 4 rfl dX8_bestFireNow_74 ?_
        refine r_imul hC dX8_bestFireNow_76 (fun v22 => ?_)
        refine r_iload hC 6 rfl dX8_bestFireNow_77 ?_
        refine r_iadd hC dX8_bestFireNow_79 (fun v23 => ?_)
        refine r_istoren hC [(2, .int v23), (3, .int v19), (0, va_rf (some a0)), (1, .int x32_1), (4, .int x32_4), (5, va_rf x32_5), (6, .int x32_6)] (i := 2) rfl (by decide) rfl dX8_bestFireNow_80 ?_
        refine Wo.sub [2, 3, 0, 1, 4, 5, 6] rfl ?_
        exact t_X8_bestFireNow_81 hC P7 hm7 k7 hk7 P32 hm32 k32 hk32 a0 x32_1 v23 v19 x32_4 x32_5 x32_6 σ20 _ _ ⟨by omega, by omega⟩ (hm7 _ _ _ _ (by omega) (by omega) hP7) (hm32 _ _ _ _ (by omega) (by omega) hP32)
      · refine r_goto hC 81 dX8_bestFireNow_63 (by decide) ?_
        exact t_X8_bestFireNow_81 hC P7 hm7 k7 hk7 P32 hm32 k32 hk32 a0 x32_1 x32_2 x32_3 x32_4 x32_5 x32_6 σ17 _ _ ⟨by omega, by omega⟩ (hm7 _ _ _ _ (by omega) (by omega) hP7) (hm32 _ _ _ _ (by omega) (by omega) hP32)

set_option maxRecDepth 100000 in
set_option maxHeartbeats 4000000 in
theorem u_X8_bestFireNow_32 {C : Cxt} {G : Glb} (hC : CX C G RX8 cX8_bestFireNow 7 (some .int) 7 18 132 134) (P7 : Nat → Nat → Prop) (hm7 : ∀ a b a2 b2 : Nat, a ≤ a2 → b ≤ b2 → P7 a2 b2 → P7 a b) (k7 : Nat → Int32 → Int32 → Int32 → Int32 → Mem → Option ((Int32) × Mem)) (hk7 : ∀ (a0 : Nat) (x7_1 : Int32) (x7_2 : Int32) (x7_3 : Int32) (x7_4 : Int32) (σ : Mem) (kc ks : Nat), P7 kc ks → Wo C G 7 (QP C G rvI 18 132) (k7 a0 x7_1 x7_2 x7_3 x7_4 σ) σ kc ks 7 [(0, va_rf (some a0)), (1, .int x7_1), (2, .int x7_2), (3, .int x7_3), (4, .int x7_4)] []) : ∀ (n : Nat) (a0 : Nat) (x32_1 : Int32) (x32_2 : Int32) (x32_3 : Int32) (x32_4 : Int32) (x32_5 : (Option Nat)) (x32_6 : Int32) (σ : Mem) (kc ks : Nat), (∀ m, n = m + 1 → (kc + m * 0 + 0 ≤ 18 ∧ ks + m * 0 + 0 ≤ 132) ∧ P7 (kc + m * 0 + 0) (ks + m * 0 + 0)) → Wo C G 7 (QP C G rvI 18 132) (l_X8_bestFireNow_32 G.2.2.2.1 G.2.2.2.2 k7 n a0 x32_1 x32_2 x32_3 x32_4 x32_5 x32_6 σ) σ kc ks 32 [(0, va_rf (some a0)), (1, .int x32_1), (2, .int x32_2), (3, .int x32_3), (4, .int x32_4), (5, va_rf x32_5), (6, .int x32_6)] [] := by
  intro n
  induction n with
  | zero => intro a0 x32_1 x32_2 x32_3 x32_4 x32_5 x32_6 σ kc ks h0; exact Wo.none
  | succ n ih =>
    intro a0 x32_1 x32_2 x32_3 x32_4 x32_5 x32_6 σ kc ks h0
    exact t_X8_bestFireNow_32 hC P7 hm7 k7 hk7 (fun kc ks => (∀ m, n = m + 1 → (kc + m * 0 + 0 ≤ 18 ∧ ks + m * 0 + 0 ≤ 132) ∧ P7 (kc + m * 0 + 0) (ks + m * 0 + 0))) (fun a b a2 b2 h1 h2 h m e => ⟨⟨by have := (h m e).1.1; omega, by have := (h m e).1.2; omega⟩, hm7 _ _ _ _ (by omega) (by omega) (h m e).2⟩) (l_X8_bestFireNow_32 G.2.2.2.1 G.2.2.2.2 k7 n) ih a0 x32_1 x32_2 x32_3 x32_4 x32_5 x32_6 σ kc ks ⟨by have := (h0 n rfl).1.1; omega, by have := (h0 n rfl).1.2; omega⟩ (hm7 _ _ _ _ (by omega) (by omega) (h0 n rfl).2) (fun m e => by
      subst e
      exact ⟨⟨by have := (h0 _ rfl).1.1; omega, by have := (h0 _ rfl).1.2; omega⟩, hm7 _ _ _ _ (by omega) (by omega) (h0 _ rfl).2⟩)

set_option maxRecDepth 100000 in
set_option maxHeartbeats 4000000 in
theorem t_X8_bestFireNow_7 {C : Cxt} {G : Glb} (hC : CX C G RX8 cX8_bestFireNow 7 (some .int) 7 18 132 134) (P7 : Nat → Nat → Prop) (hm7 : ∀ a b a2 b2 : Nat, a ≤ a2 → b ≤ b2 → P7 a2 b2 → P7 a b) (k7 : Nat → Int32 → Int32 → Int32 → Int32 → Mem → Option ((Int32) × Mem)) (hk7 : ∀ (a0 : Nat) (x7_1 : Int32) (x7_2 : Int32) (x7_3 : Int32) (x7_4 : Int32) (σ : Mem) (kc ks : Nat), P7 kc ks → Wo C G 7 (QP C G rvI 18 132) (k7 a0 x7_1 x7_2 x7_3 x7_4 σ) σ kc ks 7 [(0, va_rf (some a0)), (1, .int x7_1), (2, .int x7_2), (3, .int x7_3), (4, .int x7_4)] []) (a0 : Nat) (x7_1 : Int32) (x7_2 : Int32) (x7_3 : Int32) (x7_4 : Int32) (σ : Mem) (kc ks : Nat) (hN : kc + 3 ≤ 18 ∧ ks + 22 ≤ 132) (hP7 : P7 (kc + 3) (ks + 22)) : Wo C G 7 (QP C G rvI 18 132) (b_X8_bestFireNow_7 G.2.2.2.1 G.2.2.2.2 k7 a0 x7_1 x7_2 x7_3 x7_4 σ) σ kc ks 7 [(0, va_rf (some a0)), (1, .int x7_1), (2, .int x7_2), (3, .int x7_3), (4, .int x7_4)] [] := by
  unfold b_X8_bestFireNow_7
  refine r_iload hC 4 rfl dX8_bestFireNow_7 ?_
  refine r_iconst hC (5) rfl dX8_bestFireNow_9 ?_
  refine r_icmp_gt hC 93 dX8_bestFireNow_10 (by decide) ?_ ?_
  · refine r_iloadn hC 2 rfl rfl dX8_bestFireNow_93 ?_
    exact e_I hC ⟨by omega, by omega⟩ dX8_bestFireNow_94
  · refine r_aloadn hC 0 (r := (some a0)) rfl rfl dX8_bestFireNow_13 ?_
    refine r_gR hC (k := 7) (r := (some a0)) cls_10 (by decide) rfl q_847 (Or.inl rfl) dX8_bestFireNow_14 (fun r1 => ?_)
    refine r_iloadn hC 1 rfl rfl dX8_bestFireNow_17 ?_
    refine call_V hC (av := [.int x7_1]) (st := []) (r := r1) (ci := 1) rfl rfl (fun h9 => ct_Jx4a65c_get_915e3 hC.hl G h9 x7_1 σ) q_1057 q_1058 q_1059 q_47 q_1060 yd_Jx4a65c_get_915e3 rfl ⟨Nat.le_of_ble_eq_true rfl, Nat.le_of_ble_eq_true rfl⟩ ⟨by omega, by omega⟩ rfl (Nat.le_of_ble_eq_true rfl) dX8_bestFireNow_18 (fun r2 σ3 => ?_)
    show Wo _ _ _ _ _ _ _ _ _ _ [va_rf r2]
    refine r_ckO hC (r := r2) cls_7 q_1087 dX8_bestFireNow_21 ?_
    refine call_V hC (av := []) (st := []) (r := r2) (ci := 7) rfl rfl (fun h9 => ct_X5_copy hC.hl G h9 σ3) q_1426 q_1427 q_1428 q_63 q_1429 yd_X5_copy rfl ⟨Nat.le_of_ble_eq_true rfl, Nat.le_of_ble_eq_true rfl⟩ ⟨by omega, by omega⟩ rfl (Nat.le_of_ble_eq_true rfl) dX8_bestFireNow_24 (fun r5 σ6 => ?_)
    show Wo _ _ _ _ _ _ _ _ _ _ [va_rf r5]
    refine r_astore hC [(5, va_rf r5), (0, va_rf (some a0)), (1, .int x7_1), (2, .int x7_2), (3, .int x7_3), (4, .int x7_4)] (r := r5) (i := 5) (by decide) rfl dX8_bestFireNow_27 ?_
    refine r_iconst hC (1) rfl dX8_bestFireNow_29 ?_
    refine r_istore hC [(6, .int 1), (5, va_rf r5), (0, va_rf (some a0)), (1, .int x7_1), (2, .int x7_2), (3, .int x7_3), (4, .int x7_4)] (i := 6) (by decide) (by simp [List.filter, cat_rf, cat_i, cat_j, cat_d, cat_a]) dX8_bestFireNow_30 ?_
    refine Wo.sub [2, 3, 4, 5, 6, 1, 0] rfl ?_
    exact u_X8_bestFireNow_32 hC P7 hm7 k7 hk7 31 a0 x7_1 x7_2 x7_3 x7_4 r5 1 σ6 _ _ (fun m e => by cases e; exact ⟨⟨by omega, by omega⟩, hm7 _ _ _ _ (by omega) (by omega) hP7⟩)

set_option maxRecDepth 100000 in
set_option maxHeartbeats 4000000 in
theorem u_X8_bestFireNow_7 {C : Cxt} {G : Glb} (hC : CX C G RX8 cX8_bestFireNow 7 (some .int) 7 18 132 134) : ∀ (n : Nat) (a0 : Nat) (x7_1 : Int32) (x7_2 : Int32) (x7_3 : Int32) (x7_4 : Int32) (σ : Mem) (kc ks : Nat), (∀ m, n = m + 1 → (kc + m * 3 + 3 ≤ 18 ∧ ks + m * 22 + 22 ≤ 132)) → Wo C G 7 (QP C G rvI 18 132) (l_X8_bestFireNow_7 G.2.2.2.1 G.2.2.2.2  n a0 x7_1 x7_2 x7_3 x7_4 σ) σ kc ks 7 [(0, va_rf (some a0)), (1, .int x7_1), (2, .int x7_2), (3, .int x7_3), (4, .int x7_4)] [] := by
  intro n
  induction n with
  | zero => intro a0 x7_1 x7_2 x7_3 x7_4 σ kc ks h0; exact Wo.none
  | succ n ih =>
    intro a0 x7_1 x7_2 x7_3 x7_4 σ kc ks h0
    exact t_X8_bestFireNow_7 hC (fun kc ks => (∀ m, n = m + 1 → (kc + m * 3 + 3 ≤ 18 ∧ ks + m * 22 + 22 ≤ 132))) (fun a b a2 b2 h1 h2 h m e => ⟨by have := (h m e).1; omega, by have := (h m e).2; omega⟩) (l_X8_bestFireNow_7 G.2.2.2.1 G.2.2.2.2  n) ih a0 x7_1 x7_2 x7_3 x7_4 σ kc ks ⟨by have := (h0 n rfl).1; omega, by have := (h0 n rfl).2; omega⟩ (fun m e => by
      subst e
      exact ⟨by have := (h0 _ rfl).1; omega, by have := (h0 _ rfl).2; omega⟩)

set_option maxRecDepth 100000 in
set_option maxHeartbeats 4000000 in
theorem t_X8_bestFireNow_0 {C : Cxt} {G : Glb} (hC : CX C G RX8 cX8_bestFireNow 7 (some .int) 7 18 132 134) (a0 : Nat) (p0 : Int32) (σ : Mem) (kc ks : Nat) (hN : kc + 18 ≤ 18 ∧ ks + 132 ≤ 132) : Wo C G 7 (QP C G rvI 18 132) (b_X8_bestFireNow_0 G.2.2.2.1 G.2.2.2.2  a0 p0 σ) σ kc ks 0 [(0, va_rf (some a0)), (1, .int p0)] [] := by
  unfold b_X8_bestFireNow_0
  refine r_iconst hC (-1) rfl dX8_bestFireNow_0 ?_
  refine r_istoren hC [(2, .int (-1)), (0, va_rf (some a0)), (1, .int p0)] (i := 2) rfl (by decide) rfl dX8_bestFireNow_1 ?_
  refine r_iconst hC (-1) rfl dX8_bestFireNow_2 ?_
  refine r_istoren hC [(3, .int (-1)), (2, .int (-1)), (0, va_rf (some a0)), (1, .int p0)] (i := 3) rfl (by decide) rfl dX8_bestFireNow_3 ?_
  refine r_iconst hC (1) rfl dX8_bestFireNow_4 ?_
  refine r_istore hC [(4, .int 1), (3, .int (-1)), (2, .int (-1)), (0, va_rf (some a0)), (1, .int p0)] (i := 4) (by decide) rfl dX8_bestFireNow_5 ?_
  refine Wo.sub [3, 4, 2, 1, 0] rfl ?_
  exact u_X8_bestFireNow_7 hC 6 a0 p0 (-1) (-1) 1 σ _ _ (fun m e => by cases e; exact ⟨by omega, by omega⟩)

set_option maxRecDepth 100000 in
set_option maxHeartbeats 4000000 in
theorem ct_X8_bestFireNow {l : Launch} (hl : l.stackTraces = false) (G : Glb) (a0 : Nat) (p0 : Int32) (σ : Mem) : Ct rvI l yX8_bestFireNow (Cond.code yX8_bestFireNow cX8_bestFireNow 7 (some .int) :: uW) { frames := 7, cells := 18, slots := 132, locals := 134 } 18 132 G [.ref a0, .int p0] σ (f_X8_bestFireNow G.2.2.2.1 G.2.2.2.2 a0 p0 σ) := by
  refine Ct.of hl (by decide +kernel) (Nat.le_of_ble_eq_true rfl) (fun C hC hin => ?_)
  have e : lv_args 0 [.ref a0, .int p0] = [(0, .ref a0), (1, .int p0)] := rfl
  rw [e]
  exact t_X8_bestFireNow_0 hC a0 p0 σ 0 0 ⟨Nat.le_of_ble_eq_true rfl, Nat.le_of_ble_eq_true rfl⟩

noncomputable def b_X8_bestFire_44 (e0 mi : Nat) (y44_0 : Int32) (σ : Mem) : Option ((Int32) × Mem) :=
some (y44_0, σ)

noncomputable def b_X8_bestFire_35 (e0 mi : Nat) (σ : Mem) : Option ((Int32) × Mem) :=
b_X8_bestFire_44 e0 mi 0 σ

noncomputable def b_X8_bestFire_28 (e0 mi : Nat) (a0 : Nat) (x28_1 : Int32) (y28_0 : Int32) (y28_1 : (Option Nat)) (σ : Mem) : Option ((Int32) × Mem) :=
ob 10 σ y28_1 fun h12 => cl1 (f_X8_refuse h12 y28_0 2 σ) fun v10 σ11 =>
if v10 = 0 then
ob 10 σ11 (some a0) fun h15 => cl1 (f_X8_bestFireNow e0 mi h15 x28_1 σ11) fun v13 σ14 =>
b_X8_bestFire_44 e0 mi v13 σ14
else
b_X8_bestFire_35 e0 mi σ11

noncomputable def b_X8_bestFire_0 (e0 mi : Nat) (a0 : Nat) (p0 : Int32) (σ : Mem) : Option ((Int32) × Mem) :=
ob 10 σ (some a0) fun h3 => cl1 (f_X8_isNoLot h3 p0 σ) fun v1 σ2 =>
ob 10 σ2 (some a0) fun h6 => cl1 (f_X8_start h6 v1 1 σ2) fun v4 σ5 =>
if v4 = 0 then
ob 10 σ5 (some a0) fun h9 => cl1 (f_X8_isState h9 p0 1 σ5) fun v7 σ8 =>
if v7 = 0 then
b_X8_bestFire_28 e0 mi a0 p0 1 (some a0) σ8
else
b_X8_bestFire_28 e0 mi a0 p0 0 (some a0) σ8
else
b_X8_bestFire_35 e0 mi σ5

noncomputable def f_X8_bestFire (e0 mi : Nat) (a0 : Nat) (p0 : Int32) (σ : Mem) : Option ((Int32) × Mem) := b_X8_bestFire_0 e0 mi a0 p0 σ
set_option maxRecDepth 100000 in
set_option maxHeartbeats 4000000 in
theorem t_X8_bestFire_44 {C : Cxt} {G : Glb} (hC : CX C G RX8 cX8_bestFire 2 (some .int) 8 18 132 160) (y44_0 : Int32) (σ : Mem) (kc ks : Nat) (hN : kc + 0 ≤ 18 ∧ ks + 0 ≤ 132) : Wo C G 2 (QP C G rvI 18 132) (b_X8_bestFire_44 G.2.2.2.1 G.2.2.2.2  y44_0 σ) σ kc ks 44 [] [.int y44_0] := by
  unfold b_X8_bestFire_44
  exact e_I hC ⟨by omega, by omega⟩ dX8_bestFire_44

set_option maxRecDepth 100000 in
set_option maxHeartbeats 4000000 in
theorem t_X8_bestFire_35 {C : Cxt} {G : Glb} (hC : CX C G RX8 cX8_bestFire 2 (some .int) 8 18 132 160) (σ : Mem) (kc ks : Nat) (hN : kc + 0 ≤ 18 ∧ ks + 0 ≤ 132) : Wo C G 2 (QP C G rvI 18 132) (b_X8_bestFire_35 G.2.2.2.1 G.2.2.2.2   σ) σ kc ks 35 [] [] := by
  unfold b_X8_bestFire_35
  refine r_iconst hC (0) rfl dX8_bestFire_35 ?_
  refine r_goto hC 44 dX8_bestFire_36 (by decide) ?_
  exact t_X8_bestFire_44 hC 0 σ _ _ ⟨by omega, by omega⟩

set_option maxRecDepth 100000 in
set_option maxHeartbeats 4000000 in
theorem t_X8_bestFire_28 {C : Cxt} {G : Glb} (hC : CX C G RX8 cX8_bestFire 2 (some .int) 8 18 132 160) (a0 : Nat) (x28_1 : Int32) (y28_0 : Int32) (y28_1 : (Option Nat)) (σ : Mem) (kc ks : Nat) (hN : kc + 18 ≤ 18 ∧ ks + 132 ≤ 132) : Wo C G 2 (QP C G rvI 18 132) (b_X8_bestFire_28 G.2.2.2.1 G.2.2.2.2  a0 x28_1 y28_0 y28_1 σ) σ kc ks 28 [(0, va_rf (some a0)), (1, .int x28_1)] [.int y28_0, va_rf y28_1] := by
  unfold b_X8_bestFire_28
  refine r_iconst hC (2) rfl dX8_bestFire_28 ?_
  refine call_V hC (av := [.int y28_0, .int 2]) (st := []) (r := y28_1) (ci := 10) rfl rfl (fun h9 => ct_X8_refuse hC.hl G h9 y28_0 2 σ) q_886 q_888 q_13 q_44 q_889 yd_X8_refuse rfl ⟨Nat.le_of_ble_eq_true rfl, Nat.le_of_ble_eq_true rfl⟩ ⟨by omega, by omega⟩ rfl (Nat.le_of_ble_eq_true rfl) dX8_bestFire_29 (fun v10 σ11 => ?_)
  show Wo _ _ _ _ _ _ _ _ _ _ [.int v10]
  refine r_if_eq hC 39 dX8_bestFire_32 (by decide) ?_ ?_
  · refine r_aloadn hC 0 (r := (some a0)) rfl rfl dX8_bestFire_39 ?_
    refine r_iloadn hC 1 rfl rfl dX8_bestFire_40 ?_
    refine call_V hC (av := [.int x28_1]) (st := []) (r := (some a0)) (ci := 10) rfl rfl (fun h9 => ct_X8_bestFireNow hC.hl G h9 x28_1 σ11) q_1422 q_1424 q_34 q_44 q_1425 yd_X8_bestFireNow rfl ⟨Nat.le_of_ble_eq_true rfl, Nat.le_of_ble_eq_true rfl⟩ ⟨by omega, by omega⟩ rfl (Nat.le_of_ble_eq_true rfl) dX8_bestFire_41 (fun v13 σ14 => ?_)
    show Wo _ _ _ _ _ _ _ _ _ _ [.int v13]
    refine Wo.sub [] rfl ?_
    exact t_X8_bestFire_44 hC v13 σ14 _ _ ⟨by omega, by omega⟩
  · refine Wo.sub [] rfl ?_
    exact t_X8_bestFire_35 hC  σ11 _ _ ⟨by omega, by omega⟩

set_option maxRecDepth 100000 in
set_option maxHeartbeats 4000000 in
theorem t_X8_bestFire_0 {C : Cxt} {G : Glb} (hC : CX C G RX8 cX8_bestFire 2 (some .int) 8 18 132 160) (a0 : Nat) (p0 : Int32) (σ : Mem) (kc ks : Nat) (hN : kc + 18 ≤ 18 ∧ ks + 132 ≤ 132) : Wo C G 2 (QP C G rvI 18 132) (b_X8_bestFire_0 G.2.2.2.1 G.2.2.2.2  a0 p0 σ) σ kc ks 0 [(0, va_rf (some a0)), (1, .int p0)] [] := by
  unfold b_X8_bestFire_0
  refine r_aloadn hC 0 (r := (some a0)) rfl rfl dX8_bestFire_0 ?_
  refine r_aloadn hC 0 (r := (some a0)) rfl rfl dX8_bestFire_1 ?_
  refine r_iloadn hC 1 rfl rfl dX8_bestFire_2 ?_
  refine call_V hC (av := [.int p0]) (st := [va_rf (some a0)]) (r := (some a0)) (ci := 10) rfl rfl (fun h9 => ct_X8_isNoLot hC.hl G h9 p0 σ) q_1165 q_1167 q_19 q_44 q_1168 yd_X8_isNoLot rfl ⟨Nat.le_of_ble_eq_true rfl, Nat.le_of_ble_eq_true rfl⟩ ⟨by omega, by omega⟩ rfl (by simp [cat_rf, cat_i, cat_j, cat_d, cat_a]) dX8_bestFire_3 (fun v1 σ2 => ?_)
  show Wo _ _ _ _ _ _ _ _ _ _ [.int v1, va_rf (some a0)]
  refine r_iconst hC (1) rfl dX8_bestFire_6 ?_
  refine call_V hC (av := [.int v1, .int 1]) (st := []) (r := (some a0)) (ci := 10) rfl rfl (fun h9 => ct_X8_start hC.hl G h9 v1 1 σ2) q_882 q_884 q_12 q_44 q_885 yd_X8_start rfl ⟨Nat.le_of_ble_eq_true rfl, Nat.le_of_ble_eq_true rfl⟩ ⟨by omega, by omega⟩ rfl (Nat.le_of_ble_eq_true rfl) dX8_bestFire_7 (fun v4 σ5 => ?_)
  show Wo _ _ _ _ _ _ _ _ _ _ [.int v4]
  refine r_if_ne hC 35 dX8_bestFire_10 (by decide) ?_ ?_
  · refine Wo.sub [] rfl ?_
    exact t_X8_bestFire_35 hC  σ5 _ _ ⟨by omega, by omega⟩
  · refine r_aloadn hC 0 (r := (some a0)) rfl rfl dX8_bestFire_13 ?_
    refine r_aloadn hC 0 (r := (some a0)) rfl rfl dX8_bestFire_14 ?_
    refine r_iloadn hC 1 rfl rfl dX8_bestFire_15 ?_
    refine r_iconst hC (1) rfl dX8_bestFire_16 ?_
    refine call_V hC (av := [.int p0, .int 1]) (st := [va_rf (some a0)]) (r := (some a0)) (ci := 10) rfl rfl (fun h9 => ct_X8_isState hC.hl G h9 p0 1 σ5) q_1181 q_1183 q_20 q_44 q_1184 yd_X8_isState rfl ⟨Nat.le_of_ble_eq_true rfl, Nat.le_of_ble_eq_true rfl⟩ ⟨by omega, by omega⟩ rfl (by simp [cat_rf, cat_i, cat_j, cat_d, cat_a]) dX8_bestFire_17 (fun v7 σ8 => ?_)
    show Wo _ _ _ _ _ _ _ _ _ _ [.int v7, va_rf (some a0)]
    refine r_if_ne hC 27 dX8_bestFire_20 (by decide) ?_ ?_
    · refine r_iconst hC (0) rfl dX8_bestFire_27 ?_
      exact t_X8_bestFire_28 hC a0 p0 0 (some a0) σ8 _ _ ⟨by omega, by omega⟩
    · refine r_iconst hC (1) rfl dX8_bestFire_23 ?_
      refine r_goto hC 28 dX8_bestFire_24 (by decide) ?_
      exact t_X8_bestFire_28 hC a0 p0 1 (some a0) σ8 _ _ ⟨by omega, by omega⟩

set_option maxRecDepth 100000 in
set_option maxHeartbeats 4000000 in
theorem ct_X8_bestFire {l : Launch} (hl : l.stackTraces = false) (G : Glb) (a0 : Nat) (p0 : Int32) (σ : Mem) : Ct rvI l yX8_bestFire (Cond.code yX8_bestFire cX8_bestFire 2 (some .int) :: uW) { frames := 8, cells := 18, slots := 132, locals := 160 } 18 132 G [.ref a0, .int p0] σ (f_X8_bestFire G.2.2.2.1 G.2.2.2.2 a0 p0 σ) := by
  refine Ct.of hl (by decide +kernel) (Nat.le_of_ble_eq_true rfl) (fun C hC hin => ?_)
  have e : lv_args 0 [.ref a0, .int p0] = [(0, .ref a0), (1, .int p0)] := rfl
  rw [e]
  exact t_X8_bestFire_0 hC a0 p0 σ 0 0 ⟨Nat.le_of_ble_eq_true rfl, Nat.le_of_ble_eq_true rfl⟩

noncomputable def b_X8_bestMixNow_211 (k7 : Nat → (Option Nat) → Int32 → Int32 → Int32 → Mem → Option ((Int32) × Mem)) (a0 : Nat) (x211_1 : (Option Nat)) (x211_2 : Int32) (x211_3 : Int32) (x211_4 : Int32) (σ : Mem) : Option ((Int32) × Mem) :=
nm (x211_4 + 1) fun v10 =>
k7 a0 x211_1 x211_2 x211_3 v10 σ

noncomputable def b_X8_bestMixNow_205 (k7 : Nat → (Option Nat) → Int32 → Int32 → Int32 → Mem → Option ((Int32) × Mem)) (k25 : Nat → (Option Nat) → Int32 → Int32 → Int32 → Int32 → Mem → Option ((Int32) × Mem)) (a0 : Nat) (x205_1 : (Option Nat)) (x205_2 : Int32) (x205_3 : Int32) (x205_4 : Int32) (x205_5 : Int32) (σ : Mem) : Option ((Int32) × Mem) :=
nm (x205_5 + 1) fun v14 =>
k25 a0 x205_1 x205_2 x205_3 x205_4 v14 σ

noncomputable def b_X8_bestMixNow_199 (k7 : Nat → (Option Nat) → Int32 → Int32 → Int32 → Mem → Option ((Int32) × Mem)) (k25 : Nat → (Option Nat) → Int32 → Int32 → Int32 → Int32 → Mem → Option ((Int32) × Mem)) (k49 : Nat → (Option Nat) → Int32 → Int32 → Int32 → Int32 → Int32 → Mem → Option ((Int32) × Mem)) (a0 : Nat) (x199_1 : (Option Nat)) (x199_2 : Int32) (x199_3 : Int32) (x199_4 : Int32) (x199_5 : Int32) (x199_6 : Int32) (σ : Mem) : Option ((Int32) × Mem) :=
nm (x199_6 + 1) fun v18 =>
k49 a0 x199_1 x199_2 x199_3 x199_4 x199_5 v18 σ

noncomputable def b_X8_bestMixNow_180 (k7 : Nat → (Option Nat) → Int32 → Int32 → Int32 → Mem → Option ((Int32) × Mem)) (k25 : Nat → (Option Nat) → Int32 → Int32 → Int32 → Int32 → Mem → Option ((Int32) × Mem)) (k49 : Nat → (Option Nat) → Int32 → Int32 → Int32 → Int32 → Int32 → Mem → Option ((Int32) × Mem)) (a0 : Nat) (x180_1 : (Option Nat)) (x180_4 : Int32) (x180_5 : Int32) (x180_6 : Int32) (x180_7 : Int32) (σ : Mem) : Option ((Int32) × Mem) :=
nm (1000 * x180_4) fun v19 =>
nm (10 * x180_5) fun v20 =>
nm (v19 + v20) fun v21 =>
nm (v21 + x180_6) fun v22 =>
b_X8_bestMixNow_199 k7 k25 k49 a0 x180_1 v22 x180_7 x180_4 x180_5 x180_6 σ

noncomputable def b_X8_bestMixNow_152 (k7 : Nat → (Option Nat) → Int32 → Int32 → Int32 → Mem → Option ((Int32) × Mem)) (k25 : Nat → (Option Nat) → Int32 → Int32 → Int32 → Int32 → Mem → Option ((Int32) × Mem)) (k49 : Nat → (Option Nat) → Int32 → Int32 → Int32 → Int32 → Int32 → Mem → Option ((Int32) × Mem)) (k74 : Nat → (Option Nat) → Int32 → Int32 → Int32 → Int32 → Int32 → Int32 → Int32 → Int32 → Mem → Option ((Int32) × Mem)) (a0 : Nat) (x152_1 : (Option Nat)) (x152_2 : Int32) (x152_3 : Int32) (x152_4 : Int32) (x152_5 : Int32) (x152_6 : Int32) (x152_7 : Int32) (x152_9 : Int32) (y152_0 : Int32) (y152_1 : Int32) (σ : Mem) : Option ((Int32) × Mem) :=
nm (y152_1 &&& y152_0) fun v44 =>
nm (x152_9 + 1) fun v45 =>
k74 a0 x152_1 x152_2 x152_3 x152_4 x152_5 x152_6 x152_7 v44 v45 σ

noncomputable def b_X8_bestMixNow_74 (k7 : Nat → (Option Nat) → Int32 → Int32 → Int32 → Mem → Option ((Int32) × Mem)) (k25 : Nat → (Option Nat) → Int32 → Int32 → Int32 → Int32 → Mem → Option ((Int32) × Mem)) (k49 : Nat → (Option Nat) → Int32 → Int32 → Int32 → Int32 → Int32 → Mem → Option ((Int32) × Mem)) (k74 : Nat → (Option Nat) → Int32 → Int32 → Int32 → Int32 → Int32 → Int32 → Int32 → Int32 → Mem → Option ((Int32) × Mem)) (a0 : Nat) (x74_1 : (Option Nat)) (x74_2 : Int32) (x74_3 : Int32) (x74_4 : Int32) (x74_5 : Int32) (x74_6 : Int32) (x74_7 : Int32) (x74_8 : Int32) (x74_9 : Int32) (σ : Mem) : Option ((Int32) × Mem) :=
if 3 ≤ x74_9 then
if x74_8 = 0 then
b_X8_bestMixNow_199 k7 k25 k49 a0 x74_1 x74_2 x74_3 x74_4 x74_5 x74_6 σ
else
if x74_2 = (-1) then
b_X8_bestMixNow_180 k7 k25 k49 a0 x74_1 x74_4 x74_5 x74_6 x74_7 σ
else
if x74_7 < x74_3 then
b_X8_bestMixNow_180 k7 k25 k49 a0 x74_1 x74_4 x74_5 x74_6 x74_7 σ
else
b_X8_bestMixNow_199 k7 k25 k49 a0 x74_1 x74_2 x74_3 x74_4 x74_5 x74_6 σ
else
gR 10 7 σ (some a0) fun r23 =>
ob 1 σ r23 fun h26 => cl1 (f_Jx4a65c_get_915e3 h26 x74_4 σ) fun r24 σ25 =>
ck 8 σ25 r24 <|
ob 7 σ25 r24 fun h29 => cl1 (f_X5_note h29 x74_9 σ25) fun v27 σ28 =>
nm (x74_6 * v27) fun v30 =>
nm (10 - x74_6) fun v31 =>
gR 10 7 σ28 (some a0) fun r32 =>
ob 1 σ28 r32 fun h35 => cl1 (f_Jx4a65c_get_915e3 h35 x74_5 σ28) fun r33 σ34 =>
ck 8 σ34 r33 <|
ob 7 σ34 r33 fun h38 => cl1 (f_X5_note h38 x74_9 σ34) fun v36 σ37 =>
nm (v31 * v36) fun v39 =>
nm (v30 + v39) fun v40 =>
nm (x74_7 + v40) fun v41 =>
dv v40 10 fun v42 =>
aI σ37 x74_1 x74_9 fun v43 =>
if v42 < v43 then
b_X8_bestMixNow_152 k7 k25 k49 k74 a0 x74_1 x74_2 x74_3 x74_4 x74_5 x74_6 v41 x74_9 0 x74_8 σ37
else
b_X8_bestMixNow_152 k7 k25 k49 k74 a0 x74_1 x74_2 x74_3 x74_4 x74_5 x74_6 v41 x74_9 1 x74_8 σ37

noncomputable def l_X8_bestMixNow_74 (k7 : Nat → (Option Nat) → Int32 → Int32 → Int32 → Mem → Option ((Int32) × Mem)) (k25 : Nat → (Option Nat) → Int32 → Int32 → Int32 → Int32 → Mem → Option ((Int32) × Mem)) (k49 : Nat → (Option Nat) → Int32 → Int32 → Int32 → Int32 → Int32 → Mem → Option ((Int32) × Mem)) (n : Nat) : Nat → (Option Nat) → Int32 → Int32 → Int32 → Int32 → Int32 → Int32 → Int32 → Int32 → Mem → Option ((Int32) × Mem) := itr (fun _ _ _ _ _ _ _ _ _ _ _ => none) (fun k => b_X8_bestMixNow_74 k7 k25 k49 k) n

noncomputable def b_X8_bestMixNow_49 (k7 : Nat → (Option Nat) → Int32 → Int32 → Int32 → Mem → Option ((Int32) × Mem)) (k25 : Nat → (Option Nat) → Int32 → Int32 → Int32 → Int32 → Mem → Option ((Int32) × Mem)) (k49 : Nat → (Option Nat) → Int32 → Int32 → Int32 → Int32 → Int32 → Mem → Option ((Int32) × Mem)) (a0 : Nat) (x49_1 : (Option Nat)) (x49_2 : Int32) (x49_3 : Int32) (x49_4 : Int32) (x49_5 : Int32) (x49_6 : Int32) (σ : Mem) : Option ((Int32) × Mem) :=
if 10 ≤ x49_6 then
b_X8_bestMixNow_205 k7 k25 a0 x49_1 x49_2 x49_3 x49_4 x49_5 σ
else
ob 10 σ (some a0) fun h17 => cl1 (f_X8_canMix h17 x49_5 σ) fun v15 σ16 =>
if v15 = 0 then
b_X8_bestMixNow_205 k7 k25 a0 x49_1 x49_2 x49_3 x49_4 x49_5 σ16
else
l_X8_bestMixNow_74 k7 k25 k49 40 a0 x49_1 x49_2 x49_3 x49_4 x49_5 x49_6 0 1 0 σ16

noncomputable def l_X8_bestMixNow_49 (k7 : Nat → (Option Nat) → Int32 → Int32 → Int32 → Mem → Option ((Int32) × Mem)) (k25 : Nat → (Option Nat) → Int32 → Int32 → Int32 → Int32 → Mem → Option ((Int32) × Mem)) (n : Nat) : Nat → (Option Nat) → Int32 → Int32 → Int32 → Int32 → Int32 → Mem → Option ((Int32) × Mem) := itr (fun _ _ _ _ _ _ _ _ => none) (fun k => b_X8_bestMixNow_49 k7 k25 k) n

noncomputable def b_X8_bestMixNow_25 (k7 : Nat → (Option Nat) → Int32 → Int32 → Int32 → Mem → Option ((Int32) × Mem)) (k25 : Nat → (Option Nat) → Int32 → Int32 → Int32 → Int32 → Mem → Option ((Int32) × Mem)) (a0 : Nat) (x25_1 : (Option Nat)) (x25_2 : Int32) (x25_3 : Int32) (x25_4 : Int32) (x25_5 : Int32) (σ : Mem) : Option ((Int32) × Mem) :=
gR 10 7 σ (some a0) fun r6 =>
ob 1 σ r6 fun h9 => cl1 (f_Jx4a65c_size_8abf5 h9 σ) fun v7 σ8 =>
if v7 ≤ x25_5 then
b_X8_bestMixNow_211 k7 a0 x25_1 x25_2 x25_3 x25_4 σ8
else
ob 10 σ8 (some a0) fun h13 => cl1 (f_X8_canMix h13 x25_4 σ8) fun v11 σ12 =>
if v11 = 0 then
b_X8_bestMixNow_211 k7 a0 x25_1 x25_2 x25_3 x25_4 σ12
else
l_X8_bestMixNow_49 k7 k25 40 a0 x25_1 x25_2 x25_3 x25_4 x25_5 1 σ12

noncomputable def l_X8_bestMixNow_25 (k7 : Nat → (Option Nat) → Int32 → Int32 → Int32 → Mem → Option ((Int32) × Mem)) (n : Nat) : Nat → (Option Nat) → Int32 → Int32 → Int32 → Int32 → Mem → Option ((Int32) × Mem) := itr (fun _ _ _ _ _ _ _ => none) (fun k => b_X8_bestMixNow_25 k7 k) n

noncomputable def b_X8_bestMixNow_7 (k7 : Nat → (Option Nat) → Int32 → Int32 → Int32 → Mem → Option ((Int32) × Mem)) (a0 : Nat) (x7_1 : (Option Nat)) (x7_2 : Int32) (x7_3 : Int32) (x7_4 : Int32) (σ : Mem) : Option ((Int32) × Mem) :=
gR 10 7 σ (some a0) fun r1 =>
ob 1 σ r1 fun h4 => cl1 (f_Jx4a65c_size_8abf5 h4 σ) fun v2 σ3 =>
if v2 ≤ x7_4 then
some (x7_2, σ3)
else
nm (x7_4 + 1) fun v5 =>
l_X8_bestMixNow_25 k7 40 a0 x7_1 x7_2 x7_3 x7_4 v5 σ3

noncomputable def l_X8_bestMixNow_7 (n : Nat) : Nat → (Option Nat) → Int32 → Int32 → Int32 → Mem → Option ((Int32) × Mem) := itr (fun _ _ _ _ _ _ => none) (fun k => b_X8_bestMixNow_7  k) n

noncomputable def b_X8_bestMixNow_0 (a0 : Nat) (p0 : (Option Nat)) (σ : Mem) : Option ((Int32) × Mem) :=
l_X8_bestMixNow_7 40 a0 p0 (-1) 0 0 σ

noncomputable def f_X8_bestMixNow (a0 : Nat) (p0 : (Option Nat)) (σ : Mem) : Option ((Int32) × Mem) := b_X8_bestMixNow_0 a0 p0 σ
set_option maxRecDepth 100000 in
set_option maxHeartbeats 4000000 in
theorem t_X8_bestMixNow_211 {C : Cxt} {G : Glb} (hC : CX C G RX8 cX8_bestMixNow 11 (some .int) 5 0 0 107) (k7 : Nat → (Option Nat) → Int32 → Int32 → Int32 → Mem → Option ((Int32) × Mem)) (hk7 : ∀ (a0 : Nat) (x7_1 : (Option Nat)) (x7_2 : Int32) (x7_3 : Int32) (x7_4 : Int32) (σ : Mem), Wo C G 11 (QP C G rvI 0 0) (k7 a0 x7_1 x7_2 x7_3 x7_4 σ) σ 0 0 7 [(0, va_rf (some a0)), (1, va_rf x7_1), (2, .int x7_2), (3, .int x7_3), (4, .int x7_4)] []) (a0 : Nat) (x211_1 : (Option Nat)) (x211_2 : Int32) (x211_3 : Int32) (x211_4 : Int32) (σ : Mem) : Wo C G 11 (QP C G rvI 0 0) (b_X8_bestMixNow_211 k7 a0 x211_1 x211_2 x211_3 x211_4 σ) σ 0 0 211 [(0, va_rf (some a0)), (1, va_rf x211_1), (2, .int x211_2), (3, .int x211_3), (4, .int x211_4)] [] := by
  unfold b_X8_bestMixNow_211
  refine r_iinc hC 4 (fun w => [(4, .int w), (0, va_rf (some a0)), (1, va_rf x211_1), (2, .int x211_2), (3, .int x211_3)]) 1 rfl (by decide) rfl (fun w => rfl) dX8_bestMixNow_211 (fun v10 => ?_)
  refine r_goto hC 7 dX8_bestMixNow_214 (by decide) ?_
  refine Wo.sub [1, 2, 3, 4, 0] rfl ?_
  exact hk7 a0 x211_1 x211_2 x211_3 v10 σ

set_option maxRecDepth 100000 in
set_option maxHeartbeats 4000000 in
theorem t_X8_bestMixNow_205 {C : Cxt} {G : Glb} (hC : CX C G RX8 cX8_bestMixNow 11 (some .int) 5 0 0 107) (k7 : Nat → (Option Nat) → Int32 → Int32 → Int32 → Mem → Option ((Int32) × Mem)) (hk7 : ∀ (a0 : Nat) (x7_1 : (Option Nat)) (x7_2 : Int32) (x7_3 : Int32) (x7_4 : Int32) (σ : Mem), Wo C G 11 (QP C G rvI 0 0) (k7 a0 x7_1 x7_2 x7_3 x7_4 σ) σ 0 0 7 [(0, va_rf (some a0)), (1, va_rf x7_1), (2, .int x7_2), (3, .int x7_3), (4, .int x7_4)] []) (k25 : Nat → (Option Nat) → Int32 → Int32 → Int32 → Int32 → Mem → Option ((Int32) × Mem)) (hk25 : ∀ (a0 : Nat) (x25_1 : (Option Nat)) (x25_2 : Int32) (x25_3 : Int32) (x25_4 : Int32) (x25_5 : Int32) (σ : Mem), Wo C G 11 (QP C G rvI 0 0) (k25 a0 x25_1 x25_2 x25_3 x25_4 x25_5 σ) σ 0 0 25 [(0, va_rf (some a0)), (1, va_rf x25_1), (2, .int x25_2), (3, .int x25_3), (4, .int x25_4), (5, .int x25_5)] []) (a0 : Nat) (x205_1 : (Option Nat)) (x205_2 : Int32) (x205_3 : Int32) (x205_4 : Int32) (x205_5 : Int32) (σ : Mem) : Wo C G 11 (QP C G rvI 0 0) (b_X8_bestMixNow_205 k7 k25 a0 x205_1 x205_2 x205_3 x205_4 x205_5 σ) σ 0 0 205 [(0, va_rf (some a0)), (1, va_rf x205_1), (2, .int x205_2), (3, .int x205_3), (4, .int x205_4), (5, .int x205_5)] [] := by
  unfold b_X8_bestMixNow_205
  refine r_iinc hC 5 (fun w => [(5, .int w), (0, va_rf (some a0)), (1, va_rf x205_1), (2, .int x205_2), (3, .int x205_3), (4, .int x205_4)]) 1 rfl (by decide) rfl (fun w => rfl) dX8_bestMixNow_205 (fun v14 => ?_)
  refine r_goto hC 25 dX8_bestMixNow_208 (by decide) ?_
  refine Wo.sub [1, 2, 3, 4, 5, 0] rfl ?_
  exact hk25 a0 x205_1 x205_2 x205_3 x205_4 v14 σ

set_option maxRecDepth 100000 in
set_option maxHeartbeats 4000000 in
theorem t_X8_bestMixNow_199 {C : Cxt} {G : Glb} (hC : CX C G RX8 cX8_bestMixNow 11 (some .int) 5 0 0 107) (k7 : Nat → (Option Nat) → Int32 → Int32 → Int32 → Mem → Option ((Int32) × Mem)) (hk7 : ∀ (a0 : Nat) (x7_1 : (Option Nat)) (x7_2 : Int32) (x7_3 : Int32) (x7_4 : Int32) (σ : Mem), Wo C G 11 (QP C G rvI 0 0) (k7 a0 x7_1 x7_2 x7_3 x7_4 σ) σ 0 0 7 [(0, va_rf (some a0)), (1, va_rf x7_1), (2, .int x7_2), (3, .int x7_3), (4, .int x7_4)] []) (k25 : Nat → (Option Nat) → Int32 → Int32 → Int32 → Int32 → Mem → Option ((Int32) × Mem)) (hk25 : ∀ (a0 : Nat) (x25_1 : (Option Nat)) (x25_2 : Int32) (x25_3 : Int32) (x25_4 : Int32) (x25_5 : Int32) (σ : Mem), Wo C G 11 (QP C G rvI 0 0) (k25 a0 x25_1 x25_2 x25_3 x25_4 x25_5 σ) σ 0 0 25 [(0, va_rf (some a0)), (1, va_rf x25_1), (2, .int x25_2), (3, .int x25_3), (4, .int x25_4), (5, .int x25_5)] []) (k49 : Nat → (Option Nat) → Int32 → Int32 → Int32 → Int32 → Int32 → Mem → Option ((Int32) × Mem)) (hk49 : ∀ (a0 : Nat) (x49_1 : (Option Nat)) (x49_2 : Int32) (x49_3 : Int32) (x49_4 : Int32) (x49_5 : Int32) (x49_6 : Int32) (σ : Mem), Wo C G 11 (QP C G rvI 0 0) (k49 a0 x49_1 x49_2 x49_3 x49_4 x49_5 x49_6 σ) σ 0 0 49 [(0, va_rf (some a0)), (1, va_rf x49_1), (2, .int x49_2), (3, .int x49_3), (4, .int x49_4), (5, .int x49_5), (6, .int x49_6)] []) (a0 : Nat) (x199_1 : (Option Nat)) (x199_2 : Int32) (x199_3 : Int32) (x199_4 : Int32) (x199_5 : Int32) (x199_6 : Int32) (σ : Mem) : Wo C G 11 (QP C G rvI 0 0) (b_X8_bestMixNow_199 k7 k25 k49 a0 x199_1 x199_2 x199_3 x199_4 x199_5 x199_6 σ) σ 0 0 199 [(0, va_rf (some a0)), (1, va_rf x199_1), (2, .int x199_2), (3, .int x199_3), (4, .int x199_4), (5, .int x199_5), (6, .int x199_6)] [] := by
  unfold b_X8_bestMixNow_199
  refine r_iinc hC 6 (fun w => [(6, .int w), (0, va_rf (some a0)), (1, va_rf x199_1), (2, .int x199_2), (3, .int x199_3), (4, .int x199_4), (5, .int x199_5)]) 1 rfl (by decide) rfl (fun w => rfl) dX8_bestMixNow_199 (fun v18 => ?_)
  refine r_goto hC 49 dX8_bestMixNow_202 (by decide) ?_
  refine Wo.sub [1, 2, 3, 4, 5, 6, 0] rfl ?_
  exact hk49 a0 x199_1 x199_2 x199_3 x199_4 x199_5 v18 σ

set_option maxRecDepth 100000 in
set_option maxHeartbeats 4000000 in
theorem t_X8_bestMixNow_180 {C : Cxt} {G : Glb} (hC : CX C G RX8 cX8_bestMixNow 11 (some .int) 5 0 0 107) (k7 : Nat → (Option Nat) → Int32 → Int32 → Int32 → Mem → Option ((Int32) × Mem)) (hk7 : ∀ (a0 : Nat) (x7_1 : (Option Nat)) (x7_2 : Int32) (x7_3 : Int32) (x7_4 : Int32) (σ : Mem), Wo C G 11 (QP C G rvI 0 0) (k7 a0 x7_1 x7_2 x7_3 x7_4 σ) σ 0 0 7 [(0, va_rf (some a0)), (1, va_rf x7_1), (2, .int x7_2), (3, .int x7_3), (4, .int x7_4)] []) (k25 : Nat → (Option Nat) → Int32 → Int32 → Int32 → Int32 → Mem → Option ((Int32) × Mem)) (hk25 : ∀ (a0 : Nat) (x25_1 : (Option Nat)) (x25_2 : Int32) (x25_3 : Int32) (x25_4 : Int32) (x25_5 : Int32) (σ : Mem), Wo C G 11 (QP C G rvI 0 0) (k25 a0 x25_1 x25_2 x25_3 x25_4 x25_5 σ) σ 0 0 25 [(0, va_rf (some a0)), (1, va_rf x25_1), (2, .int x25_2), (3, .int x25_3), (4, .int x25_4), (5, .int x25_5)] []) (k49 : Nat → (Option Nat) → Int32 → Int32 → Int32 → Int32 → Int32 → Mem → Option ((Int32) × Mem)) (hk49 : ∀ (a0 : Nat) (x49_1 : (Option Nat)) (x49_2 : Int32) (x49_3 : Int32) (x49_4 : Int32) (x49_5 : Int32) (x49_6 : Int32) (σ : Mem), Wo C G 11 (QP C G rvI 0 0) (k49 a0 x49_1 x49_2 x49_3 x49_4 x49_5 x49_6 σ) σ 0 0 49 [(0, va_rf (some a0)), (1, va_rf x49_1), (2, .int x49_2), (3, .int x49_3), (4, .int x49_4), (5, .int x49_5), (6, .int x49_6)] []) (a0 : Nat) (x180_1 : (Option Nat)) (x180_4 : Int32) (x180_5 : Int32) (x180_6 : Int32) (x180_7 : Int32) (σ : Mem) : Wo C G 11 (QP C G rvI 0 0) (b_X8_bestMixNow_180 k7 k25 k49 a0 x180_1 x180_4 x180_5 x180_6 x180_7 σ) σ 0 0 180 [(0, va_rf (some a0)), (1, va_rf x180_1), (4, .int x180_4), (5, .int x180_5), (6, .int x180_6), (7, .int x180_7)] [] := by
  unfold b_X8_bestMixNow_180
  refine r_sipush hC (1000) (by decide) dX8_bestMixNow_180 ?_
  refine r_iload hC 2 rfl dX8_bestMixNow_183 ?_
  refine r_imul hC dX8_bestMixNow_185 (fun v19 => ?_)
  refine r_bipush hC (10) (by decide) dX8_bestMixNow_186 ?_
  refine r_iload hC 3 rfl dX8_bestMixNow_188 ?_
  refine r_imul hC dX8_bestMixNow_190 (fun v20 => ?_)
  refine r_iadd hC dX8_bestMixNow_191 (fun v21 => ?_)
  refine r_iload hC 4 rfl dX8_bestMixNow_192 ?_
  refine r_iadd hC dX8_bestMixNow_194 (fun v22 => ?_)
  refine r_istoren hC [(2, .int v22), (0, va_rf (some a0)), (1, va_rf x180_1), (4, .int x180_4), (5, .int x180_5), (6, .int x180_6), (7, .int x180_7)] (i := 2) rfl (by decide) (by simp [List.filter, cat_rf, cat_i, cat_j, cat_d, cat_a]) dX8_bestMixNow_195 ?_
  refine r_iload hC 6 rfl dX8_bestMixNow_196 ?_
  refine r_istoren hC [(3, .int x180_7), (2, .int v22), (0, va_rf (some a0)), (1, va_rf x180_1), (4, .int x180_4), (5, .int x180_5), (6, .int x180_6), (7, .int x180_7)] (i := 3) rfl (by decide) rfl dX8_bestMixNow_198 ?_
  refine Wo.sub [2, 3, 1, 0, 4, 5, 6] rfl ?_
  exact t_X8_bestMixNow_199 hC k7 hk7 k25 hk25 k49 hk49 a0 x180_1 v22 x180_7 x180_4 x180_5 x180_6 σ

set_option maxRecDepth 100000 in
set_option maxHeartbeats 4000000 in
theorem t_X8_bestMixNow_152 {C : Cxt} {G : Glb} (hC : CX C G RX8 cX8_bestMixNow 11 (some .int) 5 0 0 107) (k7 : Nat → (Option Nat) → Int32 → Int32 → Int32 → Mem → Option ((Int32) × Mem)) (hk7 : ∀ (a0 : Nat) (x7_1 : (Option Nat)) (x7_2 : Int32) (x7_3 : Int32) (x7_4 : Int32) (σ : Mem), Wo C G 11 (QP C G rvI 0 0) (k7 a0 x7_1 x7_2 x7_3 x7_4 σ) σ 0 0 7 [(0, va_rf (some a0)), (1, va_rf x7_1), (2, .int x7_2), (3, .int x7_3), (4, .int x7_4)] []) (k25 : Nat → (Option Nat) → Int32 → Int32 → Int32 → Int32 → Mem → Option ((Int32) × Mem)) (hk25 : ∀ (a0 : Nat) (x25_1 : (Option Nat)) (x25_2 : Int32) (x25_3 : Int32) (x25_4 : Int32) (x25_5 : Int32) (σ : Mem), Wo C G 11 (QP C G rvI 0 0) (k25 a0 x25_1 x25_2 x25_3 x25_4 x25_5 σ) σ 0 0 25 [(0, va_rf (some a0)), (1, va_rf x25_1), (2, .int x25_2), (3, .int x25_3), (4, .int x25_4), (5, .int x25_5)] []) (k49 : Nat → (Option Nat) → Int32 → Int32 → Int32 → Int32 → Int32 → Mem → Option ((Int32) × Mem)) (hk49 : ∀ (a0 : Nat) (x49_1 : (Option Nat)) (x49_2 : Int32) (x49_3 : Int32) (x49_4 : Int32) (x49_5 : Int32) (x49_6 : Int32) (σ : Mem), Wo C G 11 (QP C G rvI 0 0) (k49 a0 x49_1 x49_2 x49_3 x49_4 x49_5 x49_6 σ) σ 0 0 49 [(0, va_rf (some a0)), (1, va_rf x49_1), (2, .int x49_2), (3, .int x49_3), (4, .int x49_4), (5, .int x49_5), (6, .int x49_6)] []) (k74 : Nat → (Option Nat) → Int32 → Int32 → Int32 → Int32 → Int32 → Int32 → Int32 → Int32 → Mem → Option ((Int32) × Mem)) (hk74 : ∀ (a0 : Nat) (x74_1 : (Option Nat)) (x74_2 : Int32) (x74_3 : Int32) (x74_4 : Int32) (x74_5 : Int32) (x74_6 : Int32) (x74_7 : Int32) (x74_8 : Int32) (x74_9 : Int32) (σ : Mem), Wo C G 11 (QP C G rvI 0 0) (k74 a0 x74_1 x74_2 x74_3 x74_4 x74_5 x74_6 x74_7 x74_8 x74_9 σ) σ 0 0 74 [(0, va_rf (some a0)), (1, va_rf x74_1), (2, .int x74_2), (3, .int x74_3), (4, .int x74_4), (5, .int x74_5), (6, .int x74_6), (7, .int x74_7), (8, .int x74_8), (9, .int x74_9)] []) (a0 : Nat) (x152_1 : (Option Nat)) (x152_2 : Int32) (x152_3 : Int32) (x152_4 : Int32) (x152_5 : Int32) (x152_6 : Int32) (x152_7 : Int32) (x152_9 : Int32) (y152_0 : Int32) (y152_1 : Int32) (σ : Mem) : Wo C G 11 (QP C G rvI 0 0) (b_X8_bestMixNow_152 k7 k25 k49 k74 a0 x152_1 x152_2 x152_3 x152_4 x152_5 x152_6 x152_7 x152_9 y152_0 y152_1 σ) σ 0 0 152 [(0, va_rf (some a0)), (1, va_rf x152_1), (2, .int x152_2), (3, .int x152_3), (4, .int x152_4), (5, .int x152_5), (6, .int x152_6), (7, .int x152_7), (9, .int x152_9)] [.int y152_0, .int y152_1] := by
  unfold b_X8_bestMixNow_152
  refine r_iand hC dX8_bestMixNow_152 (fun v44 => ?_)
  refine r_istore hC [(8, .int v44), (0, va_rf (some a0)), (1, va_rf x152_1), (2, .int x152_2), (3, .int x152_3), (4, .int x152_4), (5, .int x152_5), (6, .int x152_6), (7, .int x152_7), (9, .int x152_9)] (i := 8) (by decide) rfl dX8_bestMixNow_153 ?_
  refine r_iinc hC 9 (fun w => [(9, .int w), (8, .int v44), (0, va_rf (some a0)), (1, va_rf x152_1), (2, .int x152_2), (3, .int x152_3), (4, .int x152_4), (5, .int x152_5), (6, .int x152_6), (7, .int x152_7)]) 1 rfl (by decide) rfl (fun w => rfl) dX8_bestMixNow_155 (fun v45 => ?_)
  refine r_goto hC 74 dX8_bestMixNow_158 (by decide) ?_
  refine Wo.sub [2, 3, 4, 5, 6, 7, 8, 9, 1, 0] rfl ?_
  exact hk74 a0 x152_1 x152_2 x152_3 x152_4 x152_5 x152_6 x152_7 v44 v45 σ

set_option maxRecDepth 100000 in
set_option maxHeartbeats 4000000 in
theorem t_X8_bestMixNow_74 {C : Cxt} {G : Glb} (hC : CX C G RX8 cX8_bestMixNow 11 (some .int) 5 0 0 107) (k7 : Nat → (Option Nat) → Int32 → Int32 → Int32 → Mem → Option ((Int32) × Mem)) (hk7 : ∀ (a0 : Nat) (x7_1 : (Option Nat)) (x7_2 : Int32) (x7_3 : Int32) (x7_4 : Int32) (σ : Mem), Wo C G 11 (QP C G rvI 0 0) (k7 a0 x7_1 x7_2 x7_3 x7_4 σ) σ 0 0 7 [(0, va_rf (some a0)), (1, va_rf x7_1), (2, .int x7_2), (3, .int x7_3), (4, .int x7_4)] []) (k25 : Nat → (Option Nat) → Int32 → Int32 → Int32 → Int32 → Mem → Option ((Int32) × Mem)) (hk25 : ∀ (a0 : Nat) (x25_1 : (Option Nat)) (x25_2 : Int32) (x25_3 : Int32) (x25_4 : Int32) (x25_5 : Int32) (σ : Mem), Wo C G 11 (QP C G rvI 0 0) (k25 a0 x25_1 x25_2 x25_3 x25_4 x25_5 σ) σ 0 0 25 [(0, va_rf (some a0)), (1, va_rf x25_1), (2, .int x25_2), (3, .int x25_3), (4, .int x25_4), (5, .int x25_5)] []) (k49 : Nat → (Option Nat) → Int32 → Int32 → Int32 → Int32 → Int32 → Mem → Option ((Int32) × Mem)) (hk49 : ∀ (a0 : Nat) (x49_1 : (Option Nat)) (x49_2 : Int32) (x49_3 : Int32) (x49_4 : Int32) (x49_5 : Int32) (x49_6 : Int32) (σ : Mem), Wo C G 11 (QP C G rvI 0 0) (k49 a0 x49_1 x49_2 x49_3 x49_4 x49_5 x49_6 σ) σ 0 0 49 [(0, va_rf (some a0)), (1, va_rf x49_1), (2, .int x49_2), (3, .int x49_3), (4, .int x49_4), (5, .int x49_5), (6, .int x49_6)] []) (k74 : Nat → (Option Nat) → Int32 → Int32 → Int32 → Int32 → Int32 → Int32 → Int32 → Int32 → Mem → Option ((Int32) × Mem)) (hk74 : ∀ (a0 : Nat) (x74_1 : (Option Nat)) (x74_2 : Int32) (x74_3 : Int32) (x74_4 : Int32) (x74_5 : Int32) (x74_6 : Int32) (x74_7 : Int32) (x74_8 : Int32) (x74_9 : Int32) (σ : Mem), Wo C G 11 (QP C G rvI 0 0) (k74 a0 x74_1 x74_2 x74_3 x74_4 x74_5 x74_6 x74_7 x74_8 x74_9 σ) σ 0 0 74 [(0, va_rf (some a0)), (1, va_rf x74_1), (2, .int x74_2), (3, .int x74_3), (4, .int x74_4), (5, .int x74_5), (6, .int x74_6), (7, .int x74_7), (8, .int x74_8), (9, .int x74_9)] []) (a0 : Nat) (x74_1 : (Option Nat)) (x74_2 : Int32) (x74_3 : Int32) (x74_4 : Int32) (x74_5 : Int32) (x74_6 : Int32) (x74_7 : Int32) (x74_8 : Int32) (x74_9 : Int32) (σ : Mem) : Wo C G 11 (QP C G rvI 0 0) (b_X8_bestMixNow_74 k7 k25 k49 k74 a0 x74_1 x74_2 x74_3 x74_4 x74_5 x74_6 x74_7 x74_8 x74_9 σ) σ 0 0 74 [(0, va_rf (some a0)), (1, va_rf x74_1), (2, .int x74_2), (3, .int x74_3), (4, .int x74_4), (5, .int x74_5), (6, .int x74_6), (7, .int x74_7), (8, .int x74_8), (9, .int x74_9)] [] := by
  unfold b_X8_bestMixNow_74
  refine r_iload hC 9 rfl dX8_bestMixNow_74 ?_
  refine r_iconst hC (3) rfl dX8_bestMixNow_76 ?_
  refine r_icmp_ge hC 161 dX8_bestMixNow_77 (by decide) ?_ ?_
  · refine r_iload hC 8 rfl dX8_bestMixNow_161 ?_
    refine r_if_eq hC 199 dX8_bestMixNow_163 (by decide) ?_ ?_
    · refine Wo.sub [0, 1, 2, 3, 4, 5, 6] rfl ?_
      exact t_X8_bestMixNow_199 hC k7 hk7 k25 hk25 k49 hk49 a0 x74_1 x74_2 x74_3 x74_4 x74_5 x74_6 σ
    · refine r_iloadn hC 2 rfl rfl dX8_bestMixNow_166 ?_
      refine r_iconst hC (-1) rfl dX8_bestMixNow_167 ?_
      refine r_icmp_eq hC 180 dX8_bestMixNow_168 (by decide) ?_ ?_
      · refine Wo.sub [0, 1, 4, 5, 6, 7] rfl ?_
        exact t_X8_bestMixNow_180 hC k7 hk7 k25 hk25 k49 hk49 a0 x74_1 x74_4 x74_5 x74_6 x74_7 σ
      · refine r_iload hC 7 rfl dX8_bestMixNow_171 ?_
        refine r_iloadn hC 3 rfl rfl dX8_bestMixNow_173 ?_
        refine r_icmp_lt hC 180 dX8_bestMixNow_174 (by decide) ?_ ?_
        · refine Wo.sub [0, 1, 4, 5, 6, 7] rfl ?_
          exact t_X8_bestMixNow_180 hC k7 hk7 k25 hk25 k49 hk49 a0 x74_1 x74_4 x74_5 x74_6 x74_7 σ
        · refine r_goto hC 199 dX8_bestMixNow_177 (by decide) ?_
          refine Wo.sub [0, 1, 2, 3, 4, 5, 6] rfl ?_
          exact t_X8_bestMixNow_199 hC k7 hk7 k25 hk25 k49 hk49 a0 x74_1 x74_2 x74_3 x74_4 x74_5 x74_6 σ
  · refine r_iload hC 6 rfl dX8_bestMixNow_80 ?_
    refine r_aloadn hC 0 (r := (some a0)) rfl rfl dX8_bestMixNow_82 ?_
    refine r_gR hC (k := 7) (r := (some a0)) cls_10 (by decide) rfl q_847 (Or.inl rfl) dX8_bestMixNow_83 (fun r23 => ?_)
    refine r_iload hC 4 rfl dX8_bestMixNow_86 ?_
    refine call_V hC (av := [.int x74_4]) (st := [.int x74_6]) (r := r23) (ci := 1) rfl rfl (fun h9 => ct_Jx4a65c_get_915e3 hC.hl G h9 x74_4 σ) q_1057 q_1058 q_1059 q_47 q_1060 yd_Jx4a65c_get_915e3 rfl ⟨Nat.le_of_ble_eq_true rfl, Nat.le_of_ble_eq_true rfl⟩ ⟨Nat.zero_le _, Nat.zero_le _⟩ rfl (by simp [cat_rf, cat_i, cat_j, cat_d, cat_a]) dX8_bestMixNow_88 (fun r24 σ25 => ?_)
    show Wo _ _ _ _ _ _ _ _ _ _ [va_rf r24, .int x74_6]
    refine r_ckO hC (r := r24) cls_7 q_1087 dX8_bestMixNow_91 ?_
    refine r_iload hC 9 rfl dX8_bestMixNow_94 ?_
    refine call_V hC (av := [.int x74_9]) (st := [.int x74_6]) (r := r24) (ci := 7) rfl rfl (fun h9 => ct_X5_note hC.hl G h9 x74_9 σ25) q_1262 q_1263 q_1264 q_63 q_1265 yd_X5_note rfl ⟨Nat.le_of_ble_eq_true rfl, Nat.le_of_ble_eq_true rfl⟩ ⟨Nat.zero_le _, Nat.zero_le _⟩ rfl (by simp [cat_rf, cat_i, cat_j, cat_d, cat_a]) dX8_bestMixNow_96 (fun v27 σ28 => ?_)
    show Wo _ _ _ _ _ _ _ _ _ _ [.int v27, .int x74_6]
    refine r_imul hC dX8_bestMixNow_99 (fun v30 => ?_)
    refine r_bipush hC (10) (by decide) dX8_bestMixNow_100 ?_
    refine r_iload hC 6 rfl dX8_bestMixNow_102 ?_
    refine r_isub hC dX8_bestMixNow_104 (fun v31 => ?_)
    refine r_aloadn hC 0 (r := (some a0)) rfl rfl dX8_bestMixNow_105 ?_
    refine r_gR hC (k := 7) (r := (some a0)) cls_10 (by decide) rfl q_847 (Or.inl rfl) dX8_bestMixNow_106 (fun r32 => ?_)
    refine r_iload hC 5 rfl dX8_bestMixNow_109 ?_
    refine call_V hC (av := [.int x74_5]) (st := [.int v31, .int v30]) (r := r32) (ci := 1) rfl rfl (fun h9 => ct_Jx4a65c_get_915e3 hC.hl G h9 x74_5 σ28) q_1057 q_1058 q_1059 q_47 q_1060 yd_Jx4a65c_get_915e3 rfl ⟨Nat.le_of_ble_eq_true rfl, Nat.le_of_ble_eq_true rfl⟩ ⟨Nat.zero_le _, Nat.zero_le _⟩ rfl (by simp [cat_rf, cat_i, cat_j, cat_d, cat_a]) dX8_bestMixNow_111 (fun r33 σ34 => ?_)
    show Wo _ _ _ _ _ _ _ _ _ _ [va_rf r33, .int v31, .int v30]
    refine r_ckO hC (r := r33) cls_7 q_1087 dX8_bestMixNow_114 ?_
    refine r_iload hC 9 rfl dX8_bestMixNow_117 ?_
    refine call_V hC (av := [.int x74_9]) (st := [.int v31, .int v30]) (r := r33) (ci := 7) rfl rfl (fun h9 => ct_X5_note hC.hl G h9 x74_9 σ34) q_1262 q_1263 q_1264 q_63 q_1265 yd_X5_note rfl ⟨Nat.le_of_ble_eq_true rfl, Nat.le_of_ble_eq_true rfl⟩ ⟨Nat.zero_le _, Nat.zero_le _⟩ rfl (by simp [cat_rf, cat_i, cat_j, cat_d, cat_a]) dX8_bestMixNow_119 (fun v36 σ37 => ?_)
    show Wo _ _ _ _ _ _ _ _ _ _ [.int v36, .int v31, .int v30]
    refine r_imul hC dX8_bestMixNow_122 (fun v39 => ?_)
    refine r_iadd hC dX8_bestMixNow_123 (fun v40 => ?_)
    refine r_istore hC [(10, .int v40), (0, va_rf (some a0)), (1, va_rf x74_1), (2, .int x74_2), (3, .int x74_3), (4, .int x74_4), (5, .int x74_5), (6, .int x74_6), (7, .int x74_7), (8, .int x74_8), (9, .int x74_9)] (i := 10) (by decide) rfl dX8_bestMixNow_124 ?_
    refine r_iload hC 8 rfl dX8_bestMixNow_126 ?_
    refine r_iload hC 0 rfl dX8_bestMixNow_128 ?_
    refine r_iadd hC dX8_bestMixNow_130 (fun v41 => ?_)
    refine r_istore hC [(7, .int v41), (10, .int v40), (0, va_rf (some a0)), (1, va_rf x74_1), (2, .int x74_2), (3, .int x74_3), (4, .int x74_4), (5, .int x74_5), (6, .int x74_6), (8, .int x74_8), (9, .int x74_9)] (i := 7) (by decide) rfl dX8_bestMixNow_131 ?_
    refine r_iload hC 9 rfl dX8_bestMixNow_133 ?_
    refine r_iload hC 1 rfl dX8_bestMixNow_135 ?_
    refine r_bipush hC (10) (by decide) dX8_bestMixNow_137 ?_
    refine r_idiv hC dX8_bestMixNow_139 (fun v42 => ?_)
    refine r_aloadn hC 3 (r := x74_1) rfl rfl dX8_bestMixNow_140 ?_
    refine r_iload hC 10 rfl dX8_bestMixNow_141 ?_
    refine r_aI hC (r := x74_1) dX8_bestMixNow_143 (fun v43 => ?_)
    refine r_icmp_lt hC 151 dX8_bestMixNow_144 (by decide) ?_ ?_
    · refine r_iconst hC (0) rfl dX8_bestMixNow_151 ?_
      refine Wo.sub [2, 3, 4, 5, 6, 7, 8, 0, 10] rfl ?_
      exact t_X8_bestMixNow_152 hC k7 hk7 k25 hk25 k49 hk49 k74 hk74 a0 x74_1 x74_2 x74_3 x74_4 x74_5 x74_6 v41 x74_9 0 x74_8 σ37
    · refine r_iconst hC (1) rfl dX8_bestMixNow_147 ?_
      refine r_goto hC 152 dX8_bestMixNow_148 (by decide) ?_
      refine Wo.sub [2, 3, 4, 5, 6, 7, 8, 0, 10] rfl ?_
      exact t_X8_bestMixNow_152 hC k7 hk7 k25 hk25 k49 hk49 k74 hk74 a0 x74_1 x74_2 x74_3 x74_4 x74_5 x74_6 v41 x74_9 1 x74_8 σ37

set_option maxRecDepth 100000 in
set_option maxHeartbeats 4000000 in
theorem u_X8_bestMixNow_74 {C : Cxt} {G : Glb} (hC : CX C G RX8 cX8_bestMixNow 11 (some .int) 5 0 0 107) (k7 : Nat → (Option Nat) → Int32 → Int32 → Int32 → Mem → Option ((Int32) × Mem)) (hk7 : ∀ (a0 : Nat) (x7_1 : (Option Nat)) (x7_2 : Int32) (x7_3 : Int32) (x7_4 : Int32) (σ : Mem), Wo C G 11 (QP C G rvI 0 0) (k7 a0 x7_1 x7_2 x7_3 x7_4 σ) σ 0 0 7 [(0, va_rf (some a0)), (1, va_rf x7_1), (2, .int x7_2), (3, .int x7_3), (4, .int x7_4)] []) (k25 : Nat → (Option Nat) → Int32 → Int32 → Int32 → Int32 → Mem → Option ((Int32) × Mem)) (hk25 : ∀ (a0 : Nat) (x25_1 : (Option Nat)) (x25_2 : Int32) (x25_3 : Int32) (x25_4 : Int32) (x25_5 : Int32) (σ : Mem), Wo C G 11 (QP C G rvI 0 0) (k25 a0 x25_1 x25_2 x25_3 x25_4 x25_5 σ) σ 0 0 25 [(0, va_rf (some a0)), (1, va_rf x25_1), (2, .int x25_2), (3, .int x25_3), (4, .int x25_4), (5, .int x25_5)] []) (k49 : Nat → (Option Nat) → Int32 → Int32 → Int32 → Int32 → Int32 → Mem → Option ((Int32) × Mem)) (hk49 : ∀ (a0 : Nat) (x49_1 : (Option Nat)) (x49_2 : Int32) (x49_3 : Int32) (x49_4 : Int32) (x49_5 : Int32) (x49_6 : Int32) (σ : Mem), Wo C G 11 (QP C G rvI 0 0) (k49 a0 x49_1 x49_2 x49_3 x49_4 x49_5 x49_6 σ) σ 0 0 49 [(0, va_rf (some a0)), (1, va_rf x49_1), (2, .int x49_2), (3, .int x49_3), (4, .int x49_4), (5, .int x49_5), (6, .int x49_6)] []) : ∀ (n : Nat) (a0 : Nat) (x74_1 : (Option Nat)) (x74_2 : Int32) (x74_3 : Int32) (x74_4 : Int32) (x74_5 : Int32) (x74_6 : Int32) (x74_7 : Int32) (x74_8 : Int32) (x74_9 : Int32) (σ : Mem), Wo C G 11 (QP C G rvI 0 0) (l_X8_bestMixNow_74 k7 k25 k49 n a0 x74_1 x74_2 x74_3 x74_4 x74_5 x74_6 x74_7 x74_8 x74_9 σ) σ 0 0 74 [(0, va_rf (some a0)), (1, va_rf x74_1), (2, .int x74_2), (3, .int x74_3), (4, .int x74_4), (5, .int x74_5), (6, .int x74_6), (7, .int x74_7), (8, .int x74_8), (9, .int x74_9)] [] := by
  intro n
  induction n with
  | zero => intro a0 x74_1 x74_2 x74_3 x74_4 x74_5 x74_6 x74_7 x74_8 x74_9 σ; exact Wo.none
  | succ n ih => intro a0 x74_1 x74_2 x74_3 x74_4 x74_5 x74_6 x74_7 x74_8 x74_9 σ; exact t_X8_bestMixNow_74 hC k7 hk7 k25 hk25 k49 hk49 (l_X8_bestMixNow_74 k7 k25 k49 n) ih a0 x74_1 x74_2 x74_3 x74_4 x74_5 x74_6 x74_7 x74_8 x74_9 σ

set_option maxRecDepth 100000 in
set_option maxHeartbeats 4000000 in
theorem t_X8_bestMixNow_49 {C : Cxt} {G : Glb} (hC : CX C G RX8 cX8_bestMixNow 11 (some .int) 5 0 0 107) (k7 : Nat → (Option Nat) → Int32 → Int32 → Int32 → Mem → Option ((Int32) × Mem)) (hk7 : ∀ (a0 : Nat) (x7_1 : (Option Nat)) (x7_2 : Int32) (x7_3 : Int32) (x7_4 : Int32) (σ : Mem), Wo C G 11 (QP C G rvI 0 0) (k7 a0 x7_1 x7_2 x7_3 x7_4 σ) σ 0 0 7 [(0, va_rf (some a0)), (1, va_rf x7_1), (2, .int x7_2), (3, .int x7_3), (4, .int x7_4)] []) (k25 : Nat → (Option Nat) → Int32 → Int32 → Int32 → Int32 → Mem → Option ((Int32) × Mem)) (hk25 : ∀ (a0 : Nat) (x25_1 : (Option Nat)) (x25_2 : Int32) (x25_3 : Int32) (x25_4 : Int32) (x25_5 : Int32) (σ : Mem), Wo C G 11 (QP C G rvI 0 0) (k25 a0 x25_1 x25_2 x25_3 x25_4 x25_5 σ) σ 0 0 25 [(0, va_rf (some a0)), (1, va_rf x25_1), (2, .int x25_2), (3, .int x25_3), (4, .int x25_4), (5, .int x25_5)] []) (k49 : Nat → (Option Nat) → Int32 → Int32 → Int32 → Int32 → Int32 → Mem → Option ((Int32) × Mem)) (hk49 : ∀ (a0 : Nat) (x49_1 : (Option Nat)) (x49_2 : Int32) (x49_3 : Int32) (x49_4 : Int32) (x49_5 : Int32) (x49_6 : Int32) (σ : Mem), Wo C G 11 (QP C G rvI 0 0) (k49 a0 x49_1 x49_2 x49_3 x49_4 x49_5 x49_6 σ) σ 0 0 49 [(0, va_rf (some a0)), (1, va_rf x49_1), (2, .int x49_2), (3, .int x49_3), (4, .int x49_4), (5, .int x49_5), (6, .int x49_6)] []) (a0 : Nat) (x49_1 : (Option Nat)) (x49_2 : Int32) (x49_3 : Int32) (x49_4 : Int32) (x49_5 : Int32) (x49_6 : Int32) (σ : Mem) : Wo C G 11 (QP C G rvI 0 0) (b_X8_bestMixNow_49 k7 k25 k49 a0 x49_1 x49_2 x49_3 x49_4 x49_5 x49_6 σ) σ 0 0 49 [(0, va_rf (some a0)), (1, va_rf x49_1), (2, .int x49_2), (3, .int x49_3), (4, .int x49_4), (5, .int x49_5), (6, .int x49_6)] [] := by
  unfold b_X8_bestMixNow_49
  refine r_iload hC 6 rfl dX8_bestMixNow_49 ?_
  refine r_bipush hC (10) (by decide) dX8_bestMixNow_51 ?_
  refine r_icmp_ge hC 205 dX8_bestMixNow_53 (by decide) ?_ ?_
  · refine Wo.sub [0, 1, 2, 3, 4, 5] rfl ?_
    exact t_X8_bestMixNow_205 hC k7 hk7 k25 hk25 a0 x49_1 x49_2 x49_3 x49_4 x49_5 σ
  · refine r_aloadn hC 0 (r := (some a0)) rfl rfl dX8_bestMixNow_56 ?_
    refine r_iload hC 5 rfl dX8_bestMixNow_57 ?_
    refine call_V hC (av := [.int x49_5]) (st := []) (r := (some a0)) (ci := 10) rfl rfl (fun h9 => ct_X8_canMix hC.hl G h9 x49_5 σ) q_1258 q_1260 q_21 q_44 q_1261 yd_X8_canMix rfl ⟨Nat.le_of_ble_eq_true rfl, Nat.le_of_ble_eq_true rfl⟩ ⟨Nat.zero_le _, Nat.zero_le _⟩ rfl (Nat.le_of_ble_eq_true rfl) dX8_bestMixNow_59 (fun v15 σ16 => ?_)
    show Wo _ _ _ _ _ _ _ _ _ _ [.int v15]
    refine r_if_eq hC 205 dX8_bestMixNow_62 (by decide) ?_ ?_
    · refine Wo.sub [0, 1, 2, 3, 4, 5] rfl ?_
      exact t_X8_bestMixNow_205 hC k7 hk7 k25 hk25 a0 x49_1 x49_2 x49_3 x49_4 x49_5 σ16
    · refine r_iconst hC (0) rfl dX8_bestMixNow_65 ?_
      refine r_istore hC [(7, .int 0), (0, va_rf (some a0)), (1, va_rf x49_1), (2, .int x49_2), (3, .int x49_3), (4, .int x49_4), (5, .int x49_5), (6, .int x49_6)] (i := 7) (by decide) rfl dX8_bestMixNow_66 ?_
      refine r_iconst hC (1) rfl dX8_bestMixNow_68 ?_
      refine r_istore hC [(8, .int 1), (7, .int 0), (0, va_rf (some a0)), (1, va_rf x49_1), (2, .int x49_2), (3, .int x49_3), (4, .int x49_4), (5, .int x49_5), (6, .int x49_6)] (i := 8) (by decide) rfl dX8_bestMixNow_69 ?_
      refine r_iconst hC (0) rfl dX8_bestMixNow_71 ?_
      refine r_istore hC [(9, .int 0), (8, .int 1), (7, .int 0), (0, va_rf (some a0)), (1, va_rf x49_1), (2, .int x49_2), (3, .int x49_3), (4, .int x49_4), (5, .int x49_5), (6, .int x49_6)] (i := 9) (by decide) rfl dX8_bestMixNow_72 ?_
      refine Wo.sub [3, 4, 5, 6, 7, 8, 9, 2, 1, 0] rfl ?_
      exact u_X8_bestMixNow_74 hC k7 hk7 k25 hk25 k49 hk49 40 a0 x49_1 x49_2 x49_3 x49_4 x49_5 x49_6 0 1 0 σ16

set_option maxRecDepth 100000 in
set_option maxHeartbeats 4000000 in
theorem u_X8_bestMixNow_49 {C : Cxt} {G : Glb} (hC : CX C G RX8 cX8_bestMixNow 11 (some .int) 5 0 0 107) (k7 : Nat → (Option Nat) → Int32 → Int32 → Int32 → Mem → Option ((Int32) × Mem)) (hk7 : ∀ (a0 : Nat) (x7_1 : (Option Nat)) (x7_2 : Int32) (x7_3 : Int32) (x7_4 : Int32) (σ : Mem), Wo C G 11 (QP C G rvI 0 0) (k7 a0 x7_1 x7_2 x7_3 x7_4 σ) σ 0 0 7 [(0, va_rf (some a0)), (1, va_rf x7_1), (2, .int x7_2), (3, .int x7_3), (4, .int x7_4)] []) (k25 : Nat → (Option Nat) → Int32 → Int32 → Int32 → Int32 → Mem → Option ((Int32) × Mem)) (hk25 : ∀ (a0 : Nat) (x25_1 : (Option Nat)) (x25_2 : Int32) (x25_3 : Int32) (x25_4 : Int32) (x25_5 : Int32) (σ : Mem), Wo C G 11 (QP C G rvI 0 0) (k25 a0 x25_1 x25_2 x25_3 x25_4 x25_5 σ) σ 0 0 25 [(0, va_rf (some a0)), (1, va_rf x25_1), (2, .int x25_2), (3, .int x25_3), (4, .int x25_4), (5, .int x25_5)] []) : ∀ (n : Nat) (a0 : Nat) (x49_1 : (Option Nat)) (x49_2 : Int32) (x49_3 : Int32) (x49_4 : Int32) (x49_5 : Int32) (x49_6 : Int32) (σ : Mem), Wo C G 11 (QP C G rvI 0 0) (l_X8_bestMixNow_49 k7 k25 n a0 x49_1 x49_2 x49_3 x49_4 x49_5 x49_6 σ) σ 0 0 49 [(0, va_rf (some a0)), (1, va_rf x49_1), (2, .int x49_2), (3, .int x49_3), (4, .int x49_4), (5, .int x49_5), (6, .int x49_6)] [] := by
  intro n
  induction n with
  | zero => intro a0 x49_1 x49_2 x49_3 x49_4 x49_5 x49_6 σ; exact Wo.none
  | succ n ih => intro a0 x49_1 x49_2 x49_3 x49_4 x49_5 x49_6 σ; exact t_X8_bestMixNow_49 hC k7 hk7 k25 hk25 (l_X8_bestMixNow_49 k7 k25 n) ih a0 x49_1 x49_2 x49_3 x49_4 x49_5 x49_6 σ

set_option maxRecDepth 100000 in
set_option maxHeartbeats 4000000 in
theorem t_X8_bestMixNow_25 {C : Cxt} {G : Glb} (hC : CX C G RX8 cX8_bestMixNow 11 (some .int) 5 0 0 107) (k7 : Nat → (Option Nat) → Int32 → Int32 → Int32 → Mem → Option ((Int32) × Mem)) (hk7 : ∀ (a0 : Nat) (x7_1 : (Option Nat)) (x7_2 : Int32) (x7_3 : Int32) (x7_4 : Int32) (σ : Mem), Wo C G 11 (QP C G rvI 0 0) (k7 a0 x7_1 x7_2 x7_3 x7_4 σ) σ 0 0 7 [(0, va_rf (some a0)), (1, va_rf x7_1), (2, .int x7_2), (3, .int x7_3), (4, .int x7_4)] []) (k25 : Nat → (Option Nat) → Int32 → Int32 → Int32 → Int32 → Mem → Option ((Int32) × Mem)) (hk25 : ∀ (a0 : Nat) (x25_1 : (Option Nat)) (x25_2 : Int32) (x25_3 : Int32) (x25_4 : Int32) (x25_5 : Int32) (σ : Mem), Wo C G 11 (QP C G rvI 0 0) (k25 a0 x25_1 x25_2 x25_3 x25_4 x25_5 σ) σ 0 0 25 [(0, va_rf (some a0)), (1, va_rf x25_1), (2, .int x25_2), (3, .int x25_3), (4, .int x25_4), (5, .int x25_5)] []) (a0 : Nat) (x25_1 : (Option Nat)) (x25_2 : Int32) (x25_3 : Int32) (x25_4 : Int32) (x25_5 : Int32) (σ : Mem) : Wo C G 11 (QP C G rvI 0 0) (b_X8_bestMixNow_25 k7 k25 a0 x25_1 x25_2 x25_3 x25_4 x25_5 σ) σ 0 0 25 [(0, va_rf (some a0)), (1, va_rf x25_1), (2, .int x25_2), (3, .int x25_3), (4, .int x25_4), (5, .int x25_5)] [] := by
  unfold b_X8_bestMixNow_25
  refine r_iload hC 5 rfl dX8_bestMixNow_25 ?_
  refine r_aloadn hC 0 (r := (some a0)) rfl rfl dX8_bestMixNow_27 ?_
  refine r_gR hC (k := 7) (r := (some a0)) cls_10 (by decide) rfl q_847 (Or.inl rfl) dX8_bestMixNow_28 (fun r6 => ?_)
  refine call_V hC (av := []) (st := [.int x25_5]) (r := r6) (ci := 1) rfl rfl (fun h9 => ct_Jx4a65c_size_8abf5 hC.hl G h9 σ) q_890 q_891 q_892 q_47 q_893 yd_Jx4a65c_size_8abf5 rfl ⟨Nat.le_of_ble_eq_true rfl, Nat.le_of_ble_eq_true rfl⟩ ⟨Nat.zero_le _, Nat.zero_le _⟩ rfl (by simp [cat_rf, cat_i, cat_j, cat_d, cat_a]) dX8_bestMixNow_31 (fun v7 σ8 => ?_)
  show Wo _ _ _ _ _ _ _ _ _ _ [.int v7, .int x25_5]
  refine r_icmp_ge hC 211 dX8_bestMixNow_34 (by decide) ?_ ?_
  · refine Wo.sub [0, 1, 2, 3, 4] rfl ?_
    exact t_X8_bestMixNow_211 hC k7 hk7 a0 x25_1 x25_2 x25_3 x25_4 σ8
  · refine r_aloadn hC 0 (r := (some a0)) rfl rfl dX8_bestMixNow_37 ?_
    refine r_iload hC 4 rfl dX8_bestMixNow_38 ?_
    refine call_V hC (av := [.int x25_4]) (st := []) (r := (some a0)) (ci := 10) rfl rfl (fun h9 => ct_X8_canMix hC.hl G h9 x25_4 σ8) q_1258 q_1260 q_21 q_44 q_1261 yd_X8_canMix rfl ⟨Nat.le_of_ble_eq_true rfl, Nat.le_of_ble_eq_true rfl⟩ ⟨Nat.zero_le _, Nat.zero_le _⟩ rfl (Nat.le_of_ble_eq_true rfl) dX8_bestMixNow_40 (fun v11 σ12 => ?_)
    show Wo _ _ _ _ _ _ _ _ _ _ [.int v11]
    refine r_if_eq hC 211 dX8_bestMixNow_43 (by decide) ?_ ?_
    · refine Wo.sub [0, 1, 2, 3, 4] rfl ?_
      exact t_X8_bestMixNow_211 hC k7 hk7 a0 x25_1 x25_2 x25_3 x25_4 σ12
    · refine r_iconst hC (1) rfl dX8_bestMixNow_46 ?_
      refine r_istore hC [(6, .int 1), (0, va_rf (some a0)), (1, va_rf x25_1), (2, .int x25_2), (3, .int x25_3), (4, .int x25_4), (5, .int x25_5)] (i := 6) (by decide) rfl dX8_bestMixNow_47 ?_
      refine Wo.sub [1, 2, 3, 4, 5, 6, 0] rfl ?_
      exact u_X8_bestMixNow_49 hC k7 hk7 k25 hk25 40 a0 x25_1 x25_2 x25_3 x25_4 x25_5 1 σ12

set_option maxRecDepth 100000 in
set_option maxHeartbeats 4000000 in
theorem u_X8_bestMixNow_25 {C : Cxt} {G : Glb} (hC : CX C G RX8 cX8_bestMixNow 11 (some .int) 5 0 0 107) (k7 : Nat → (Option Nat) → Int32 → Int32 → Int32 → Mem → Option ((Int32) × Mem)) (hk7 : ∀ (a0 : Nat) (x7_1 : (Option Nat)) (x7_2 : Int32) (x7_3 : Int32) (x7_4 : Int32) (σ : Mem), Wo C G 11 (QP C G rvI 0 0) (k7 a0 x7_1 x7_2 x7_3 x7_4 σ) σ 0 0 7 [(0, va_rf (some a0)), (1, va_rf x7_1), (2, .int x7_2), (3, .int x7_3), (4, .int x7_4)] []) : ∀ (n : Nat) (a0 : Nat) (x25_1 : (Option Nat)) (x25_2 : Int32) (x25_3 : Int32) (x25_4 : Int32) (x25_5 : Int32) (σ : Mem), Wo C G 11 (QP C G rvI 0 0) (l_X8_bestMixNow_25 k7 n a0 x25_1 x25_2 x25_3 x25_4 x25_5 σ) σ 0 0 25 [(0, va_rf (some a0)), (1, va_rf x25_1), (2, .int x25_2), (3, .int x25_3), (4, .int x25_4), (5, .int x25_5)] [] := by
  intro n
  induction n with
  | zero => intro a0 x25_1 x25_2 x25_3 x25_4 x25_5 σ; exact Wo.none
  | succ n ih => intro a0 x25_1 x25_2 x25_3 x25_4 x25_5 σ; exact t_X8_bestMixNow_25 hC k7 hk7 (l_X8_bestMixNow_25 k7 n) ih a0 x25_1 x25_2 x25_3 x25_4 x25_5 σ

set_option maxRecDepth 100000 in
set_option maxHeartbeats 4000000 in
theorem t_X8_bestMixNow_7 {C : Cxt} {G : Glb} (hC : CX C G RX8 cX8_bestMixNow 11 (some .int) 5 0 0 107) (k7 : Nat → (Option Nat) → Int32 → Int32 → Int32 → Mem → Option ((Int32) × Mem)) (hk7 : ∀ (a0 : Nat) (x7_1 : (Option Nat)) (x7_2 : Int32) (x7_3 : Int32) (x7_4 : Int32) (σ : Mem), Wo C G 11 (QP C G rvI 0 0) (k7 a0 x7_1 x7_2 x7_3 x7_4 σ) σ 0 0 7 [(0, va_rf (some a0)), (1, va_rf x7_1), (2, .int x7_2), (3, .int x7_3), (4, .int x7_4)] []) (a0 : Nat) (x7_1 : (Option Nat)) (x7_2 : Int32) (x7_3 : Int32) (x7_4 : Int32) (σ : Mem) : Wo C G 11 (QP C G rvI 0 0) (b_X8_bestMixNow_7 k7 a0 x7_1 x7_2 x7_3 x7_4 σ) σ 0 0 7 [(0, va_rf (some a0)), (1, va_rf x7_1), (2, .int x7_2), (3, .int x7_3), (4, .int x7_4)] [] := by
  unfold b_X8_bestMixNow_7
  refine r_iload hC 4 rfl dX8_bestMixNow_7 ?_
  refine r_aloadn hC 0 (r := (some a0)) rfl rfl dX8_bestMixNow_9 ?_
  refine r_gR hC (k := 7) (r := (some a0)) cls_10 (by decide) rfl q_847 (Or.inl rfl) dX8_bestMixNow_10 (fun r1 => ?_)
  refine call_V hC (av := []) (st := [.int x7_4]) (r := r1) (ci := 1) rfl rfl (fun h9 => ct_Jx4a65c_size_8abf5 hC.hl G h9 σ) q_890 q_891 q_892 q_47 q_893 yd_Jx4a65c_size_8abf5 rfl ⟨Nat.le_of_ble_eq_true rfl, Nat.le_of_ble_eq_true rfl⟩ ⟨Nat.zero_le _, Nat.zero_le _⟩ rfl (by simp [cat_rf, cat_i, cat_j, cat_d, cat_a]) dX8_bestMixNow_13 (fun v2 σ3 => ?_)
  show Wo _ _ _ _ _ _ _ _ _ _ [.int v2, .int x7_4]
  refine r_icmp_ge hC 217 dX8_bestMixNow_16 (by decide) ?_ ?_
  · refine r_iloadn hC 2 rfl rfl dX8_bestMixNow_217 ?_
    exact e_I hC ⟨Nat.zero_le _, Nat.zero_le _⟩ dX8_bestMixNow_218
  · refine r_iload hC 4 rfl dX8_bestMixNow_19 ?_
    refine r_iconst hC (1) rfl dX8_bestMixNow_21 ?_
    refine r_iadd hC dX8_bestMixNow_22 (fun v5 => ?_)
    refine r_istore hC [(5, .int v5), (0, va_rf (some a0)), (1, va_rf x7_1), (2, .int x7_2), (3, .int x7_3), (4, .int x7_4)] (i := 5) (by decide) rfl dX8_bestMixNow_23 ?_
    refine Wo.sub [1, 2, 3, 4, 5, 0] rfl ?_
    exact u_X8_bestMixNow_25 hC k7 hk7 40 a0 x7_1 x7_2 x7_3 x7_4 v5 σ3

set_option maxRecDepth 100000 in
set_option maxHeartbeats 4000000 in
theorem u_X8_bestMixNow_7 {C : Cxt} {G : Glb} (hC : CX C G RX8 cX8_bestMixNow 11 (some .int) 5 0 0 107) : ∀ (n : Nat) (a0 : Nat) (x7_1 : (Option Nat)) (x7_2 : Int32) (x7_3 : Int32) (x7_4 : Int32) (σ : Mem), Wo C G 11 (QP C G rvI 0 0) (l_X8_bestMixNow_7  n a0 x7_1 x7_2 x7_3 x7_4 σ) σ 0 0 7 [(0, va_rf (some a0)), (1, va_rf x7_1), (2, .int x7_2), (3, .int x7_3), (4, .int x7_4)] [] := by
  intro n
  induction n with
  | zero => intro a0 x7_1 x7_2 x7_3 x7_4 σ; exact Wo.none
  | succ n ih => intro a0 x7_1 x7_2 x7_3 x7_4 σ; exact t_X8_bestMixNow_7 hC (l_X8_bestMixNow_7  n) ih a0 x7_1 x7_2 x7_3 x7_4 σ

set_option maxRecDepth 100000 in
set_option maxHeartbeats 4000000 in
theorem t_X8_bestMixNow_0 {C : Cxt} {G : Glb} (hC : CX C G RX8 cX8_bestMixNow 11 (some .int) 5 0 0 107) (a0 : Nat) (p0 : (Option Nat)) (σ : Mem) : Wo C G 11 (QP C G rvI 0 0) (b_X8_bestMixNow_0  a0 p0 σ) σ 0 0 0 [(0, va_rf (some a0)), (1, va_rf p0)] [] := by
  unfold b_X8_bestMixNow_0
  refine r_iconst hC (-1) rfl dX8_bestMixNow_0 ?_
  refine r_istoren hC [(2, .int (-1)), (0, va_rf (some a0)), (1, va_rf p0)] (i := 2) rfl (by decide) (by simp [List.filter, cat_rf, cat_i, cat_j, cat_d, cat_a]) dX8_bestMixNow_1 ?_
  refine r_iconst hC (0) rfl dX8_bestMixNow_2 ?_
  refine r_istoren hC [(3, .int 0), (2, .int (-1)), (0, va_rf (some a0)), (1, va_rf p0)] (i := 3) rfl (by decide) rfl dX8_bestMixNow_3 ?_
  refine r_iconst hC (0) rfl dX8_bestMixNow_4 ?_
  refine r_istore hC [(4, .int 0), (3, .int 0), (2, .int (-1)), (0, va_rf (some a0)), (1, va_rf p0)] (i := 4) (by decide) rfl dX8_bestMixNow_5 ?_
  refine Wo.sub [3, 4, 2, 1, 0] rfl ?_
  exact u_X8_bestMixNow_7 hC 40 a0 p0 (-1) 0 0 σ

set_option maxRecDepth 100000 in
set_option maxHeartbeats 4000000 in
theorem ct_X8_bestMixNow {l : Launch} (hl : l.stackTraces = false) (G : Glb) (a0 : Nat) (p0 : (Option Nat)) (σ : Mem) : Ct rvI l yX8_bestMixNow (Cond.code yX8_bestMixNow cX8_bestMixNow 11 (some .int) :: uW) { frames := 5, cells := 0, slots := 0, locals := 107 } 0 0 G [.ref a0, va_rf p0] σ (f_X8_bestMixNow a0 p0 σ) := by
  refine Ct.of hl (by decide +kernel) (by simp [lg_sl, cat_rf, cat_i, cat_j, cat_d, cat_a]) (fun C hC hin => ?_)
  have e : lv_args 0 [.ref a0, va_rf p0] = [(0, .ref a0), (1, va_rf p0)] := by simp [lv_args, cat_rf, cat_i, cat_j, cat_d, cat_a]
  rw [e]
  exact t_X8_bestMixNow_0 hC a0 p0 σ

noncomputable def b_X8_isNoNote_15 (y15_0 : Int32) (σ : Mem) : Option ((Int32) × Mem) :=
bo y15_0 (some (y15_0, σ))

noncomputable def b_X8_isNoNote_0 (p0 : Int32) (σ : Mem) : Option ((Int32) × Mem) :=
cl1 (f_X8_isIn p0 0 9 σ) fun v1 σ2 =>
if v1 = 0 then
b_X8_isNoNote_15 1 σ2
else
b_X8_isNoNote_15 0 σ2

noncomputable def f_X8_isNoNote (p0 : Int32) (σ : Mem) : Option ((Int32) × Mem) := b_X8_isNoNote_0 p0 σ
set_option maxRecDepth 100000 in
set_option maxHeartbeats 4000000 in
theorem t_X8_isNoNote_15 {C : Cxt} {G : Glb} (hC : CX C G RX8 cX8_isNoNote 1 (some .boolean) 1 0 0 22) (y15_0 : Int32) (σ : Mem) : Wo C G 1 (QP C G rvI 0 0) (b_X8_isNoNote_15  y15_0 σ) σ 0 0 15 [] [.int y15_0] := by
  unfold b_X8_isNoNote_15
  exact e_B hC ⟨Nat.zero_le _, Nat.zero_le _⟩ dX8_isNoNote_15

set_option maxRecDepth 100000 in
set_option maxHeartbeats 4000000 in
theorem t_X8_isNoNote_0 {C : Cxt} {G : Glb} (hC : CX C G RX8 cX8_isNoNote 1 (some .boolean) 1 0 0 22) (p0 : Int32) (σ : Mem) : Wo C G 1 (QP C G rvI 0 0) (b_X8_isNoNote_0  p0 σ) σ 0 0 0 [(0, .int p0)] [] := by
  unfold b_X8_isNoNote_0
  refine r_iloadn hC 0 rfl rfl dX8_isNoNote_0 ?_
  refine r_iconst hC (0) rfl dX8_isNoNote_1 ?_
  refine r_bipush hC (9) (by decide) dX8_isNoNote_2 ?_
  refine call_S hC (av := [.int p0, .int 0, .int 9]) (st := []) (ct_X8_isIn hC.hl G p0 0 9 σ) q_879 q_880 q_44 q_881 yd_X8_isIn rfl ⟨Nat.le_of_ble_eq_true rfl, Nat.le_of_ble_eq_true rfl⟩ ⟨Nat.zero_le _, Nat.zero_le _⟩ rfl (Nat.le_of_ble_eq_true rfl) dX8_isNoNote_4 (fun v1 σ2 => ?_)
  show Wo _ _ _ _ _ _ _ _ _ _ [.int v1]
  refine r_if_ne hC 14 dX8_isNoNote_7 (by decide) ?_ ?_
  · refine r_iconst hC (0) rfl dX8_isNoNote_14 ?_
    refine Wo.sub [] rfl ?_
    exact t_X8_isNoNote_15 hC 0 σ2
  · refine r_iconst hC (1) rfl dX8_isNoNote_10 ?_
    refine r_goto hC 15 dX8_isNoNote_11 (by decide) ?_
    refine Wo.sub [] rfl ?_
    exact t_X8_isNoNote_15 hC 1 σ2

set_option maxRecDepth 100000 in
set_option maxHeartbeats 4000000 in
theorem ct_X8_isNoNote {l : Launch} (hl : l.stackTraces = false) (G : Glb) (p0 : Int32) (σ : Mem) : Ct rvI l yX8_isNoNote (Cond.code yX8_isNoNote cX8_isNoNote 1 (some .boolean) :: uW) { frames := 1, cells := 0, slots := 0, locals := 22 } 0 0 G [.int p0] σ (f_X8_isNoNote p0 σ) := by
  refine Ct.of hl (by decide +kernel) (Nat.le_of_ble_eq_true rfl) (fun C hC hin => ?_)
  have e : lv_args 0 [.int p0] = [(0, .int p0)] := rfl
  rw [e]
  exact t_X8_isNoNote_0 hC p0 σ

noncomputable def b_X8_bestMix_57 (y57_0 : Int32) (σ : Mem) : Option ((Int32) × Mem) :=
some (y57_0, σ)

noncomputable def b_X8_bestMix_27 (a0 : Nat) (x27_1 : Int32) (x27_2 : Int32) (x27_3 : Int32) (y27_0 : Int32) (y27_1 : (Option Nat)) (σ : Mem) : Option ((Int32) × Mem) :=
ob 10 σ y27_1 fun h5 => cl1 (f_X8_start h5 y27_0 1 σ) fun v3 σ4 =>
if v3 = 0 then
nA 0 3 σ4 3 fun σ6 r7 =>
wI σ6 r7 0 x27_1 fun σ8 =>
wI σ8 r7 1 x27_2 fun σ9 =>
wI σ9 r7 2 x27_3 fun σ10 =>
ob 10 σ10 (some a0) fun h13 => cl1 (f_X8_bestMixNow h13 r7 σ10) fun v11 σ12 =>
b_X8_bestMix_57 v11 σ12
else
b_X8_bestMix_57 0 σ4

noncomputable def b_X8_bestMix_22 (a0 : Nat) (x22_1 : Int32) (x22_2 : Int32) (x22_3 : Int32) (y22_0 : (Option Nat)) (σ : Mem) : Option ((Int32) × Mem) :=
b_X8_bestMix_27 a0 x22_1 x22_2 x22_3 1 y22_0 σ

noncomputable def b_X8_bestMix_0 (a0 : Nat) (p0 : Int32) (p1 : Int32) (p2 : Int32) (σ : Mem) : Option ((Int32) × Mem) :=
cl1 (f_X8_isNoNote p0 σ) fun v1 σ2 =>
if v1 = 0 then
cl1 (f_X8_isNoNote p1 σ2) fun v14 σ15 =>
if v14 = 0 then
cl1 (f_X8_isNoNote p2 σ15) fun v16 σ17 =>
if v16 = 0 then
b_X8_bestMix_27 a0 p0 p1 p2 0 (some a0) σ17
else
b_X8_bestMix_22 a0 p0 p1 p2 (some a0) σ17
else
b_X8_bestMix_22 a0 p0 p1 p2 (some a0) σ15
else
b_X8_bestMix_22 a0 p0 p1 p2 (some a0) σ2

noncomputable def f_X8_bestMix (a0 : Nat) (p0 : Int32) (p1 : Int32) (p2 : Int32) (σ : Mem) : Option ((Int32) × Mem) := b_X8_bestMix_0 a0 p0 p1 p2 σ
set_option maxRecDepth 100000 in
set_option maxHeartbeats 4000000 in
theorem t_X8_bestMix_57 {C : Cxt} {G : Glb} (hC : CX C G RX8 cX8_bestMix 4 (some .int) 6 1 3 137) (y57_0 : Int32) (σ : Mem) (kc ks : Nat) (hN : kc + 0 ≤ 1 ∧ ks + 0 ≤ 3) : Wo C G 4 (QP C G rvI 1 3) (b_X8_bestMix_57  y57_0 σ) σ kc ks 57 [] [.int y57_0] := by
  unfold b_X8_bestMix_57
  exact e_I hC ⟨by omega, by omega⟩ dX8_bestMix_57

set_option maxRecDepth 100000 in
set_option maxHeartbeats 4000000 in
theorem t_X8_bestMix_27 {C : Cxt} {G : Glb} (hC : CX C G RX8 cX8_bestMix 4 (some .int) 6 1 3 137) (a0 : Nat) (x27_1 : Int32) (x27_2 : Int32) (x27_3 : Int32) (y27_0 : Int32) (y27_1 : (Option Nat)) (σ : Mem) (kc ks : Nat) (hN : kc + 1 ≤ 1 ∧ ks + 3 ≤ 3) : Wo C G 4 (QP C G rvI 1 3) (b_X8_bestMix_27  a0 x27_1 x27_2 x27_3 y27_0 y27_1 σ) σ kc ks 27 [(0, va_rf (some a0)), (1, .int x27_1), (2, .int x27_2), (3, .int x27_3)] [.int y27_0, va_rf y27_1] := by
  unfold b_X8_bestMix_27
  refine r_iconst hC (1) rfl dX8_bestMix_27 ?_
  refine call_V hC (av := [.int y27_0, .int 1]) (st := []) (r := y27_1) (ci := 10) rfl rfl (fun h9 => ct_X8_start hC.hl G h9 y27_0 1 σ) q_882 q_884 q_12 q_44 q_885 yd_X8_start rfl ⟨Nat.le_of_ble_eq_true rfl, Nat.le_of_ble_eq_true rfl⟩ ⟨by omega, by omega⟩ rfl (Nat.le_of_ble_eq_true rfl) dX8_bestMix_28 (fun v3 σ4 => ?_)
  show Wo _ _ _ _ _ _ _ _ _ _ [.int v3]
  refine r_if_eq hC 38 dX8_bestMix_31 (by decide) ?_ ?_
  · refine r_aloadn hC 0 (r := (some a0)) rfl rfl dX8_bestMix_38 ?_
    refine r_iconst hC (3) rfl dX8_bestMix_39 ?_
    refine r_nA hC (t := 0) (b := 3) (ty := .int) rfl rfl rfl (fun _ h => va_nm_int h) q_102 (Nat.le_of_ble_eq_true rfl) ⟨by omega, by omega⟩ dX8_bestMix_40 (fun σ6 r7 => ?_)
    refine r_dup hC (cat_rf _) dX8_bestMix_42 ?_
    refine r_iconst hC (0) rfl dX8_bestMix_43 ?_
    refine r_iloadn hC 1 rfl rfl dX8_bestMix_44 ?_
    refine r_wI hC (r := r7) dX8_bestMix_45 (fun σ8 => ?_)
    refine r_dup hC (cat_rf _) dX8_bestMix_46 ?_
    refine r_iconst hC (1) rfl dX8_bestMix_47 ?_
    refine r_iloadn hC 2 rfl rfl dX8_bestMix_48 ?_
    refine r_wI hC (r := r7) dX8_bestMix_49 (fun σ9 => ?_)
    refine r_dup hC (cat_rf _) dX8_bestMix_50 ?_
    refine r_iconst hC (2) rfl dX8_bestMix_51 ?_
    refine r_iloadn hC 3 rfl rfl dX8_bestMix_52 ?_
    refine r_wI hC (r := r7) dX8_bestMix_53 (fun σ10 => ?_)
    refine call_V hC (av := [va_rf r7]) (st := []) (r := (some a0)) (ci := 10) rfl rfl (fun h9 => ct_X8_bestMixNow hC.hl G h9 r7 σ10) q_1440 q_1442 q_35 q_44 q_1443 yd_X8_bestMixNow rfl ⟨Nat.le_of_ble_eq_true rfl, Nat.le_of_ble_eq_true rfl⟩ ⟨by omega, by omega⟩ rfl (Nat.le_of_ble_eq_true rfl) dX8_bestMix_54 (fun v11 σ12 => ?_)
    show Wo _ _ _ _ _ _ _ _ _ _ [.int v11]
    refine Wo.sub [] rfl ?_
    exact t_X8_bestMix_57 hC v11 σ12 _ _ ⟨by omega, by omega⟩
  · refine r_iconst hC (0) rfl dX8_bestMix_34 ?_
    refine r_goto hC 57 dX8_bestMix_35 (by decide) ?_
    refine Wo.sub [] rfl ?_
    exact t_X8_bestMix_57 hC 0 σ4 _ _ ⟨by omega, by omega⟩

set_option maxRecDepth 100000 in
set_option maxHeartbeats 4000000 in
theorem t_X8_bestMix_22 {C : Cxt} {G : Glb} (hC : CX C G RX8 cX8_bestMix 4 (some .int) 6 1 3 137) (a0 : Nat) (x22_1 : Int32) (x22_2 : Int32) (x22_3 : Int32) (y22_0 : (Option Nat)) (σ : Mem) (kc ks : Nat) (hN : kc + 1 ≤ 1 ∧ ks + 3 ≤ 3) : Wo C G 4 (QP C G rvI 1 3) (b_X8_bestMix_22  a0 x22_1 x22_2 x22_3 y22_0 σ) σ kc ks 22 [(0, va_rf (some a0)), (1, .int x22_1), (2, .int x22_2), (3, .int x22_3)] [va_rf y22_0] := by
  unfold b_X8_bestMix_22
  refine r_iconst hC (1) rfl dX8_bestMix_22 ?_
  refine r_goto hC 27 dX8_bestMix_23 (by decide) ?_
  exact t_X8_bestMix_27 hC a0 x22_1 x22_2 x22_3 1 y22_0 σ _ _ ⟨by omega, by omega⟩

set_option maxRecDepth 100000 in
set_option maxHeartbeats 4000000 in
theorem t_X8_bestMix_0 {C : Cxt} {G : Glb} (hC : CX C G RX8 cX8_bestMix 4 (some .int) 6 1 3 137) (a0 : Nat) (p0 : Int32) (p1 : Int32) (p2 : Int32) (σ : Mem) (kc ks : Nat) (hN : kc + 1 ≤ 1 ∧ ks + 3 ≤ 3) : Wo C G 4 (QP C G rvI 1 3) (b_X8_bestMix_0  a0 p0 p1 p2 σ) σ kc ks 0 [(0, va_rf (some a0)), (1, .int p0), (2, .int p1), (3, .int p2)] [] := by
  unfold b_X8_bestMix_0
  refine r_aloadn hC 0 (r := (some a0)) rfl rfl dX8_bestMix_0 ?_
  refine r_iloadn hC 1 rfl rfl dX8_bestMix_1 ?_
  refine call_S hC (av := [.int p0]) (st := [va_rf (some a0)]) (ct_X8_isNoNote hC.hl G p0 σ) q_1437 q_1438 q_44 q_1439 yd_X8_isNoNote rfl ⟨Nat.le_of_ble_eq_true rfl, Nat.le_of_ble_eq_true rfl⟩ ⟨by omega, by omega⟩ rfl (by simp [cat_rf, cat_i, cat_j, cat_d, cat_a]) dX8_bestMix_2 (fun v1 σ2 => ?_)
  show Wo _ _ _ _ _ _ _ _ _ _ [.int v1, va_rf (some a0)]
  refine r_if_ne hC 22 dX8_bestMix_5 (by decide) ?_ ?_
  · exact t_X8_bestMix_22 hC a0 p0 p1 p2 (some a0) σ2 _ _ ⟨by omega, by omega⟩
  · refine r_iloadn hC 2 rfl rfl dX8_bestMix_8 ?_
    refine call_S hC (av := [.int p1]) (st := [va_rf (some a0)]) (ct_X8_isNoNote hC.hl G p1 σ2) q_1437 q_1438 q_44 q_1439 yd_X8_isNoNote rfl ⟨Nat.le_of_ble_eq_true rfl, Nat.le_of_ble_eq_true rfl⟩ ⟨by omega, by omega⟩ rfl (by simp [cat_rf, cat_i, cat_j, cat_d, cat_a]) dX8_bestMix_9 (fun v14 σ15 => ?_)
    show Wo _ _ _ _ _ _ _ _ _ _ [.int v14, va_rf (some a0)]
    refine r_if_ne hC 22 dX8_bestMix_12 (by decide) ?_ ?_
    · exact t_X8_bestMix_22 hC a0 p0 p1 p2 (some a0) σ15 _ _ ⟨by omega, by omega⟩
    · refine r_iloadn hC 3 rfl rfl dX8_bestMix_15 ?_
      refine call_S hC (av := [.int p2]) (st := [va_rf (some a0)]) (ct_X8_isNoNote hC.hl G p2 σ15) q_1437 q_1438 q_44 q_1439 yd_X8_isNoNote rfl ⟨Nat.le_of_ble_eq_true rfl, Nat.le_of_ble_eq_true rfl⟩ ⟨by omega, by omega⟩ rfl (by simp [cat_rf, cat_i, cat_j, cat_d, cat_a]) dX8_bestMix_16 (fun v16 σ17 => ?_)
      show Wo _ _ _ _ _ _ _ _ _ _ [.int v16, va_rf (some a0)]
      refine r_if_eq hC 26 dX8_bestMix_19 (by decide) ?_ ?_
      · refine r_iconst hC (0) rfl dX8_bestMix_26 ?_
        exact t_X8_bestMix_27 hC a0 p0 p1 p2 0 (some a0) σ17 _ _ ⟨by omega, by omega⟩
      · exact t_X8_bestMix_22 hC a0 p0 p1 p2 (some a0) σ17 _ _ ⟨by omega, by omega⟩

set_option maxRecDepth 100000 in
set_option maxHeartbeats 4000000 in
theorem ct_X8_bestMix {l : Launch} (hl : l.stackTraces = false) (G : Glb) (a0 : Nat) (p0 : Int32) (p1 : Int32) (p2 : Int32) (σ : Mem) : Ct rvI l yX8_bestMix (Cond.code yX8_bestMix cX8_bestMix 4 (some .int) :: uW) { frames := 6, cells := 1, slots := 3, locals := 137 } 1 3 G [.ref a0, .int p0, .int p1, .int p2] σ (f_X8_bestMix a0 p0 p1 p2 σ) := by
  refine Ct.of hl (by decide +kernel) (Nat.le_of_ble_eq_true rfl) (fun C hC hin => ?_)
  have e : lv_args 0 [.ref a0, .int p0, .int p1, .int p2] = [(0, .ref a0), (1, .int p0), (2, .int p1), (3, .int p2)] := rfl
  rw [e]
  exact t_X8_bestMix_0 hC a0 p0 p1 p2 σ 0 0 ⟨Nat.le_of_ble_eq_true rfl, Nat.le_of_ble_eq_true rfl⟩

noncomputable def b_X8_wouldPayNow_45 (e0 mi : Nat) (y45_0 : Int32) (σ : Mem) : Option ((Int32) × Mem) :=
some (y45_0, σ)

noncomputable def b_X8_wouldPayNow_0 (e0 mi : Nat) (a0 : Nat) (p0 : Int32) (σ : Mem) : Option ((Int32) × Mem) :=
gR 10 7 σ (some a0) fun r1 =>
ob 1 σ r1 fun h4 => cl1 (f_Jx4a65c_get_915e3 h4 p0 σ) fun r2 σ3 =>
ck 8 σ3 r2 <|
ob 10 σ3 (some a0) fun h7 => cl1 (f_X8_outcome e0 mi h7 r2 σ3) fun r5 σ6 =>
nul r5 (b_X8_wouldPayNow_45 e0 mi 0 σ6) (aI σ6 r5 1 fun v8 =>
gR 10 7 σ6 (some a0) fun r9 =>
ob 1 σ6 r9 fun h12 => cl1 (f_Jx4a65c_get_915e3 h12 p0 σ6) fun r10 σ11 =>
ck 8 σ11 r10 <|
ob 7 σ11 r10 fun h15 => cl1 (f_X5_dry h15 σ11) fun v13 σ14 =>
nm (v8 * v13) fun v16 =>
dv v16 10 fun v17 =>
b_X8_wouldPayNow_45 e0 mi v17 σ14)

noncomputable def f_X8_wouldPayNow (e0 mi : Nat) (a0 : Nat) (p0 : Int32) (σ : Mem) : Option ((Int32) × Mem) := b_X8_wouldPayNow_0 e0 mi a0 p0 σ
set_option maxRecDepth 100000 in
set_option maxHeartbeats 4000000 in
theorem t_X8_wouldPayNow_45 {C : Cxt} {G : Glb} (hC : CX C G RX8 cX8_wouldPayNow 3 (some .int) 9 9 123 198) (y45_0 : Int32) (σ : Mem) (kc ks : Nat) (hN : kc + 0 ≤ 9 ∧ ks + 0 ≤ 123) : Wo C G 3 (QP C G rvI 9 123) (b_X8_wouldPayNow_45 G.2.2.2.1 G.2.2.2.2  y45_0 σ) σ kc ks 45 [] [.int y45_0] := by
  unfold b_X8_wouldPayNow_45
  exact e_I hC ⟨by omega, by omega⟩ dX8_wouldPayNow_45

set_option maxRecDepth 100000 in
set_option maxHeartbeats 4000000 in
theorem t_X8_wouldPayNow_0 {C : Cxt} {G : Glb} (hC : CX C G RX8 cX8_wouldPayNow 3 (some .int) 9 9 123 198) (a0 : Nat) (p0 : Int32) (σ : Mem) (kc ks : Nat) (hN : kc + 9 ≤ 9 ∧ ks + 123 ≤ 123) : Wo C G 3 (QP C G rvI 9 123) (b_X8_wouldPayNow_0 G.2.2.2.1 G.2.2.2.2  a0 p0 σ) σ kc ks 0 [(0, va_rf (some a0)), (1, .int p0)] [] := by
  unfold b_X8_wouldPayNow_0
  refine r_aloadn hC 0 (r := (some a0)) rfl rfl dX8_wouldPayNow_0 ?_
  refine r_aloadn hC 0 (r := (some a0)) rfl rfl dX8_wouldPayNow_1 ?_
  refine r_gR hC (k := 7) (r := (some a0)) cls_10 (by decide) rfl q_847 (Or.inl rfl) dX8_wouldPayNow_2 (fun r1 => ?_)
  refine r_iloadn hC 1 rfl rfl dX8_wouldPayNow_5 ?_
  refine call_V hC (av := [.int p0]) (st := [va_rf (some a0)]) (r := r1) (ci := 1) rfl rfl (fun h9 => ct_Jx4a65c_get_915e3 hC.hl G h9 p0 σ) q_1057 q_1058 q_1059 q_47 q_1060 yd_Jx4a65c_get_915e3 rfl ⟨Nat.le_of_ble_eq_true rfl, Nat.le_of_ble_eq_true rfl⟩ ⟨by omega, by omega⟩ rfl (by simp [cat_rf, cat_i, cat_j, cat_d, cat_a]) dX8_wouldPayNow_6 (fun r2 σ3 => ?_)
  show Wo _ _ _ _ _ _ _ _ _ _ [va_rf r2, va_rf (some a0)]
  refine r_ckO hC (r := r2) cls_7 q_1087 dX8_wouldPayNow_9 ?_
  refine call_V hC (av := [va_rf r2]) (st := []) (r := (some a0)) (ci := 10) rfl rfl (fun h9 => ct_X8_outcome hC.hl G h9 r2 σ3) q_1324 q_1326 q_23 q_44 q_1327 yd_X8_outcome rfl ⟨Nat.le_of_ble_eq_true rfl, Nat.le_of_ble_eq_true rfl⟩ ⟨by omega, by omega⟩ rfl (Nat.le_of_ble_eq_true rfl) dX8_wouldPayNow_12 (fun r5 σ6 => ?_)
  show Wo _ _ _ _ _ _ _ _ _ _ [va_rf r5]
  refine r_astoren hC [(2, va_rf r5), (0, va_rf (some a0)), (1, .int p0)] (r := r5) (i := 2) rfl (by decide) rfl dX8_wouldPayNow_15 ?_
  refine r_aloadn hC 0 (r := r5) rfl rfl dX8_wouldPayNow_16 ?_
  refine r_ifnonnull hC 24 dX8_wouldPayNow_17 (by decide) ?_ ?_
  · refine r_aloadn hC 0 (r := r5) rfl rfl dX8_wouldPayNow_24 ?_
    refine r_iconst hC (1) rfl dX8_wouldPayNow_25 ?_
    refine r_aI hC (r := r5) dX8_wouldPayNow_26 (fun v8 => ?_)
    refine r_aloadn hC 1 (r := (some a0)) rfl rfl dX8_wouldPayNow_27 ?_
    refine r_gR hC (k := 7) (r := (some a0)) cls_10 (by decide) rfl q_847 (Or.inl rfl) dX8_wouldPayNow_28 (fun r9 => ?_)
    refine r_iloadn hC 2 rfl rfl dX8_wouldPayNow_31 ?_
    refine call_V hC (av := [.int p0]) (st := [.int v8]) (r := r9) (ci := 1) rfl rfl (fun h9 => ct_Jx4a65c_get_915e3 hC.hl G h9 p0 σ6) q_1057 q_1058 q_1059 q_47 q_1060 yd_Jx4a65c_get_915e3 rfl ⟨Nat.le_of_ble_eq_true rfl, Nat.le_of_ble_eq_true rfl⟩ ⟨by omega, by omega⟩ rfl (by simp [cat_rf, cat_i, cat_j, cat_d, cat_a]) dX8_wouldPayNow_32 (fun r10 σ11 => ?_)
    show Wo _ _ _ _ _ _ _ _ _ _ [va_rf r10, .int v8]
    refine r_ckO hC (r := r10) cls_7 q_1087 dX8_wouldPayNow_35 ?_
    refine call_V hC (av := []) (st := [.int v8]) (r := r10) (ci := 7) rfl rfl (fun h9 => ct_X5_dry hC.hl G h9 σ11) q_1157 q_1158 q_1159 q_63 q_1160 yd_X5_dry rfl ⟨Nat.le_of_ble_eq_true rfl, Nat.le_of_ble_eq_true rfl⟩ ⟨by omega, by omega⟩ rfl (by simp [cat_rf, cat_i, cat_j, cat_d, cat_a]) dX8_wouldPayNow_38 (fun v13 σ14 => ?_)
    show Wo _ _ _ _ _ _ _ _ _ _ [.int v13, .int v8]
    refine r_imul hC dX8_wouldPayNow_41 (fun v16 => ?_)
    refine r_bipush hC (10) (by decide) dX8_wouldPayNow_42 ?_
    refine r_idiv hC dX8_wouldPayNow_44 (fun v17 => ?_)
    refine Wo.sub [] rfl ?_
    exact t_X8_wouldPayNow_45 hC v17 σ14 _ _ ⟨by omega, by omega⟩
  · refine r_iconst hC (0) rfl dX8_wouldPayNow_20 ?_
    refine r_goto hC 45 dX8_wouldPayNow_21 (by decide) ?_
    refine Wo.sub [] rfl ?_
    exact t_X8_wouldPayNow_45 hC 0 σ6 _ _ ⟨by omega, by omega⟩

set_option maxRecDepth 100000 in
set_option maxHeartbeats 4000000 in
theorem ct_X8_wouldPayNow {l : Launch} (hl : l.stackTraces = false) (G : Glb) (a0 : Nat) (p0 : Int32) (σ : Mem) : Ct rvI l yX8_wouldPayNow (Cond.code yX8_wouldPayNow cX8_wouldPayNow 3 (some .int) :: uW) { frames := 9, cells := 9, slots := 123, locals := 198 } 9 123 G [.ref a0, .int p0] σ (f_X8_wouldPayNow G.2.2.2.1 G.2.2.2.2 a0 p0 σ) := by
  refine Ct.of hl (by decide +kernel) (Nat.le_of_ble_eq_true rfl) (fun C hC hin => ?_)
  have e : lv_args 0 [.ref a0, .int p0] = [(0, .ref a0), (1, .int p0)] := rfl
  rw [e]
  exact t_X8_wouldPayNow_0 hC a0 p0 σ 0 0 ⟨Nat.le_of_ble_eq_true rfl, Nat.le_of_ble_eq_true rfl⟩

noncomputable def b_X8_wouldPay_52 (e0 mi : Nat) (y52_0 : Int32) (σ : Mem) : Option ((Int32) × Mem) :=
some (y52_0, σ)

noncomputable def b_X8_wouldPay_43 (e0 mi : Nat) (σ : Mem) : Option ((Int32) × Mem) :=
b_X8_wouldPay_52 e0 mi 0 σ

noncomputable def b_X8_wouldPay_36 (e0 mi : Nat) (a0 : Nat) (x36_1 : Int32) (y36_0 : Int32) (y36_1 : (Option Nat)) (σ : Mem) : Option ((Int32) × Mem) :=
ob 10 σ y36_1 fun h16 => cl1 (f_X8_refuse h16 y36_0 2 σ) fun v14 σ15 =>
if v14 = 0 then
ob 10 σ15 (some a0) fun h19 => cl1 (f_X8_wouldPayNow e0 mi h19 x36_1 σ15) fun v17 σ18 =>
b_X8_wouldPay_52 e0 mi v17 σ18
else
b_X8_wouldPay_43 e0 mi σ15

noncomputable def b_X8_wouldPay_0 (e0 mi : Nat) (a0 : Nat) (p0 : Int32) (σ : Mem) : Option ((Int32) × Mem) :=
ob 10 σ (some a0) fun h3 => cl1 (f_X8_isNoLot h3 p0 σ) fun v1 σ2 =>
ob 10 σ2 (some a0) fun h6 => cl1 (f_X8_start h6 v1 1 σ2) fun v4 σ5 =>
if v4 = 0 then
gR 10 7 σ5 (some a0) fun r7 =>
ob 1 σ5 r7 fun h10 => cl1 (f_Jx4a65c_get_915e3 h10 p0 σ5) fun r8 σ9 =>
ck 8 σ9 r8 <|
ob 7 σ9 r8 fun h13 => cl1 (f_X5_isOffered h13 σ9) fun v11 σ12 =>
if v11 = 0 then
b_X8_wouldPay_36 e0 mi a0 p0 1 (some a0) σ12
else
b_X8_wouldPay_36 e0 mi a0 p0 0 (some a0) σ12
else
b_X8_wouldPay_43 e0 mi σ5

noncomputable def f_X8_wouldPay (e0 mi : Nat) (a0 : Nat) (p0 : Int32) (σ : Mem) : Option ((Int32) × Mem) := b_X8_wouldPay_0 e0 mi a0 p0 σ
set_option maxRecDepth 100000 in
set_option maxHeartbeats 4000000 in
theorem t_X8_wouldPay_52 {C : Cxt} {G : Glb} (hC : CX C G RX8 cX8_wouldPay 2 (some .int) 10 9 123 220) (y52_0 : Int32) (σ : Mem) (kc ks : Nat) (hN : kc + 0 ≤ 9 ∧ ks + 0 ≤ 123) : Wo C G 2 (QP C G rvI 9 123) (b_X8_wouldPay_52 G.2.2.2.1 G.2.2.2.2  y52_0 σ) σ kc ks 52 [] [.int y52_0] := by
  unfold b_X8_wouldPay_52
  exact e_I hC ⟨by omega, by omega⟩ dX8_wouldPay_52

set_option maxRecDepth 100000 in
set_option maxHeartbeats 4000000 in
theorem t_X8_wouldPay_43 {C : Cxt} {G : Glb} (hC : CX C G RX8 cX8_wouldPay 2 (some .int) 10 9 123 220) (σ : Mem) (kc ks : Nat) (hN : kc + 0 ≤ 9 ∧ ks + 0 ≤ 123) : Wo C G 2 (QP C G rvI 9 123) (b_X8_wouldPay_43 G.2.2.2.1 G.2.2.2.2   σ) σ kc ks 43 [] [] := by
  unfold b_X8_wouldPay_43
  refine r_iconst hC (0) rfl dX8_wouldPay_43 ?_
  refine r_goto hC 52 dX8_wouldPay_44 (by decide) ?_
  exact t_X8_wouldPay_52 hC 0 σ _ _ ⟨by omega, by omega⟩

set_option maxRecDepth 100000 in
set_option maxHeartbeats 4000000 in
theorem t_X8_wouldPay_36 {C : Cxt} {G : Glb} (hC : CX C G RX8 cX8_wouldPay 2 (some .int) 10 9 123 220) (a0 : Nat) (x36_1 : Int32) (y36_0 : Int32) (y36_1 : (Option Nat)) (σ : Mem) (kc ks : Nat) (hN : kc + 9 ≤ 9 ∧ ks + 123 ≤ 123) : Wo C G 2 (QP C G rvI 9 123) (b_X8_wouldPay_36 G.2.2.2.1 G.2.2.2.2  a0 x36_1 y36_0 y36_1 σ) σ kc ks 36 [(0, va_rf (some a0)), (1, .int x36_1)] [.int y36_0, va_rf y36_1] := by
  unfold b_X8_wouldPay_36
  refine r_iconst hC (2) rfl dX8_wouldPay_36 ?_
  refine call_V hC (av := [.int y36_0, .int 2]) (st := []) (r := y36_1) (ci := 10) rfl rfl (fun h9 => ct_X8_refuse hC.hl G h9 y36_0 2 σ) q_886 q_888 q_13 q_44 q_889 yd_X8_refuse rfl ⟨Nat.le_of_ble_eq_true rfl, Nat.le_of_ble_eq_true rfl⟩ ⟨by omega, by omega⟩ rfl (Nat.le_of_ble_eq_true rfl) dX8_wouldPay_37 (fun v14 σ15 => ?_)
  show Wo _ _ _ _ _ _ _ _ _ _ [.int v14]
  refine r_if_eq hC 47 dX8_wouldPay_40 (by decide) ?_ ?_
  · refine r_aloadn hC 0 (r := (some a0)) rfl rfl dX8_wouldPay_47 ?_
    refine r_iloadn hC 1 rfl rfl dX8_wouldPay_48 ?_
    refine call_V hC (av := [.int x36_1]) (st := []) (r := (some a0)) (ci := 10) rfl rfl (fun h9 => ct_X8_wouldPayNow hC.hl G h9 x36_1 σ15) q_1448 q_1450 q_36 q_44 q_1451 yd_X8_wouldPayNow rfl ⟨Nat.le_of_ble_eq_true rfl, Nat.le_of_ble_eq_true rfl⟩ ⟨by omega, by omega⟩ rfl (Nat.le_of_ble_eq_true rfl) dX8_wouldPay_49 (fun v17 σ18 => ?_)
    show Wo _ _ _ _ _ _ _ _ _ _ [.int v17]
    refine Wo.sub [] rfl ?_
    exact t_X8_wouldPay_52 hC v17 σ18 _ _ ⟨by omega, by omega⟩
  · refine Wo.sub [] rfl ?_
    exact t_X8_wouldPay_43 hC  σ15 _ _ ⟨by omega, by omega⟩

set_option maxRecDepth 100000 in
set_option maxHeartbeats 4000000 in
theorem t_X8_wouldPay_0 {C : Cxt} {G : Glb} (hC : CX C G RX8 cX8_wouldPay 2 (some .int) 10 9 123 220) (a0 : Nat) (p0 : Int32) (σ : Mem) (kc ks : Nat) (hN : kc + 9 ≤ 9 ∧ ks + 123 ≤ 123) : Wo C G 2 (QP C G rvI 9 123) (b_X8_wouldPay_0 G.2.2.2.1 G.2.2.2.2  a0 p0 σ) σ kc ks 0 [(0, va_rf (some a0)), (1, .int p0)] [] := by
  unfold b_X8_wouldPay_0
  refine r_aloadn hC 0 (r := (some a0)) rfl rfl dX8_wouldPay_0 ?_
  refine r_aloadn hC 0 (r := (some a0)) rfl rfl dX8_wouldPay_1 ?_
  refine r_iloadn hC 1 rfl rfl dX8_wouldPay_2 ?_
  refine call_V hC (av := [.int p0]) (st := [va_rf (some a0)]) (r := (some a0)) (ci := 10) rfl rfl (fun h9 => ct_X8_isNoLot hC.hl G h9 p0 σ) q_1165 q_1167 q_19 q_44 q_1168 yd_X8_isNoLot rfl ⟨Nat.le_of_ble_eq_true rfl, Nat.le_of_ble_eq_true rfl⟩ ⟨by omega, by omega⟩ rfl (by simp [cat_rf, cat_i, cat_j, cat_d, cat_a]) dX8_wouldPay_3 (fun v1 σ2 => ?_)
  show Wo _ _ _ _ _ _ _ _ _ _ [.int v1, va_rf (some a0)]
  refine r_iconst hC (1) rfl dX8_wouldPay_6 ?_
  refine call_V hC (av := [.int v1, .int 1]) (st := []) (r := (some a0)) (ci := 10) rfl rfl (fun h9 => ct_X8_start hC.hl G h9 v1 1 σ2) q_882 q_884 q_12 q_44 q_885 yd_X8_start rfl ⟨Nat.le_of_ble_eq_true rfl, Nat.le_of_ble_eq_true rfl⟩ ⟨by omega, by omega⟩ rfl (Nat.le_of_ble_eq_true rfl) dX8_wouldPay_7 (fun v4 σ5 => ?_)
  show Wo _ _ _ _ _ _ _ _ _ _ [.int v4]
  refine r_if_ne hC 43 dX8_wouldPay_10 (by decide) ?_ ?_
  · refine Wo.sub [] rfl ?_
    exact t_X8_wouldPay_43 hC  σ5 _ _ ⟨by omega, by omega⟩
  · refine r_aloadn hC 0 (r := (some a0)) rfl rfl dX8_wouldPay_13 ?_
    refine r_aloadn hC 0 (r := (some a0)) rfl rfl dX8_wouldPay_14 ?_
    refine r_gR hC (k := 7) (r := (some a0)) cls_10 (by decide) rfl q_847 (Or.inl rfl) dX8_wouldPay_15 (fun r7 => ?_)
    refine r_iloadn hC 1 rfl rfl dX8_wouldPay_18 ?_
    refine call_V hC (av := [.int p0]) (st := [va_rf (some a0)]) (r := r7) (ci := 1) rfl rfl (fun h9 => ct_Jx4a65c_get_915e3 hC.hl G h9 p0 σ5) q_1057 q_1058 q_1059 q_47 q_1060 yd_Jx4a65c_get_915e3 rfl ⟨Nat.le_of_ble_eq_true rfl, Nat.le_of_ble_eq_true rfl⟩ ⟨by omega, by omega⟩ rfl (by simp [cat_rf, cat_i, cat_j, cat_d, cat_a]) dX8_wouldPay_19 (fun r8 σ9 => ?_)
    show Wo _ _ _ _ _ _ _ _ _ _ [va_rf r8, va_rf (some a0)]
    refine r_ckO hC (r := r8) cls_7 q_1087 dX8_wouldPay_22 ?_
    refine call_V hC (av := []) (st := [va_rf (some a0)]) (r := r8) (ci := 7) rfl rfl (fun h9 => ct_X5_isOffered hC.hl G h9 σ9) q_1223 q_1224 q_1225 q_63 q_1226 yd_X5_isOffered rfl ⟨Nat.le_of_ble_eq_true rfl, Nat.le_of_ble_eq_true rfl⟩ ⟨by omega, by omega⟩ rfl (by simp [cat_rf, cat_i, cat_j, cat_d, cat_a]) dX8_wouldPay_25 (fun v11 σ12 => ?_)
    show Wo _ _ _ _ _ _ _ _ _ _ [.int v11, va_rf (some a0)]
    refine r_if_ne hC 35 dX8_wouldPay_28 (by decide) ?_ ?_
    · refine r_iconst hC (0) rfl dX8_wouldPay_35 ?_
      exact t_X8_wouldPay_36 hC a0 p0 0 (some a0) σ12 _ _ ⟨by omega, by omega⟩
    · refine r_iconst hC (1) rfl dX8_wouldPay_31 ?_
      refine r_goto hC 36 dX8_wouldPay_32 (by decide) ?_
      exact t_X8_wouldPay_36 hC a0 p0 1 (some a0) σ12 _ _ ⟨by omega, by omega⟩

set_option maxRecDepth 100000 in
set_option maxHeartbeats 4000000 in
theorem ct_X8_wouldPay {l : Launch} (hl : l.stackTraces = false) (G : Glb) (a0 : Nat) (p0 : Int32) (σ : Mem) : Ct rvI l yX8_wouldPay (Cond.code yX8_wouldPay cX8_wouldPay 2 (some .int) :: uW) { frames := 10, cells := 9, slots := 123, locals := 220 } 9 123 G [.ref a0, .int p0] σ (f_X8_wouldPay G.2.2.2.1 G.2.2.2.2 a0 p0 σ) := by
  refine Ct.of hl (by decide +kernel) (Nat.le_of_ble_eq_true rfl) (fun C hC hin => ?_)
  have e : lv_args 0 [.ref a0, .int p0] = [(0, .ref a0), (1, .int p0)] := rfl
  rw [e]
  exact t_X8_wouldPay_0 hC a0 p0 σ 0 0 ⟨Nat.le_of_ble_eq_true rfl, Nat.le_of_ble_eq_true rfl⟩

noncomputable def b_X8_add_0 (p0 : Int64) (p1 : Int64) (σ : Mem) : Option ((Int64) × Mem) :=
nm (p0 * 31) fun v1 =>
nm (v1 + p1) fun v2 =>
some (v2, σ)

noncomputable def f_X8_add (p0 : Int64) (p1 : Int64) (σ : Mem) : Option ((Int64) × Mem) := b_X8_add_0 p0 p1 σ
set_option maxRecDepth 100000 in
set_option maxHeartbeats 4000000 in
theorem t_X8_add_0 {C : Cxt} {G : Glb} (hC : CX C G RX8 cX8_add 4 (some .long) 0 0 0 0) (p0 : Int64) (p1 : Int64) (σ : Mem) : Wo C G 4 (QP C G rvJ 0 0) (b_X8_add_0  p0 p1 σ) σ 0 0 0 [(0, .long p0), (2, .long p1)] [] := by
  unfold b_X8_add_0
  refine r_lloadn hC 0 rfl rfl dX8_add_0 ?_
  refine r_ldc2 hC (v := 31) q_1460 dX8_add_1 ?_
  refine r_lmul hC dX8_add_4 (fun v1 => ?_)
  refine r_lloadn hC 1 rfl rfl dX8_add_5 ?_
  refine r_ladd hC dX8_add_6 (fun v2 => ?_)
  exact e_J hC ⟨Nat.zero_le _, Nat.zero_le _⟩ dX8_add_7

set_option maxRecDepth 100000 in
set_option maxHeartbeats 4000000 in
theorem ct_X8_add {l : Launch} (hl : l.stackTraces = false) (G : Glb) (p0 : Int64) (p1 : Int64) (σ : Mem) : Ct rvJ l yX8_add (Cond.code yX8_add cX8_add 4 (some .long) :: uW) { frames := 0, cells := 0, slots := 0, locals := 0 } 0 0 G [.long p0, .long p1] σ (f_X8_add p0 p1 σ) := by
  refine Ct.of hl (by decide +kernel) (Nat.le_of_ble_eq_true rfl) (fun C hC hin => ?_)
  have e : lv_args 0 [.long p0, .long p1] = [(0, .long p0), (2, .long p1)] := rfl
  rw [e]
  exact t_X8_add_0 hC p0 p1 σ

noncomputable def b_X8_addLot_174 (e0 mi : Nat) (k174 : Nat → Int32 → Int64 → Int32 → Mem → Option ((Int64) × Mem)) (a0 : Nat) (x174_3 : Int32) (x174_4 : Int64) (x174_7 : Int32) (σ : Mem) : Option ((Int64) × Mem) :=
if 4 ≤ x174_7 then
some (x174_4, σ)
else
ob 10 σ (some a0) fun h17 => cl1 (f_X8_bidOfNow e0 mi h17 x174_7 x174_3 σ) fun v15 σ16 =>
nm (v15.toInt64) fun v18 =>
cl1 (f_X8_add x174_4 v18 σ16) fun v19 σ20 =>
nm (x174_7 + 1) fun v21 =>
k174 a0 x174_3 v19 v21 σ20

noncomputable def l_X8_addLot_174 (e0 mi : Nat) (n : Nat) : Nat → Int32 → Int64 → Int32 → Mem → Option ((Int64) × Mem) := itr (fun _ _ _ _ _ => none) (fun k => b_X8_addLot_174 e0 mi  k) n

noncomputable def b_X8_addLot_147 (e0 mi : Nat) (a0 : Nat) (x147_3 : Int32) (x147_4 : Int64) (x147_6 : (Option Nat)) (σ : Mem) : Option ((Int64) × Mem) :=
ob 7 σ x147_6 fun h8 => cl1 (f_X5_isOffered h8 σ) fun v6 σ7 =>
if v6 = 0 then
some (x147_4, σ7)
else
ob 10 σ7 (some a0) fun h11 => cl1 (f_X8_wouldPayNow e0 mi h11 x147_3 σ7) fun v9 σ10 =>
nm (v9.toInt64) fun v12 =>
cl1 (f_X8_add x147_4 v12 σ10) fun v13 σ14 =>
l_X8_addLot_174 e0 mi 5 a0 x147_3 v13 0 σ14

noncomputable def b_X8_addLot_125 (e0 mi : Nat) (a0 : Nat) (x125_3 : Int32) (x125_4 : Int64) (x125_6 : (Option Nat)) (σ : Mem) : Option ((Int64) × Mem) :=
gI 7 0 σ x125_6 fun v5 =>
if v5 = 1 then
ob 10 σ (some a0) fun h24 => cl1 (f_X8_bestFireNow e0 mi h24 x125_3 σ) fun v22 σ23 =>
nm (v22.toInt64) fun v25 =>
cl1 (f_X8_add x125_4 v25 σ23) fun v26 σ27 =>
b_X8_addLot_147 e0 mi a0 x125_3 v26 x125_6 σ27
else
b_X8_addLot_147 e0 mi a0 x125_3 x125_4 x125_6 σ

noncomputable def b_X8_addLot_89 (e0 mi : Nat) (k89 : Nat → Int32 → Int64 → (Option Nat) → Int32 → Mem → Option ((Int64) × Mem)) (a0 : Nat) (x89_3 : Int32) (x89_4 : Int64) (x89_6 : (Option Nat)) (x89_7 : Int32) (σ : Mem) : Option ((Int64) × Mem) :=
if 3 ≤ x89_7 then
b_X8_addLot_125 e0 mi a0 x89_3 x89_4 x89_6 σ
else
gI 7 0 σ x89_6 fun v28 =>
if v28 = 2 then
ob 10 σ (some a0) fun h31 => cl1 (f_X8_tasteNow h31 x89_3 x89_7 σ) fun v29 σ30 =>
nm (v29.toInt64) fun v32 =>
cl1 (f_X8_add x89_4 v32 σ30) fun v33 σ34 =>
nm (x89_7 + 1) fun v35 =>
k89 a0 x89_3 v33 x89_6 v35 σ34
else
b_X8_addLot_125 e0 mi a0 x89_3 x89_4 x89_6 σ

noncomputable def l_X8_addLot_89 (e0 mi : Nat) (n : Nat) : Nat → Int32 → Int64 → (Option Nat) → Int32 → Mem → Option ((Int64) × Mem) := itr (fun _ _ _ _ _ _ => none) (fun k => b_X8_addLot_89 e0 mi  k) n

noncomputable def b_X8_addLot_86 (e0 mi : Nat) (a0 : Nat) (x86_3 : Int32) (x86_4 : Int64) (x86_6 : (Option Nat)) (σ : Mem) : Option ((Int64) × Mem) :=
l_X8_addLot_89 e0 mi 4 a0 x86_3 x86_4 x86_6 0 σ

noncomputable def b_X8_addLot_50 (e0 mi : Nat) (k50 : Nat → Int32 → Int64 → (Option Nat) → Int32 → Mem → Option ((Int64) × Mem)) (a0 : Nat) (x50_3 : Int32) (x50_4 : Int64) (x50_6 : (Option Nat)) (x50_7 : Int32) (σ : Mem) : Option ((Int64) × Mem) :=
if 3 ≤ x50_7 then
b_X8_addLot_86 e0 mi a0 x50_3 x50_4 x50_6 σ
else
gI 7 0 σ x50_6 fun v36 =>
if v36 = 2 then
ob 7 σ x50_6 fun h39 => cl1 (f_X5_note h39 x50_7 σ) fun v37 σ38 =>
nm (v37.toInt64) fun v40 =>
cl1 (f_X8_add x50_4 v40 σ38) fun v41 σ42 =>
nm (x50_7 + 1) fun v43 =>
k50 a0 x50_3 v41 x50_6 v43 σ42
else
b_X8_addLot_86 e0 mi a0 x50_3 x50_4 x50_6 σ

noncomputable def l_X8_addLot_50 (e0 mi : Nat) (n : Nat) : Nat → Int32 → Int64 → (Option Nat) → Int32 → Mem → Option ((Int64) × Mem) := itr (fun _ _ _ _ _ _ => none) (fun k => b_X8_addLot_50 e0 mi  k) n

noncomputable def b_X8_addLot_19 (e0 mi : Nat) (k19 : Nat → Int32 → Int64 → (Option Nat) → Int32 → Mem → Option ((Int64) × Mem)) (a0 : Nat) (x19_3 : Int32) (x19_4 : Int64) (x19_6 : (Option Nat)) (x19_7 : Int32) (σ : Mem) : Option ((Int64) × Mem) :=
if 18 ≤ x19_7 then
l_X8_addLot_50 e0 mi 4 a0 x19_3 x19_4 x19_6 0 σ
else
ob 10 σ (some a0) fun h46 => cl1 (f_X8_ofLotNow h46 x19_3 x19_7 σ) fun v44 σ45 =>
nm (v44.toInt64) fun v47 =>
cl1 (f_X8_add x19_4 v47 σ45) fun v48 σ49 =>
nm (x19_7 + 1) fun v50 =>
k19 a0 x19_3 v48 x19_6 v50 σ49

noncomputable def l_X8_addLot_19 (e0 mi : Nat) (n : Nat) : Nat → Int32 → Int64 → (Option Nat) → Int32 → Mem → Option ((Int64) × Mem) := itr (fun _ _ _ _ _ _ => none) (fun k => b_X8_addLot_19 e0 mi  k) n

noncomputable def b_X8_addLot_0 (e0 mi : Nat) (a0 : Nat) (p0 : Int64) (p1 : Int32) (σ : Mem) : Option ((Int64) × Mem) :=
gR 10 7 σ (some a0) fun r1 =>
ob 1 σ r1 fun h4 => cl1 (f_Jx4a65c_get_915e3 h4 p1 σ) fun r2 σ3 =>
ck 8 σ3 r2 <|
l_X8_addLot_19 e0 mi 19 a0 p1 p0 r2 0 σ3

noncomputable def f_X8_addLot (e0 mi : Nat) (a0 : Nat) (p0 : Int64) (p1 : Int32) (σ : Mem) : Option ((Int64) × Mem) := b_X8_addLot_0 e0 mi a0 p0 p1 σ
set_option maxRecDepth 100000 in
set_option maxHeartbeats 4000000 in
theorem t_X8_addLot_174 {C : Cxt} {G : Glb} (hC : CX C G RX8 cX8_addLot 8 (some .long) 10 50 527 220) (P174 : Nat → Nat → Prop) (hm174 : ∀ a b a2 b2 : Nat, a ≤ a2 → b ≤ b2 → P174 a2 b2 → P174 a b) (k174 : Nat → Int32 → Int64 → Int32 → Mem → Option ((Int64) × Mem)) (hk174 : ∀ (a0 : Nat) (x174_3 : Int32) (x174_4 : Int64) (x174_7 : Int32) (σ : Mem) (kc ks : Nat), P174 kc ks → Wo C G 8 (QP C G rvJ 50 527) (k174 a0 x174_3 x174_4 x174_7 σ) σ kc ks 174 [(0, va_rf (some a0)), (3, .int x174_3), (4, .long x174_4), (7, .int x174_7)] []) (a0 : Nat) (x174_3 : Int32) (x174_4 : Int64) (x174_7 : Int32) (σ : Mem) (kc ks : Nat) (hN : kc + 1 ≤ 50 ∧ ks + 4 ≤ 527) (hP174 : P174 (kc + 1) (ks + 4)) : Wo C G 8 (QP C G rvJ 50 527) (b_X8_addLot_174 G.2.2.2.1 G.2.2.2.2 k174 a0 x174_3 x174_4 x174_7 σ) σ kc ks 174 [(0, va_rf (some a0)), (3, .int x174_3), (4, .long x174_4), (7, .int x174_7)] [] := by
  unfold b_X8_addLot_174
  refine r_iload hC 3 rfl dX8_addLot_174 ?_
  refine r_iconst hC (4) rfl dX8_addLot_176 ?_
  refine r_icmp_ge hC 201 dX8_addLot_177 (by decide) ?_ ?_
  · refine r_lload hC 2 rfl dX8_addLot_201 ?_
    exact e_J hC ⟨by omega, by omega⟩ dX8_addLot_203
  · refine r_lload hC 2 rfl dX8_addLot_180 ?_
    refine r_aloadn hC 0 (r := (some a0)) rfl rfl dX8_addLot_182 ?_
    refine r_iload hC 3 rfl dX8_addLot_183 ?_
    refine r_iloadn hC 1 rfl rfl dX8_addLot_185 ?_
    refine call_V hC (av := [.int x174_7, .int x174_3]) (st := [.long x174_4]) (r := (some a0)) (ci := 10) rfl rfl (fun h9 => ct_X8_bidOfNow hC.hl G h9 x174_7 x174_3 σ) q_1378 q_1380 q_30 q_44 q_1381 yd_X8_bidOfNow rfl ⟨Nat.le_of_ble_eq_true rfl, Nat.le_of_ble_eq_true rfl⟩ ⟨by omega, by omega⟩ rfl (by simp [cat_rf, cat_i, cat_j, cat_d, cat_a]) dX8_addLot_186 (fun v15 σ16 => ?_)
    show Wo _ _ _ _ _ _ _ _ _ _ [.int v15, .long x174_4]
    refine r_i2l hC dX8_addLot_189 (fun v18 => ?_)
    refine call_S hC (av := [.long x174_4, .long v18]) (st := []) (ct_X8_add hC.hl G x174_4 v18 σ16) q_1457 q_1458 q_44 q_1459 yd_X8_add rfl ⟨Nat.le_of_ble_eq_true rfl, Nat.le_of_ble_eq_true rfl⟩ ⟨by omega, by omega⟩ rfl (Nat.le_of_ble_eq_true rfl) dX8_addLot_190 (fun v19 σ20 => ?_)
    show Wo _ _ _ _ _ _ _ _ _ _ [.long v19]
    refine r_lstore hC [(4, .long v19), (0, va_rf (some a0)), (3, .int x174_3), (7, .int x174_7)] (i := 4) (by decide) rfl dX8_addLot_193 ?_
    refine r_iinc hC 3 (fun w => [(7, .int w), (4, .long v19), (0, va_rf (some a0)), (3, .int x174_3)]) 1 rfl (by decide) rfl (fun w => rfl) dX8_addLot_195 (fun v21 => ?_)
    refine r_goto hC 174 dX8_addLot_198 (by decide) ?_
    refine Wo.sub [2, 3, 1, 0] rfl ?_
    exact hk174 a0 x174_3 v19 v21 σ20 _ _ (hm174 _ _ _ _ (by omega) (by omega) hP174)

set_option maxRecDepth 100000 in
set_option maxHeartbeats 4000000 in
theorem u_X8_addLot_174 {C : Cxt} {G : Glb} (hC : CX C G RX8 cX8_addLot 8 (some .long) 10 50 527 220) : ∀ (n : Nat) (a0 : Nat) (x174_3 : Int32) (x174_4 : Int64) (x174_7 : Int32) (σ : Mem) (kc ks : Nat), (∀ m, n = m + 1 → (kc + m * 1 + 1 ≤ 50 ∧ ks + m * 4 + 4 ≤ 527)) → Wo C G 8 (QP C G rvJ 50 527) (l_X8_addLot_174 G.2.2.2.1 G.2.2.2.2  n a0 x174_3 x174_4 x174_7 σ) σ kc ks 174 [(0, va_rf (some a0)), (3, .int x174_3), (4, .long x174_4), (7, .int x174_7)] [] := by
  intro n
  induction n with
  | zero => intro a0 x174_3 x174_4 x174_7 σ kc ks h0; exact Wo.none
  | succ n ih =>
    intro a0 x174_3 x174_4 x174_7 σ kc ks h0
    exact t_X8_addLot_174 hC (fun kc ks => (∀ m, n = m + 1 → (kc + m * 1 + 1 ≤ 50 ∧ ks + m * 4 + 4 ≤ 527))) (fun a b a2 b2 h1 h2 h m e => ⟨by have := (h m e).1; omega, by have := (h m e).2; omega⟩) (l_X8_addLot_174 G.2.2.2.1 G.2.2.2.2  n) ih a0 x174_3 x174_4 x174_7 σ kc ks ⟨by have := (h0 n rfl).1; omega, by have := (h0 n rfl).2; omega⟩ (fun m e => by
      subst e
      exact ⟨by have := (h0 _ rfl).1; omega, by have := (h0 _ rfl).2; omega⟩)

set_option maxRecDepth 100000 in
set_option maxHeartbeats 4000000 in
theorem t_X8_addLot_147 {C : Cxt} {G : Glb} (hC : CX C G RX8 cX8_addLot 8 (some .long) 10 50 527 220) (a0 : Nat) (x147_3 : Int32) (x147_4 : Int64) (x147_6 : (Option Nat)) (σ : Mem) (kc ks : Nat) (hN : kc + 14 ≤ 50 ∧ ks + 143 ≤ 527) : Wo C G 8 (QP C G rvJ 50 527) (b_X8_addLot_147 G.2.2.2.1 G.2.2.2.2  a0 x147_3 x147_4 x147_6 σ) σ kc ks 147 [(0, va_rf (some a0)), (3, .int x147_3), (4, .long x147_4), (6, va_rf x147_6)] [] := by
  unfold b_X8_addLot_147
  refine r_aload hC 3 (r := x147_6) rfl dX8_addLot_147 ?_
  refine call_V hC (av := []) (st := []) (r := x147_6) (ci := 7) rfl rfl (fun h9 => ct_X5_isOffered hC.hl G h9 σ) q_1223 q_1224 q_1225 q_63 q_1226 yd_X5_isOffered rfl ⟨Nat.le_of_ble_eq_true rfl, Nat.le_of_ble_eq_true rfl⟩ ⟨by omega, by omega⟩ rfl (Nat.le_of_ble_eq_true rfl) dX8_addLot_149 (fun v6 σ7 => ?_)
  show Wo _ _ _ _ _ _ _ _ _ _ [.int v6]
  refine r_if_ne hC 158 dX8_addLot_152 (by decide) ?_ ?_
  · refine r_lload hC 2 rfl dX8_addLot_158 ?_
    refine r_aloadn hC 0 (r := (some a0)) rfl rfl dX8_addLot_160 ?_
    refine r_iloadn hC 1 rfl rfl dX8_addLot_161 ?_
    refine call_V hC (av := [.int x147_3]) (st := [.long x147_4]) (r := (some a0)) (ci := 10) rfl rfl (fun h9 => ct_X8_wouldPayNow hC.hl G h9 x147_3 σ7) q_1448 q_1450 q_36 q_44 q_1451 yd_X8_wouldPayNow rfl ⟨Nat.le_of_ble_eq_true rfl, Nat.le_of_ble_eq_true rfl⟩ ⟨by omega, by omega⟩ rfl (by simp [cat_rf, cat_i, cat_j, cat_d, cat_a]) dX8_addLot_162 (fun v9 σ10 => ?_)
    show Wo _ _ _ _ _ _ _ _ _ _ [.int v9, .long x147_4]
    refine r_i2l hC dX8_addLot_165 (fun v12 => ?_)
    refine call_S hC (av := [.long x147_4, .long v12]) (st := []) (ct_X8_add hC.hl G x147_4 v12 σ10) q_1457 q_1458 q_44 q_1459 yd_X8_add rfl ⟨Nat.le_of_ble_eq_true rfl, Nat.le_of_ble_eq_true rfl⟩ ⟨by omega, by omega⟩ rfl (Nat.le_of_ble_eq_true rfl) dX8_addLot_166 (fun v13 σ14 => ?_)
    show Wo _ _ _ _ _ _ _ _ _ _ [.long v13]
    refine r_lstore hC [(4, .long v13), (0, va_rf (some a0)), (3, .int x147_3), (6, va_rf x147_6)] (i := 4) (by decide) rfl dX8_addLot_169 ?_
    refine r_iconst hC (0) rfl dX8_addLot_171 ?_
    refine r_istore hC [(7, .int 0), (4, .long v13), (0, va_rf (some a0)), (3, .int x147_3), (6, va_rf x147_6)] (i := 7) (by decide) (by simp [List.filter, cat_rf, cat_i, cat_j, cat_d, cat_a]) dX8_addLot_172 ?_
    refine Wo.sub [2, 3, 1, 0] rfl ?_
    exact u_X8_addLot_174 hC 5 a0 x147_3 v13 0 σ14 _ _ (fun m e => by cases e; exact ⟨by omega, by omega⟩)
  · refine r_lload hC 2 rfl dX8_addLot_155 ?_
    exact e_J hC ⟨by omega, by omega⟩ dX8_addLot_157

set_option maxRecDepth 100000 in
set_option maxHeartbeats 4000000 in
theorem t_X8_addLot_125 {C : Cxt} {G : Glb} (hC : CX C G RX8 cX8_addLot 8 (some .long) 10 50 527 220) (a0 : Nat) (x125_3 : Int32) (x125_4 : Int64) (x125_6 : (Option Nat)) (σ : Mem) (kc ks : Nat) (hN : kc + 32 ≤ 50 ∧ ks + 275 ≤ 527) : Wo C G 8 (QP C G rvJ 50 527) (b_X8_addLot_125 G.2.2.2.1 G.2.2.2.2  a0 x125_3 x125_4 x125_6 σ) σ kc ks 125 [(0, va_rf (some a0)), (3, .int x125_3), (4, .long x125_4), (6, va_rf x125_6)] [] := by
  unfold b_X8_addLot_125
  refine r_aload hC 3 (r := x125_6) rfl dX8_addLot_125 ?_
  refine r_gI hC (k := 0) (r := x125_6) cls_7 (by decide) rfl q_1096 (Or.inl rfl) dX8_addLot_127 (fun v5 => ?_)
  refine r_iconst hC (1) rfl dX8_addLot_130 ?_
  refine r_icmp_ne hC 147 dX8_addLot_131 (by decide) ?_ ?_
  · exact t_X8_addLot_147 hC a0 x125_3 x125_4 x125_6 σ _ _ ⟨by omega, by omega⟩
  · refine r_lload hC 2 rfl dX8_addLot_134 ?_
    refine r_aloadn hC 0 (r := (some a0)) rfl rfl dX8_addLot_136 ?_
    refine r_iloadn hC 1 rfl rfl dX8_addLot_137 ?_
    refine call_V hC (av := [.int x125_3]) (st := [.long x125_4]) (r := (some a0)) (ci := 10) rfl rfl (fun h9 => ct_X8_bestFireNow hC.hl G h9 x125_3 σ) q_1422 q_1424 q_34 q_44 q_1425 yd_X8_bestFireNow rfl ⟨Nat.le_of_ble_eq_true rfl, Nat.le_of_ble_eq_true rfl⟩ ⟨by omega, by omega⟩ rfl (by simp [cat_rf, cat_i, cat_j, cat_d, cat_a]) dX8_addLot_138 (fun v22 σ23 => ?_)
    show Wo _ _ _ _ _ _ _ _ _ _ [.int v22, .long x125_4]
    refine r_i2l hC dX8_addLot_141 (fun v25 => ?_)
    refine call_S hC (av := [.long x125_4, .long v25]) (st := []) (ct_X8_add hC.hl G x125_4 v25 σ23) q_1457 q_1458 q_44 q_1459 yd_X8_add rfl ⟨Nat.le_of_ble_eq_true rfl, Nat.le_of_ble_eq_true rfl⟩ ⟨by omega, by omega⟩ rfl (Nat.le_of_ble_eq_true rfl) dX8_addLot_142 (fun v26 σ27 => ?_)
    show Wo _ _ _ _ _ _ _ _ _ _ [.long v26]
    refine r_lstore hC [(4, .long v26), (0, va_rf (some a0)), (3, .int x125_3), (6, va_rf x125_6)] (i := 4) (by decide) rfl dX8_addLot_145 ?_
    refine Wo.sub [1, 2, 0, 3] rfl ?_
    exact t_X8_addLot_147 hC a0 x125_3 v26 x125_6 σ27 _ _ ⟨by omega, by omega⟩

set_option maxRecDepth 100000 in
set_option maxHeartbeats 4000000 in
theorem t_X8_addLot_89 {C : Cxt} {G : Glb} (hC : CX C G RX8 cX8_addLot 8 (some .long) 10 50 527 220) (P89 : Nat → Nat → Prop) (hm89 : ∀ a b a2 b2 : Nat, a ≤ a2 → b ≤ b2 → P89 a2 b2 → P89 a b) (k89 : Nat → Int32 → Int64 → (Option Nat) → Int32 → Mem → Option ((Int64) × Mem)) (hk89 : ∀ (a0 : Nat) (x89_3 : Int32) (x89_4 : Int64) (x89_6 : (Option Nat)) (x89_7 : Int32) (σ : Mem) (kc ks : Nat), P89 kc ks → Wo C G 8 (QP C G rvJ 50 527) (k89 a0 x89_3 x89_4 x89_6 x89_7 σ) σ kc ks 89 [(0, va_rf (some a0)), (3, .int x89_3), (4, .long x89_4), (6, va_rf x89_6), (7, .int x89_7)] []) (a0 : Nat) (x89_3 : Int32) (x89_4 : Int64) (x89_6 : (Option Nat)) (x89_7 : Int32) (σ : Mem) (kc ks : Nat) (hN : kc + 32 ≤ 50 ∧ ks + 275 ≤ 527) (hP89 : P89 (kc + 0) (ks + 0)) : Wo C G 8 (QP C G rvJ 50 527) (b_X8_addLot_89 G.2.2.2.1 G.2.2.2.2 k89 a0 x89_3 x89_4 x89_6 x89_7 σ) σ kc ks 89 [(0, va_rf (some a0)), (3, .int x89_3), (4, .long x89_4), (6, va_rf x89_6), (7, .int x89_7)] [] := by
  unfold b_X8_addLot_89
  refine r_iload hC 4 rfl dX8_addLot_89 ?_
  refine r_iconst hC (3) rfl dX8_addLot_91 ?_
  refine r_icmp_ge hC 125 dX8_addLot_92 (by decide) ?_ ?_
  · refine Wo.sub [0, 1, 2, 3] rfl ?_
    exact t_X8_addLot_125 hC a0 x89_3 x89_4 x89_6 σ _ _ ⟨by omega, by omega⟩
  · refine r_aload hC 3 (r := x89_6) rfl dX8_addLot_95 ?_
    refine r_gI hC (k := 0) (r := x89_6) cls_7 (by decide) rfl q_1096 (Or.inl rfl) dX8_addLot_97 (fun v28 => ?_)
    refine r_iconst hC (2) rfl dX8_addLot_100 ?_
    refine r_icmp_ne hC 125 dX8_addLot_101 (by decide) ?_ ?_
    · refine Wo.sub [0, 1, 2, 3] rfl ?_
      exact t_X8_addLot_125 hC a0 x89_3 x89_4 x89_6 σ _ _ ⟨by omega, by omega⟩
    · refine r_lload hC 2 rfl dX8_addLot_104 ?_
      refine r_aloadn hC 0 (r := (some a0)) rfl rfl dX8_addLot_106 ?_
      refine r_iloadn hC 1 rfl rfl dX8_addLot_107 ?_
      refine r_iload hC 4 rfl dX8_addLot_108 ?_
      refine call_V hC (av := [.int x89_3, .int x89_7]) (st := [.long x89_4]) (r := (some a0)) (ci := 10) rfl rfl (fun h9 => ct_X8_tasteNow hC.hl G h9 x89_3 x89_7 σ) q_1361 q_1363 q_28 q_44 q_1364 yd_X8_tasteNow rfl ⟨Nat.le_of_ble_eq_true rfl, Nat.le_of_ble_eq_true rfl⟩ ⟨by omega, by omega⟩ rfl (by simp [cat_rf, cat_i, cat_j, cat_d, cat_a]) dX8_addLot_110 (fun v29 σ30 => ?_)
      show Wo _ _ _ _ _ _ _ _ _ _ [.int v29, .long x89_4]
      refine r_i2l hC dX8_addLot_113 (fun v32 => ?_)
      refine call_S hC (av := [.long x89_4, .long v32]) (st := []) (ct_X8_add hC.hl G x89_4 v32 σ30) q_1457 q_1458 q_44 q_1459 yd_X8_add rfl ⟨Nat.le_of_ble_eq_true rfl, Nat.le_of_ble_eq_true rfl⟩ ⟨by omega, by omega⟩ rfl (Nat.le_of_ble_eq_true rfl) dX8_addLot_114 (fun v33 σ34 => ?_)
      show Wo _ _ _ _ _ _ _ _ _ _ [.long v33]
      refine r_lstore hC [(4, .long v33), (0, va_rf (some a0)), (3, .int x89_3), (6, va_rf x89_6), (7, .int x89_7)] (i := 4) (by decide) rfl dX8_addLot_117 ?_
      refine r_iinc hC 4 (fun w => [(7, .int w), (4, .long v33), (0, va_rf (some a0)), (3, .int x89_3), (6, va_rf x89_6)]) 1 rfl (by decide) rfl (fun w => by simp [List.filter, cat_rf, cat_i, cat_j, cat_d, cat_a]) dX8_addLot_119 (fun v35 => ?_)
      refine r_goto hC 89 dX8_addLot_122 (by decide) ?_
      refine Wo.sub [2, 3, 1, 4, 0] rfl ?_
      exact hk89 a0 x89_3 v33 x89_6 v35 σ34 _ _ (hm89 _ _ _ _ (by omega) (by omega) hP89)

set_option maxRecDepth 100000 in
set_option maxHeartbeats 4000000 in
theorem u_X8_addLot_89 {C : Cxt} {G : Glb} (hC : CX C G RX8 cX8_addLot 8 (some .long) 10 50 527 220) : ∀ (n : Nat) (a0 : Nat) (x89_3 : Int32) (x89_4 : Int64) (x89_6 : (Option Nat)) (x89_7 : Int32) (σ : Mem) (kc ks : Nat), (∀ m, n = m + 1 → (kc + m * 0 + 32 ≤ 50 ∧ ks + m * 0 + 275 ≤ 527)) → Wo C G 8 (QP C G rvJ 50 527) (l_X8_addLot_89 G.2.2.2.1 G.2.2.2.2  n a0 x89_3 x89_4 x89_6 x89_7 σ) σ kc ks 89 [(0, va_rf (some a0)), (3, .int x89_3), (4, .long x89_4), (6, va_rf x89_6), (7, .int x89_7)] [] := by
  intro n
  induction n with
  | zero => intro a0 x89_3 x89_4 x89_6 x89_7 σ kc ks h0; exact Wo.none
  | succ n ih =>
    intro a0 x89_3 x89_4 x89_6 x89_7 σ kc ks h0
    exact t_X8_addLot_89 hC (fun kc ks => (∀ m, n = m + 1 → (kc + m * 0 + 32 ≤ 50 ∧ ks + m * 0 + 275 ≤ 527))) (fun a b a2 b2 h1 h2 h m e => ⟨by have := (h m e).1; omega, by have := (h m e).2; omega⟩) (l_X8_addLot_89 G.2.2.2.1 G.2.2.2.2  n) ih a0 x89_3 x89_4 x89_6 x89_7 σ kc ks ⟨by have := (h0 n rfl).1; omega, by have := (h0 n rfl).2; omega⟩ (fun m e => by
      subst e
      exact ⟨by have := (h0 _ rfl).1; omega, by have := (h0 _ rfl).2; omega⟩)

set_option maxRecDepth 100000 in
set_option maxHeartbeats 4000000 in
theorem t_X8_addLot_86 {C : Cxt} {G : Glb} (hC : CX C G RX8 cX8_addLot 8 (some .long) 10 50 527 220) (a0 : Nat) (x86_3 : Int32) (x86_4 : Int64) (x86_6 : (Option Nat)) (σ : Mem) (kc ks : Nat) (hN : kc + 32 ≤ 50 ∧ ks + 275 ≤ 527) : Wo C G 8 (QP C G rvJ 50 527) (b_X8_addLot_86 G.2.2.2.1 G.2.2.2.2  a0 x86_3 x86_4 x86_6 σ) σ kc ks 86 [(0, va_rf (some a0)), (3, .int x86_3), (4, .long x86_4), (6, va_rf x86_6)] [] := by
  unfold b_X8_addLot_86
  refine r_iconst hC (0) rfl dX8_addLot_86 ?_
  refine r_istore hC [(7, .int 0), (0, va_rf (some a0)), (3, .int x86_3), (4, .long x86_4), (6, va_rf x86_6)] (i := 7) (by decide) (by simp [List.filter, cat_rf, cat_i, cat_j, cat_d, cat_a]) dX8_addLot_87 ?_
  refine Wo.sub [1, 2, 3, 4, 0] rfl ?_
  exact u_X8_addLot_89 hC 4 a0 x86_3 x86_4 x86_6 0 σ _ _ (fun m e => by cases e; exact ⟨by omega, by omega⟩)

set_option maxRecDepth 100000 in
set_option maxHeartbeats 4000000 in
theorem t_X8_addLot_50 {C : Cxt} {G : Glb} (hC : CX C G RX8 cX8_addLot 8 (some .long) 10 50 527 220) (P50 : Nat → Nat → Prop) (hm50 : ∀ a b a2 b2 : Nat, a ≤ a2 → b ≤ b2 → P50 a2 b2 → P50 a b) (k50 : Nat → Int32 → Int64 → (Option Nat) → Int32 → Mem → Option ((Int64) × Mem)) (hk50 : ∀ (a0 : Nat) (x50_3 : Int32) (x50_4 : Int64) (x50_6 : (Option Nat)) (x50_7 : Int32) (σ : Mem) (kc ks : Nat), P50 kc ks → Wo C G 8 (QP C G rvJ 50 527) (k50 a0 x50_3 x50_4 x50_6 x50_7 σ) σ kc ks 50 [(0, va_rf (some a0)), (3, .int x50_3), (4, .long x50_4), (6, va_rf x50_6), (7, .int x50_7)] []) (a0 : Nat) (x50_3 : Int32) (x50_4 : Int64) (x50_6 : (Option Nat)) (x50_7 : Int32) (σ : Mem) (kc ks : Nat) (hN : kc + 32 ≤ 50 ∧ ks + 275 ≤ 527) (hP50 : P50 (kc + 0) (ks + 0)) : Wo C G 8 (QP C G rvJ 50 527) (b_X8_addLot_50 G.2.2.2.1 G.2.2.2.2 k50 a0 x50_3 x50_4 x50_6 x50_7 σ) σ kc ks 50 [(0, va_rf (some a0)), (3, .int x50_3), (4, .long x50_4), (6, va_rf x50_6), (7, .int x50_7)] [] := by
  unfold b_X8_addLot_50
  refine r_iload hC 4 rfl dX8_addLot_50 ?_
  refine r_iconst hC (3) rfl dX8_addLot_52 ?_
  refine r_icmp_ge hC 86 dX8_addLot_53 (by decide) ?_ ?_
  · refine Wo.sub [0, 1, 2, 3] rfl ?_
    exact t_X8_addLot_86 hC a0 x50_3 x50_4 x50_6 σ _ _ ⟨by omega, by omega⟩
  · refine r_aload hC 3 (r := x50_6) rfl dX8_addLot_56 ?_
    refine r_gI hC (k := 0) (r := x50_6) cls_7 (by decide) rfl q_1096 (Or.inl rfl) dX8_addLot_58 (fun v36 => ?_)
    refine r_iconst hC (2) rfl dX8_addLot_61 ?_
    refine r_icmp_ne hC 86 dX8_addLot_62 (by decide) ?_ ?_
    · refine Wo.sub [0, 1, 2, 3] rfl ?_
      exact t_X8_addLot_86 hC a0 x50_3 x50_4 x50_6 σ _ _ ⟨by omega, by omega⟩
    · refine r_lload hC 2 rfl dX8_addLot_65 ?_
      refine r_aload hC 3 (r := x50_6) rfl dX8_addLot_67 ?_
      refine r_iload hC 4 rfl dX8_addLot_69 ?_
      refine call_V hC (av := [.int x50_7]) (st := [.long x50_4]) (r := x50_6) (ci := 7) rfl rfl (fun h9 => ct_X5_note hC.hl G h9 x50_7 σ) q_1262 q_1263 q_1264 q_63 q_1265 yd_X5_note rfl ⟨Nat.le_of_ble_eq_true rfl, Nat.le_of_ble_eq_true rfl⟩ ⟨by omega, by omega⟩ rfl (by simp [cat_rf, cat_i, cat_j, cat_d, cat_a]) dX8_addLot_71 (fun v37 σ38 => ?_)
      show Wo _ _ _ _ _ _ _ _ _ _ [.int v37, .long x50_4]
      refine r_i2l hC dX8_addLot_74 (fun v40 => ?_)
      refine call_S hC (av := [.long x50_4, .long v40]) (st := []) (ct_X8_add hC.hl G x50_4 v40 σ38) q_1457 q_1458 q_44 q_1459 yd_X8_add rfl ⟨Nat.le_of_ble_eq_true rfl, Nat.le_of_ble_eq_true rfl⟩ ⟨by omega, by omega⟩ rfl (Nat.le_of_ble_eq_true rfl) dX8_addLot_75 (fun v41 σ42 => ?_)
      show Wo _ _ _ _ _ _ _ _ _ _ [.long v41]
      refine r_lstore hC [(4, .long v41), (0, va_rf (some a0)), (3, .int x50_3), (6, va_rf x50_6), (7, .int x50_7)] (i := 4) (by decide) rfl dX8_addLot_78 ?_
      refine r_iinc hC 4 (fun w => [(7, .int w), (4, .long v41), (0, va_rf (some a0)), (3, .int x50_3), (6, va_rf x50_6)]) 1 rfl (by decide) rfl (fun w => by simp [List.filter, cat_rf, cat_i, cat_j, cat_d, cat_a]) dX8_addLot_80 (fun v43 => ?_)
      refine r_goto hC 50 dX8_addLot_83 (by decide) ?_
      refine Wo.sub [2, 3, 1, 4, 0] rfl ?_
      exact hk50 a0 x50_3 v41 x50_6 v43 σ42 _ _ (hm50 _ _ _ _ (by omega) (by omega) hP50)

set_option maxRecDepth 100000 in
set_option maxHeartbeats 4000000 in
theorem u_X8_addLot_50 {C : Cxt} {G : Glb} (hC : CX C G RX8 cX8_addLot 8 (some .long) 10 50 527 220) : ∀ (n : Nat) (a0 : Nat) (x50_3 : Int32) (x50_4 : Int64) (x50_6 : (Option Nat)) (x50_7 : Int32) (σ : Mem) (kc ks : Nat), (∀ m, n = m + 1 → (kc + m * 0 + 32 ≤ 50 ∧ ks + m * 0 + 275 ≤ 527)) → Wo C G 8 (QP C G rvJ 50 527) (l_X8_addLot_50 G.2.2.2.1 G.2.2.2.2  n a0 x50_3 x50_4 x50_6 x50_7 σ) σ kc ks 50 [(0, va_rf (some a0)), (3, .int x50_3), (4, .long x50_4), (6, va_rf x50_6), (7, .int x50_7)] [] := by
  intro n
  induction n with
  | zero => intro a0 x50_3 x50_4 x50_6 x50_7 σ kc ks h0; exact Wo.none
  | succ n ih =>
    intro a0 x50_3 x50_4 x50_6 x50_7 σ kc ks h0
    exact t_X8_addLot_50 hC (fun kc ks => (∀ m, n = m + 1 → (kc + m * 0 + 32 ≤ 50 ∧ ks + m * 0 + 275 ≤ 527))) (fun a b a2 b2 h1 h2 h m e => ⟨by have := (h m e).1; omega, by have := (h m e).2; omega⟩) (l_X8_addLot_50 G.2.2.2.1 G.2.2.2.2  n) ih a0 x50_3 x50_4 x50_6 x50_7 σ kc ks ⟨by have := (h0 n rfl).1; omega, by have := (h0 n rfl).2; omega⟩ (fun m e => by
      subst e
      exact ⟨by have := (h0 _ rfl).1; omega, by have := (h0 _ rfl).2; omega⟩)

set_option maxRecDepth 100000 in
set_option maxHeartbeats 4000000 in
theorem t_X8_addLot_19 {C : Cxt} {G : Glb} (hC : CX C G RX8 cX8_addLot 8 (some .long) 10 50 527 220) (P19 : Nat → Nat → Prop) (hm19 : ∀ a b a2 b2 : Nat, a ≤ a2 → b ≤ b2 → P19 a2 b2 → P19 a b) (k19 : Nat → Int32 → Int64 → (Option Nat) → Int32 → Mem → Option ((Int64) × Mem)) (hk19 : ∀ (a0 : Nat) (x19_3 : Int32) (x19_4 : Int64) (x19_6 : (Option Nat)) (x19_7 : Int32) (σ : Mem) (kc ks : Nat), P19 kc ks → Wo C G 8 (QP C G rvJ 50 527) (k19 a0 x19_3 x19_4 x19_6 x19_7 σ) σ kc ks 19 [(0, va_rf (some a0)), (3, .int x19_3), (4, .long x19_4), (6, va_rf x19_6), (7, .int x19_7)] []) (a0 : Nat) (x19_3 : Int32) (x19_4 : Int64) (x19_6 : (Option Nat)) (x19_7 : Int32) (σ : Mem) (kc ks : Nat) (hN : kc + 32 ≤ 50 ∧ ks + 275 ≤ 527) (hP19 : P19 (kc + 1) (ks + 14)) : Wo C G 8 (QP C G rvJ 50 527) (b_X8_addLot_19 G.2.2.2.1 G.2.2.2.2 k19 a0 x19_3 x19_4 x19_6 x19_7 σ) σ kc ks 19 [(0, va_rf (some a0)), (3, .int x19_3), (4, .long x19_4), (6, va_rf x19_6), (7, .int x19_7)] [] := by
  unfold b_X8_addLot_19
  refine r_iload hC 4 rfl dX8_addLot_19 ?_
  refine r_bipush hC (18) (by decide) dX8_addLot_21 ?_
  refine r_icmp_ge hC 47 dX8_addLot_23 (by decide) ?_ ?_
  · refine r_iconst hC (0) rfl dX8_addLot_47 ?_
    refine r_istore hC [(7, .int 0), (0, va_rf (some a0)), (3, .int x19_3), (4, .long x19_4), (6, va_rf x19_6)] (i := 7) (by decide) (by simp [List.filter, cat_rf, cat_i, cat_j, cat_d, cat_a]) dX8_addLot_48 ?_
    refine Wo.sub [1, 2, 3, 4, 0] rfl ?_
    exact u_X8_addLot_50 hC 4 a0 x19_3 x19_4 x19_6 0 σ _ _ (fun m e => by cases e; exact ⟨by omega, by omega⟩)
  · refine r_lload hC 2 rfl dX8_addLot_26 ?_
    refine r_aloadn hC 0 (r := (some a0)) rfl rfl dX8_addLot_28 ?_
    refine r_iloadn hC 1 rfl rfl dX8_addLot_29 ?_
    refine r_iload hC 4 rfl dX8_addLot_30 ?_
    refine call_V hC (av := [.int x19_3, .int x19_7]) (st := [.long x19_4]) (r := (some a0)) (ci := 10) rfl rfl (fun h9 => ct_X8_ofLotNow hC.hl G h9 x19_3 x19_7 σ) q_1345 q_1347 q_26 q_44 q_1348 yd_X8_ofLotNow rfl ⟨Nat.le_of_ble_eq_true rfl, Nat.le_of_ble_eq_true rfl⟩ ⟨by omega, by omega⟩ rfl (by simp [cat_rf, cat_i, cat_j, cat_d, cat_a]) dX8_addLot_32 (fun v44 σ45 => ?_)
    show Wo _ _ _ _ _ _ _ _ _ _ [.int v44, .long x19_4]
    refine r_i2l hC dX8_addLot_35 (fun v47 => ?_)
    refine call_S hC (av := [.long x19_4, .long v47]) (st := []) (ct_X8_add hC.hl G x19_4 v47 σ45) q_1457 q_1458 q_44 q_1459 yd_X8_add rfl ⟨Nat.le_of_ble_eq_true rfl, Nat.le_of_ble_eq_true rfl⟩ ⟨by omega, by omega⟩ rfl (Nat.le_of_ble_eq_true rfl) dX8_addLot_36 (fun v48 σ49 => ?_)
    show Wo _ _ _ _ _ _ _ _ _ _ [.long v48]
    refine r_lstore hC [(4, .long v48), (0, va_rf (some a0)), (3, .int x19_3), (6, va_rf x19_6), (7, .int x19_7)] (i := 4) (by decide) rfl dX8_addLot_39 ?_
    refine r_iinc hC 4 (fun w => [(7, .int w), (4, .long v48), (0, va_rf (some a0)), (3, .int x19_3), (6, va_rf x19_6)]) 1 rfl (by decide) rfl (fun w => by simp [List.filter, cat_rf, cat_i, cat_j, cat_d, cat_a]) dX8_addLot_41 (fun v50 => ?_)
    refine r_goto hC 19 dX8_addLot_44 (by decide) ?_
    refine Wo.sub [2, 3, 1, 4, 0] rfl ?_
    exact hk19 a0 x19_3 v48 x19_6 v50 σ49 _ _ (hm19 _ _ _ _ (by omega) (by omega) hP19)

set_option maxRecDepth 100000 in
set_option maxHeartbeats 4000000 in
theorem u_X8_addLot_19 {C : Cxt} {G : Glb} (hC : CX C G RX8 cX8_addLot 8 (some .long) 10 50 527 220) : ∀ (n : Nat) (a0 : Nat) (x19_3 : Int32) (x19_4 : Int64) (x19_6 : (Option Nat)) (x19_7 : Int32) (σ : Mem) (kc ks : Nat), (∀ m, n = m + 1 → (kc + m * 1 + 32 ≤ 50 ∧ ks + m * 14 + 275 ≤ 527)) → Wo C G 8 (QP C G rvJ 50 527) (l_X8_addLot_19 G.2.2.2.1 G.2.2.2.2  n a0 x19_3 x19_4 x19_6 x19_7 σ) σ kc ks 19 [(0, va_rf (some a0)), (3, .int x19_3), (4, .long x19_4), (6, va_rf x19_6), (7, .int x19_7)] [] := by
  intro n
  induction n with
  | zero => intro a0 x19_3 x19_4 x19_6 x19_7 σ kc ks h0; exact Wo.none
  | succ n ih =>
    intro a0 x19_3 x19_4 x19_6 x19_7 σ kc ks h0
    exact t_X8_addLot_19 hC (fun kc ks => (∀ m, n = m + 1 → (kc + m * 1 + 32 ≤ 50 ∧ ks + m * 14 + 275 ≤ 527))) (fun a b a2 b2 h1 h2 h m e => ⟨by have := (h m e).1; omega, by have := (h m e).2; omega⟩) (l_X8_addLot_19 G.2.2.2.1 G.2.2.2.2  n) ih a0 x19_3 x19_4 x19_6 x19_7 σ kc ks ⟨by have := (h0 n rfl).1; omega, by have := (h0 n rfl).2; omega⟩ (fun m e => by
      subst e
      exact ⟨by have := (h0 _ rfl).1; omega, by have := (h0 _ rfl).2; omega⟩)

set_option maxRecDepth 100000 in
set_option maxHeartbeats 4000000 in
theorem t_X8_addLot_0 {C : Cxt} {G : Glb} (hC : CX C G RX8 cX8_addLot 8 (some .long) 10 50 527 220) (a0 : Nat) (p0 : Int64) (p1 : Int32) (σ : Mem) (kc ks : Nat) (hN : kc + 50 ≤ 50 ∧ ks + 527 ≤ 527) : Wo C G 8 (QP C G rvJ 50 527) (b_X8_addLot_0 G.2.2.2.1 G.2.2.2.2  a0 p0 p1 σ) σ kc ks 0 [(0, va_rf (some a0)), (1, .long p0), (3, .int p1)] [] := by
  unfold b_X8_addLot_0
  refine r_lloadn hC 1 rfl rfl dX8_addLot_0 ?_
  refine r_lstore hC [(4, .long p0), (0, va_rf (some a0)), (1, .long p0), (3, .int p1)] (i := 4) (by decide) rfl dX8_addLot_1 ?_
  refine r_aloadn hC 1 (r := (some a0)) rfl rfl dX8_addLot_3 ?_
  refine r_gR hC (k := 7) (r := (some a0)) cls_10 (by decide) rfl q_847 (Or.inl rfl) dX8_addLot_4 (fun r1 => ?_)
  refine r_iloadn hC 3 rfl rfl dX8_addLot_7 ?_
  refine call_V hC (av := [.int p1]) (st := []) (r := r1) (ci := 1) rfl rfl (fun h9 => ct_Jx4a65c_get_915e3 hC.hl G h9 p1 σ) q_1057 q_1058 q_1059 q_47 q_1060 yd_Jx4a65c_get_915e3 rfl ⟨Nat.le_of_ble_eq_true rfl, Nat.le_of_ble_eq_true rfl⟩ ⟨by omega, by omega⟩ rfl (Nat.le_of_ble_eq_true rfl) dX8_addLot_8 (fun r2 σ3 => ?_)
  show Wo _ _ _ _ _ _ _ _ _ _ [va_rf r2]
  refine r_ckO hC (r := r2) cls_7 q_1087 dX8_addLot_11 ?_
  refine r_astore hC [(6, va_rf r2), (4, .long p0), (0, va_rf (some a0)), (1, .long p0), (3, .int p1)] (r := r2) (i := 6) (by decide) rfl dX8_addLot_14 ?_
  refine r_iconst hC (0) rfl dX8_addLot_16 ?_
  refine r_istore hC [(7, .int 0), (6, va_rf r2), (4, .long p0), (0, va_rf (some a0)), (1, .long p0), (3, .int p1)] (i := 7) (by decide) (by simp [List.filter, cat_rf, cat_i, cat_j, cat_d, cat_a]) dX8_addLot_17 ?_
  refine Wo.sub [3, 5, 2, 1, 0] rfl ?_
  exact u_X8_addLot_19 hC 19 a0 p1 p0 r2 0 σ3 _ _ (fun m e => by cases e; exact ⟨by omega, by omega⟩)

set_option maxRecDepth 100000 in
set_option maxHeartbeats 4000000 in
theorem ct_X8_addLot {l : Launch} (hl : l.stackTraces = false) (G : Glb) (a0 : Nat) (p0 : Int64) (p1 : Int32) (σ : Mem) : Ct rvJ l yX8_addLot (Cond.code yX8_addLot cX8_addLot 8 (some .long) :: uW) { frames := 10, cells := 50, slots := 527, locals := 220 } 50 527 G [.ref a0, .long p0, .int p1] σ (f_X8_addLot G.2.2.2.1 G.2.2.2.2 a0 p0 p1 σ) := by
  refine Ct.of hl (by decide +kernel) (Nat.le_of_ble_eq_true rfl) (fun C hC hin => ?_)
  have e : lv_args 0 [.ref a0, .long p0, .int p1] = [(0, .ref a0), (1, .long p0), (3, .int p1)] := rfl
  rw [e]
  exact t_X8_addLot_0 hC a0 p0 p1 σ 0 0 ⟨Nat.le_of_ble_eq_true rfl, Nat.le_of_ble_eq_true rfl⟩

noncomputable def b_X8_digest_123 (e0 mi : Nat) (k123 : Nat → Int64 → Int32 → Mem → Option ((Int64) × Mem)) (a0 : Nat) (x123_1 : Int64) (x123_3 : Int32) (σ : Mem) : Option ((Int64) × Mem) :=
if 3 ≤ x123_3 then
nA 0 3 σ 3 fun σ10 r11 =>
wI σ10 r11 0 3 fun σ12 =>
wI σ12 r11 1 3 fun σ13 =>
wI σ13 r11 2 3 fun σ14 =>
ob 10 σ14 (some a0) fun h17 => cl1 (f_X8_bestMixNow h17 r11 σ14) fun v15 σ16 =>
nm (v15.toInt64) fun v18 =>
cl1 (f_X8_add x123_1 v18 σ16) fun v19 σ20 =>
some (v19, σ20)
else
ob 10 σ (some a0) fun h23 => cl1 (f_X8_ofTasterNow h23 x123_3 0 σ) fun v21 σ22 =>
nm (v21.toInt64) fun v24 =>
cl1 (f_X8_add x123_1 v24 σ22) fun v25 σ26 =>
ob 10 σ26 (some a0) fun h29 => cl1 (f_X8_ofTasterNow h29 x123_3 1 σ26) fun v27 σ28 =>
nm (v27.toInt64) fun v30 =>
cl1 (f_X8_add v25 v30 σ28) fun v31 σ32 =>
nm (x123_3 + 1) fun v33 =>
k123 a0 v31 v33 σ32

noncomputable def l_X8_digest_123 (e0 mi : Nat) (n : Nat) : Nat → Int64 → Int32 → Mem → Option ((Int64) × Mem) := itr (fun _ _ _ _ => none) (fun k => b_X8_digest_123 e0 mi  k) n

noncomputable def b_X8_digest_97 (e0 mi : Nat) (k97 : Nat → Int64 → Int32 → Mem → Option ((Int64) × Mem)) (a0 : Nat) (x97_1 : Int64) (x97_3 : Int32) (σ : Mem) : Option ((Int64) × Mem) :=
gR 10 7 σ (some a0) fun r6 =>
ob 1 σ r6 fun h9 => cl1 (f_Jx4a65c_size_8abf5 h9 σ) fun v7 σ8 =>
if v7 ≤ x97_3 then
l_X8_digest_123 e0 mi 4 a0 x97_1 0 σ8
else
ob 10 σ8 (some a0) fun h36 => cl1 (f_X8_addLot e0 mi h36 x97_1 x97_3 σ8) fun v34 σ35 =>
nm (x97_3 + 1) fun v37 =>
k97 a0 v34 v37 σ35

noncomputable def l_X8_digest_97 (e0 mi : Nat) (n : Nat) : Nat → Int64 → Int32 → Mem → Option ((Int64) × Mem) := itr (fun _ _ _ _ => none) (fun k => b_X8_digest_97 e0 mi  k) n

noncomputable def b_X8_digest_50 (e0 mi : Nat) (k36 : Nat → Int64 → Int32 → Mem → Option ((Int64) × Mem)) (k50 : Nat → Int64 → Int32 → Int32 → Mem → Option ((Int64) × Mem)) (a0 : Nat) (x50_1 : Int64) (x50_3 : Int32) (x50_4 : Int32) (σ : Mem) : Option ((Int64) × Mem) :=
if 11 ≤ x50_4 then
ob 10 σ (some a0) fun h40 => cl1 (f_X8_flushInNow h40 x50_3 3 2 σ) fun v38 σ39 =>
nm (v38.toInt64) fun v41 =>
cl1 (f_X8_add x50_1 v41 σ39) fun v42 σ43 =>
nm (x50_3 + 1) fun v44 =>
k36 a0 v42 v44 σ43
else
ob 10 σ (some a0) fun h47 => cl1 (f_X8_ofSectionNow h47 x50_3 x50_4 σ) fun v45 σ46 =>
nm (v45.toInt64) fun v48 =>
cl1 (f_X8_add x50_1 v48 σ46) fun v49 σ50 =>
nm (x50_4 + 1) fun v51 =>
k50 a0 v49 x50_3 v51 σ50

noncomputable def l_X8_digest_50 (e0 mi : Nat) (k36 : Nat → Int64 → Int32 → Mem → Option ((Int64) × Mem)) (n : Nat) : Nat → Int64 → Int32 → Int32 → Mem → Option ((Int64) × Mem) := itr (fun _ _ _ _ _ => none) (fun k => b_X8_digest_50 e0 mi k36 k) n

noncomputable def b_X8_digest_36 (e0 mi : Nat) (k36 : Nat → Int64 → Int32 → Mem → Option ((Int64) × Mem)) (a0 : Nat) (x36_1 : Int64) (x36_3 : Int32) (σ : Mem) : Option ((Int64) × Mem) :=
gR 10 6 σ (some a0) fun r2 =>
ob 1 σ r2 fun h5 => cl1 (f_Jx4a65c_size_8abf5 h5 σ) fun v3 σ4 =>
if v3 ≤ x36_3 then
l_X8_digest_97 e0 mi 17 a0 x36_1 0 σ4
else
l_X8_digest_50 e0 mi k36 12 a0 x36_1 x36_3 0 σ4

noncomputable def l_X8_digest_36 (e0 mi : Nat) (n : Nat) : Nat → Int64 → Int32 → Mem → Option ((Int64) × Mem) := itr (fun _ _ _ _ => none) (fun k => b_X8_digest_36 e0 mi  k) n

noncomputable def b_X8_digest_11 (e0 mi : Nat) (k11 : Nat → Int64 → Int32 → Mem → Option ((Int64) × Mem)) (a0 : Nat) (x11_1 : Int64) (x11_3 : Int32) (σ : Mem) : Option ((Int64) × Mem) :=
if 15 ≤ x11_3 then
l_X8_digest_36 e0 mi 5 a0 x11_1 0 σ
else
ob 10 σ (some a0) fun h54 => cl1 (f_X8_manyNow e0 mi h54 x11_3 σ) fun v52 σ53 =>
nm (v52.toInt64) fun v55 =>
cl1 (f_X8_add x11_1 v55 σ53) fun v56 σ57 =>
nm (x11_3 + 1) fun v58 =>
k11 a0 v56 v58 σ57

noncomputable def l_X8_digest_11 (e0 mi : Nat) (n : Nat) : Nat → Int64 → Int32 → Mem → Option ((Int64) × Mem) := itr (fun _ _ _ _ => none) (fun k => b_X8_digest_11 e0 mi  k) n

noncomputable def b_X8_digest_0 (e0 mi : Nat) (a0 : Nat) (σ : Mem) : Option ((Int64) × Mem) :=
pI 10 0 σ (some a0) 0 fun σ1 =>
l_X8_digest_11 e0 mi 16 a0 5402 0 σ1

noncomputable def f_X8_digest (e0 mi : Nat) (a0 : Nat) (σ : Mem) : Option ((Int64) × Mem) := b_X8_digest_0 e0 mi a0 σ
set_option maxRecDepth 100000 in
set_option maxHeartbeats 4000000 in
theorem t_X8_digest_123 {C : Cxt} {G : Glb} (hC : CX C G RX8 cX8_digest 5 (some .long) 11 977 9676 247) (P123 : Nat → Nat → Prop) (hm123 : ∀ a b a2 b2 : Nat, a ≤ a2 → b ≤ b2 → P123 a2 b2 → P123 a b) (k123 : Nat → Int64 → Int32 → Mem → Option ((Int64) × Mem)) (hk123 : ∀ (a0 : Nat) (x123_1 : Int64) (x123_3 : Int32) (σ : Mem) (kc ks : Nat), P123 kc ks → Wo C G 5 (QP C G rvJ 977 9676) (k123 a0 x123_1 x123_3 σ) σ kc ks 123 [(0, va_rf (some a0)), (1, .long x123_1), (3, .int x123_3)] []) (a0 : Nat) (x123_1 : Int64) (x123_3 : Int32) (σ : Mem) (kc ks : Nat) (hN : kc + 1 ≤ 977 ∧ ks + 3 ≤ 9676) (hP123 : P123 (kc + 0) (ks + 0)) : Wo C G 5 (QP C G rvJ 977 9676) (b_X8_digest_123 G.2.2.2.1 G.2.2.2.2 k123 a0 x123_1 x123_3 σ) σ kc ks 123 [(0, va_rf (some a0)), (1, .long x123_1), (3, .int x123_3)] [] := by
  unfold b_X8_digest_123
  refine r_iloadn hC 2 rfl rfl dX8_digest_123 ?_
  refine r_iconst hC (3) rfl dX8_digest_124 ?_
  refine r_icmp_ge hC 156 dX8_digest_125 (by decide) ?_ ?_
  · refine r_lloadn hC 1 rfl rfl dX8_digest_156 ?_
    refine r_aloadn hC 0 (r := (some a0)) rfl rfl dX8_digest_157 ?_
    refine r_iconst hC (3) rfl dX8_digest_158 ?_
    refine r_nA hC (t := 0) (b := 3) (ty := .int) rfl rfl rfl (fun _ h => va_nm_int h) q_102 (Nat.le_of_ble_eq_true rfl) ⟨by omega, by omega⟩ dX8_digest_159 (fun σ10 r11 => ?_)
    refine r_dup hC (cat_rf _) dX8_digest_161 ?_
    refine r_iconst hC (0) rfl dX8_digest_162 ?_
    refine r_iconst hC (3) rfl dX8_digest_163 ?_
    refine r_wI hC (r := r11) dX8_digest_164 (fun σ12 => ?_)
    refine r_dup hC (cat_rf _) dX8_digest_165 ?_
    refine r_iconst hC (1) rfl dX8_digest_166 ?_
    refine r_iconst hC (3) rfl dX8_digest_167 ?_
    refine r_wI hC (r := r11) dX8_digest_168 (fun σ13 => ?_)
    refine r_dup hC (cat_rf _) dX8_digest_169 ?_
    refine r_iconst hC (2) rfl dX8_digest_170 ?_
    refine r_iconst hC (3) rfl dX8_digest_171 ?_
    refine r_wI hC (r := r11) dX8_digest_172 (fun σ14 => ?_)
    refine call_V hC (av := [va_rf r11]) (st := [.long x123_1]) (r := (some a0)) (ci := 10) rfl rfl (fun h9 => ct_X8_bestMixNow hC.hl G h9 r11 σ14) q_1440 q_1442 q_35 q_44 q_1443 yd_X8_bestMixNow rfl ⟨Nat.le_of_ble_eq_true rfl, Nat.le_of_ble_eq_true rfl⟩ ⟨by omega, by omega⟩ rfl (by simp [cat_rf, cat_i, cat_j, cat_d, cat_a]) dX8_digest_173 (fun v15 σ16 => ?_)
    show Wo _ _ _ _ _ _ _ _ _ _ [.int v15, .long x123_1]
    refine r_i2l hC dX8_digest_176 (fun v18 => ?_)
    refine call_S hC (av := [.long x123_1, .long v18]) (st := []) (ct_X8_add hC.hl G x123_1 v18 σ16) q_1457 q_1458 q_44 q_1459 yd_X8_add rfl ⟨Nat.le_of_ble_eq_true rfl, Nat.le_of_ble_eq_true rfl⟩ ⟨by omega, by omega⟩ rfl (Nat.le_of_ble_eq_true rfl) dX8_digest_177 (fun v19 σ20 => ?_)
    show Wo _ _ _ _ _ _ _ _ _ _ [.long v19]
    exact e_J hC ⟨by omega, by omega⟩ dX8_digest_180
  · refine r_lloadn hC 1 rfl rfl dX8_digest_128 ?_
    refine r_aloadn hC 0 (r := (some a0)) rfl rfl dX8_digest_129 ?_
    refine r_iloadn hC 2 rfl rfl dX8_digest_130 ?_
    refine r_iconst hC (0) rfl dX8_digest_131 ?_
    refine call_V hC (av := [.int x123_3, .int 0]) (st := [.long x123_1]) (r := (some a0)) (ci := 10) rfl rfl (fun h9 => ct_X8_ofTasterNow hC.hl G h9 x123_3 0 σ) q_1370 q_1372 q_29 q_44 q_1373 yd_X8_ofTasterNow rfl ⟨Nat.le_of_ble_eq_true rfl, Nat.le_of_ble_eq_true rfl⟩ ⟨by omega, by omega⟩ rfl (by simp [cat_rf, cat_i, cat_j, cat_d, cat_a]) dX8_digest_132 (fun v21 σ22 => ?_)
    show Wo _ _ _ _ _ _ _ _ _ _ [.int v21, .long x123_1]
    refine r_i2l hC dX8_digest_135 (fun v24 => ?_)
    refine call_S hC (av := [.long x123_1, .long v24]) (st := []) (ct_X8_add hC.hl G x123_1 v24 σ22) q_1457 q_1458 q_44 q_1459 yd_X8_add rfl ⟨Nat.le_of_ble_eq_true rfl, Nat.le_of_ble_eq_true rfl⟩ ⟨by omega, by omega⟩ rfl (Nat.le_of_ble_eq_true rfl) dX8_digest_136 (fun v25 σ26 => ?_)
    show Wo _ _ _ _ _ _ _ _ _ _ [.long v25]
    refine r_aloadn hC 0 (r := (some a0)) rfl rfl dX8_digest_139 ?_
    refine r_iloadn hC 2 rfl rfl dX8_digest_140 ?_
    refine r_iconst hC (1) rfl dX8_digest_141 ?_
    refine call_V hC (av := [.int x123_3, .int 1]) (st := [.long v25]) (r := (some a0)) (ci := 10) rfl rfl (fun h9 => ct_X8_ofTasterNow hC.hl G h9 x123_3 1 σ26) q_1370 q_1372 q_29 q_44 q_1373 yd_X8_ofTasterNow rfl ⟨Nat.le_of_ble_eq_true rfl, Nat.le_of_ble_eq_true rfl⟩ ⟨by omega, by omega⟩ rfl (by simp [cat_rf, cat_i, cat_j, cat_d, cat_a]) dX8_digest_142 (fun v27 σ28 => ?_)
    show Wo _ _ _ _ _ _ _ _ _ _ [.int v27, .long v25]
    refine r_i2l hC dX8_digest_145 (fun v30 => ?_)
    refine call_S hC (av := [.long v25, .long v30]) (st := []) (ct_X8_add hC.hl G v25 v30 σ28) q_1457 q_1458 q_44 q_1459 yd_X8_add rfl ⟨Nat.le_of_ble_eq_true rfl, Nat.le_of_ble_eq_true rfl⟩ ⟨by omega, by omega⟩ rfl (Nat.le_of_ble_eq_true rfl) dX8_digest_146 (fun v31 σ32 => ?_)
    show Wo _ _ _ _ _ _ _ _ _ _ [.long v31]
    refine r_lstoren hC [(1, .long v31), (0, va_rf (some a0)), (3, .int x123_3)] (i := 1) rfl (by decide) rfl dX8_digest_149 ?_
    refine r_iinc hC 2 (fun w => [(3, .int w), (1, .long v31), (0, va_rf (some a0))]) 1 rfl (by decide) rfl (fun w => rfl) dX8_digest_150 (fun v33 => ?_)
    refine r_goto hC 123 dX8_digest_153 (by decide) ?_
    refine Wo.sub [2, 1, 0] rfl ?_
    exact hk123 a0 v31 v33 σ32 _ _ (hm123 _ _ _ _ (by omega) (by omega) hP123)

set_option maxRecDepth 100000 in
set_option maxHeartbeats 4000000 in
theorem u_X8_digest_123 {C : Cxt} {G : Glb} (hC : CX C G RX8 cX8_digest 5 (some .long) 11 977 9676 247) : ∀ (n : Nat) (a0 : Nat) (x123_1 : Int64) (x123_3 : Int32) (σ : Mem) (kc ks : Nat), (∀ m, n = m + 1 → (kc + m * 0 + 1 ≤ 977 ∧ ks + m * 0 + 3 ≤ 9676)) → Wo C G 5 (QP C G rvJ 977 9676) (l_X8_digest_123 G.2.2.2.1 G.2.2.2.2  n a0 x123_1 x123_3 σ) σ kc ks 123 [(0, va_rf (some a0)), (1, .long x123_1), (3, .int x123_3)] [] := by
  intro n
  induction n with
  | zero => intro a0 x123_1 x123_3 σ kc ks h0; exact Wo.none
  | succ n ih =>
    intro a0 x123_1 x123_3 σ kc ks h0
    exact t_X8_digest_123 hC (fun kc ks => (∀ m, n = m + 1 → (kc + m * 0 + 1 ≤ 977 ∧ ks + m * 0 + 3 ≤ 9676))) (fun a b a2 b2 h1 h2 h m e => ⟨by have := (h m e).1; omega, by have := (h m e).2; omega⟩) (l_X8_digest_123 G.2.2.2.1 G.2.2.2.2  n) ih a0 x123_1 x123_3 σ kc ks ⟨by have := (h0 n rfl).1; omega, by have := (h0 n rfl).2; omega⟩ (fun m e => by
      subst e
      exact ⟨by have := (h0 _ rfl).1; omega, by have := (h0 _ rfl).2; omega⟩)

set_option maxRecDepth 100000 in
set_option maxHeartbeats 4000000 in
theorem t_X8_digest_97 {C : Cxt} {G : Glb} (hC : CX C G RX8 cX8_digest 5 (some .long) 11 977 9676 247) (P97 : Nat → Nat → Prop) (hm97 : ∀ a b a2 b2 : Nat, a ≤ a2 → b ≤ b2 → P97 a2 b2 → P97 a b) (k97 : Nat → Int64 → Int32 → Mem → Option ((Int64) × Mem)) (hk97 : ∀ (a0 : Nat) (x97_1 : Int64) (x97_3 : Int32) (σ : Mem) (kc ks : Nat), P97 kc ks → Wo C G 5 (QP C G rvJ 977 9676) (k97 a0 x97_1 x97_3 σ) σ kc ks 97 [(0, va_rf (some a0)), (1, .long x97_1), (3, .int x97_3)] []) (a0 : Nat) (x97_1 : Int64) (x97_3 : Int32) (σ : Mem) (kc ks : Nat) (hN : kc + 50 ≤ 977 ∧ ks + 527 ≤ 9676) (hP97 : P97 (kc + 50) (ks + 527)) : Wo C G 5 (QP C G rvJ 977 9676) (b_X8_digest_97 G.2.2.2.1 G.2.2.2.2 k97 a0 x97_1 x97_3 σ) σ kc ks 97 [(0, va_rf (some a0)), (1, .long x97_1), (3, .int x97_3)] [] := by
  unfold b_X8_digest_97
  refine r_iloadn hC 2 rfl rfl dX8_digest_97 ?_
  refine r_aloadn hC 0 (r := (some a0)) rfl rfl dX8_digest_98 ?_
  refine r_gR hC (k := 7) (r := (some a0)) cls_10 (by decide) rfl q_847 (Or.inl rfl) dX8_digest_99 (fun r6 => ?_)
  refine call_V hC (av := []) (st := [.int x97_3]) (r := r6) (ci := 1) rfl rfl (fun h9 => ct_Jx4a65c_size_8abf5 hC.hl G h9 σ) q_890 q_891 q_892 q_47 q_893 yd_Jx4a65c_size_8abf5 rfl ⟨Nat.le_of_ble_eq_true rfl, Nat.le_of_ble_eq_true rfl⟩ ⟨by omega, by omega⟩ rfl (by simp [cat_rf, cat_i, cat_j, cat_d, cat_a]) dX8_digest_102 (fun v7 σ8 => ?_)
  show Wo _ _ _ _ _ _ _ _ _ _ [.int v7, .int x97_3]
  refine r_icmp_ge hC 121 dX8_digest_105 (by decide) ?_ ?_
  · refine r_iconst hC (0) rfl dX8_digest_121 ?_
    refine r_istoren hC [(3, .int 0), (0, va_rf (some a0)), (1, .long x97_1)] (i := 3) rfl (by decide) rfl dX8_digest_122 ?_
    refine Wo.sub [1, 2, 0] rfl ?_
    exact u_X8_digest_123 hC 4 a0 x97_1 0 σ8 _ _ (fun m e => by cases e; exact ⟨by omega, by omega⟩)
  · refine r_aloadn hC 0 (r := (some a0)) rfl rfl dX8_digest_108 ?_
    refine r_lloadn hC 1 rfl rfl dX8_digest_109 ?_
    refine r_iloadn hC 2 rfl rfl dX8_digest_110 ?_
    refine call_V hC (av := [.long x97_1, .int x97_3]) (st := []) (r := (some a0)) (ci := 10) rfl rfl (fun h9 => ct_X8_addLot hC.hl G h9 x97_1 x97_3 σ8) q_1461 q_1463 q_37 q_44 q_1464 yd_X8_addLot rfl ⟨Nat.le_of_ble_eq_true rfl, Nat.le_of_ble_eq_true rfl⟩ ⟨by omega, by omega⟩ rfl (Nat.le_of_ble_eq_true rfl) dX8_digest_111 (fun v34 σ35 => ?_)
    show Wo _ _ _ _ _ _ _ _ _ _ [.long v34]
    refine r_lstoren hC [(1, .long v34), (0, va_rf (some a0)), (3, .int x97_3)] (i := 1) rfl (by decide) rfl dX8_digest_114 ?_
    refine r_iinc hC 2 (fun w => [(3, .int w), (1, .long v34), (0, va_rf (some a0))]) 1 rfl (by decide) rfl (fun w => rfl) dX8_digest_115 (fun v37 => ?_)
    refine r_goto hC 97 dX8_digest_118 (by decide) ?_
    refine Wo.sub [2, 1, 0] rfl ?_
    exact hk97 a0 v34 v37 σ35 _ _ (hm97 _ _ _ _ (by omega) (by omega) hP97)

set_option maxRecDepth 100000 in
set_option maxHeartbeats 4000000 in
theorem u_X8_digest_97 {C : Cxt} {G : Glb} (hC : CX C G RX8 cX8_digest 5 (some .long) 11 977 9676 247) : ∀ (n : Nat) (a0 : Nat) (x97_1 : Int64) (x97_3 : Int32) (σ : Mem) (kc ks : Nat), (∀ m, n = m + 1 → (kc + m * 50 + 50 ≤ 977 ∧ ks + m * 527 + 527 ≤ 9676)) → Wo C G 5 (QP C G rvJ 977 9676) (l_X8_digest_97 G.2.2.2.1 G.2.2.2.2  n a0 x97_1 x97_3 σ) σ kc ks 97 [(0, va_rf (some a0)), (1, .long x97_1), (3, .int x97_3)] [] := by
  intro n
  induction n with
  | zero => intro a0 x97_1 x97_3 σ kc ks h0; exact Wo.none
  | succ n ih =>
    intro a0 x97_1 x97_3 σ kc ks h0
    exact t_X8_digest_97 hC (fun kc ks => (∀ m, n = m + 1 → (kc + m * 50 + 50 ≤ 977 ∧ ks + m * 527 + 527 ≤ 9676))) (fun a b a2 b2 h1 h2 h m e => ⟨by have := (h m e).1; omega, by have := (h m e).2; omega⟩) (l_X8_digest_97 G.2.2.2.1 G.2.2.2.2  n) ih a0 x97_1 x97_3 σ kc ks ⟨by have := (h0 n rfl).1; omega, by have := (h0 n rfl).2; omega⟩ (fun m e => by
      subst e
      exact ⟨by have := (h0 _ rfl).1; omega, by have := (h0 _ rfl).2; omega⟩)

set_option maxRecDepth 100000 in
set_option maxHeartbeats 4000000 in
theorem t_X8_digest_50 {C : Cxt} {G : Glb} (hC : CX C G RX8 cX8_digest 5 (some .long) 11 977 9676 247) (P36 : Nat → Nat → Prop) (hm36 : ∀ a b a2 b2 : Nat, a ≤ a2 → b ≤ b2 → P36 a2 b2 → P36 a b) (k36 : Nat → Int64 → Int32 → Mem → Option ((Int64) × Mem)) (hk36 : ∀ (a0 : Nat) (x36_1 : Int64) (x36_3 : Int32) (σ : Mem) (kc ks : Nat), P36 kc ks → Wo C G 5 (QP C G rvJ 977 9676) (k36 a0 x36_1 x36_3 σ) σ kc ks 36 [(0, va_rf (some a0)), (1, .long x36_1), (3, .int x36_3)] []) (P50 : Nat → Nat → Prop) (hm50 : ∀ a b a2 b2 : Nat, a ≤ a2 → b ≤ b2 → P50 a2 b2 → P50 a b) (k50 : Nat → Int64 → Int32 → Int32 → Mem → Option ((Int64) × Mem)) (hk50 : ∀ (a0 : Nat) (x50_1 : Int64) (x50_3 : Int32) (x50_4 : Int32) (σ : Mem) (kc ks : Nat), P50 kc ks → Wo C G 5 (QP C G rvJ 977 9676) (k50 a0 x50_1 x50_3 x50_4 σ) σ kc ks 50 [(0, va_rf (some a0)), (1, .long x50_1), (3, .int x50_3), (4, .int x50_4)] []) (a0 : Nat) (x50_1 : Int64) (x50_3 : Int32) (x50_4 : Int32) (σ : Mem) (kc ks : Nat) (hN : kc + 2 ≤ 977 ∧ ks + 12 ≤ 9676) (hP36 : P36 (kc + 2) (ks + 12)) (hP50 : P50 (kc + 1) (ks + 6)) : Wo C G 5 (QP C G rvJ 977 9676) (b_X8_digest_50 G.2.2.2.1 G.2.2.2.2 k36 k50 a0 x50_1 x50_3 x50_4 σ) σ kc ks 50 [(0, va_rf (some a0)), (1, .long x50_1), (3, .int x50_3), (4, .int x50_4)] [] := by
  unfold b_X8_digest_50
  refine r_iload hC 3 rfl dX8_digest_50 ?_
  refine r_bipush hC (11) (by decide) dX8_digest_52 ?_
  refine r_icmp_ge hC 76 dX8_digest_54 (by decide) ?_ ?_
  · refine r_lloadn hC 1 rfl rfl dX8_digest_76 ?_
    refine r_aloadn hC 0 (r := (some a0)) rfl rfl dX8_digest_77 ?_
    refine r_iloadn hC 2 rfl rfl dX8_digest_78 ?_
    refine r_iconst hC (3) rfl dX8_digest_79 ?_
    refine r_iconst hC (2) rfl dX8_digest_80 ?_
    refine call_V hC (av := [.int x50_3, .int 3, .int 2]) (st := [.long x50_1]) (r := (some a0)) (ci := 10) rfl rfl (fun h9 => ct_X8_flushInNow hC.hl G h9 x50_3 3 2 σ) q_1407 q_1409 q_33 q_44 q_1410 yd_X8_flushInNow rfl ⟨Nat.le_of_ble_eq_true rfl, Nat.le_of_ble_eq_true rfl⟩ ⟨by omega, by omega⟩ rfl (by simp [cat_rf, cat_i, cat_j, cat_d, cat_a]) dX8_digest_81 (fun v38 σ39 => ?_)
    show Wo _ _ _ _ _ _ _ _ _ _ [.int v38, .long x50_1]
    refine r_i2l hC dX8_digest_84 (fun v41 => ?_)
    refine call_S hC (av := [.long x50_1, .long v41]) (st := []) (ct_X8_add hC.hl G x50_1 v41 σ39) q_1457 q_1458 q_44 q_1459 yd_X8_add rfl ⟨Nat.le_of_ble_eq_true rfl, Nat.le_of_ble_eq_true rfl⟩ ⟨by omega, by omega⟩ rfl (Nat.le_of_ble_eq_true rfl) dX8_digest_85 (fun v42 σ43 => ?_)
    show Wo _ _ _ _ _ _ _ _ _ _ [.long v42]
    refine r_lstoren hC [(1, .long v42), (0, va_rf (some a0)), (3, .int x50_3), (4, .int x50_4)] (i := 1) rfl (by decide) rfl dX8_digest_88 ?_
    refine r_iinc hC 2 (fun w => [(3, .int w), (1, .long v42), (0, va_rf (some a0)), (4, .int x50_4)]) 1 rfl (by decide) rfl (fun w => rfl) dX8_digest_89 (fun v44 => ?_)
    refine r_goto hC 36 dX8_digest_92 (by decide) ?_
    refine Wo.sub [2, 1, 0] rfl ?_
    exact hk36 a0 v42 v44 σ43 _ _ (hm36 _ _ _ _ (by omega) (by omega) hP36)
  · refine r_lloadn hC 1 rfl rfl dX8_digest_57 ?_
    refine r_aloadn hC 0 (r := (some a0)) rfl rfl dX8_digest_58 ?_
    refine r_iloadn hC 2 rfl rfl dX8_digest_59 ?_
    refine r_iload hC 3 rfl dX8_digest_60 ?_
    refine call_V hC (av := [.int x50_3, .int x50_4]) (st := [.long x50_1]) (r := (some a0)) (ci := 10) rfl rfl (fun h9 => ct_X8_ofSectionNow hC.hl G h9 x50_3 x50_4 σ) q_1337 q_1339 q_25 q_44 q_1340 yd_X8_ofSectionNow rfl ⟨Nat.le_of_ble_eq_true rfl, Nat.le_of_ble_eq_true rfl⟩ ⟨by omega, by omega⟩ rfl (by simp [cat_rf, cat_i, cat_j, cat_d, cat_a]) dX8_digest_62 (fun v45 σ46 => ?_)
    show Wo _ _ _ _ _ _ _ _ _ _ [.int v45, .long x50_1]
    refine r_i2l hC dX8_digest_65 (fun v48 => ?_)
    refine call_S hC (av := [.long x50_1, .long v48]) (st := []) (ct_X8_add hC.hl G x50_1 v48 σ46) q_1457 q_1458 q_44 q_1459 yd_X8_add rfl ⟨Nat.le_of_ble_eq_true rfl, Nat.le_of_ble_eq_true rfl⟩ ⟨by omega, by omega⟩ rfl (Nat.le_of_ble_eq_true rfl) dX8_digest_66 (fun v49 σ50 => ?_)
    show Wo _ _ _ _ _ _ _ _ _ _ [.long v49]
    refine r_lstoren hC [(1, .long v49), (0, va_rf (some a0)), (3, .int x50_3), (4, .int x50_4)] (i := 1) rfl (by decide) rfl dX8_digest_69 ?_
    refine r_iinc hC 3 (fun w => [(4, .int w), (1, .long v49), (0, va_rf (some a0)), (3, .int x50_3)]) 1 rfl (by decide) rfl (fun w => rfl) dX8_digest_70 (fun v51 => ?_)
    refine r_goto hC 50 dX8_digest_73 (by decide) ?_
    refine Wo.sub [2, 1, 3, 0] rfl ?_
    exact hk50 a0 v49 x50_3 v51 σ50 _ _ (hm50 _ _ _ _ (by omega) (by omega) hP50)

set_option maxRecDepth 100000 in
set_option maxHeartbeats 4000000 in
theorem u_X8_digest_50 {C : Cxt} {G : Glb} (hC : CX C G RX8 cX8_digest 5 (some .long) 11 977 9676 247) (P36 : Nat → Nat → Prop) (hm36 : ∀ a b a2 b2 : Nat, a ≤ a2 → b ≤ b2 → P36 a2 b2 → P36 a b) (k36 : Nat → Int64 → Int32 → Mem → Option ((Int64) × Mem)) (hk36 : ∀ (a0 : Nat) (x36_1 : Int64) (x36_3 : Int32) (σ : Mem) (kc ks : Nat), P36 kc ks → Wo C G 5 (QP C G rvJ 977 9676) (k36 a0 x36_1 x36_3 σ) σ kc ks 36 [(0, va_rf (some a0)), (1, .long x36_1), (3, .int x36_3)] []) : ∀ (n : Nat) (a0 : Nat) (x50_1 : Int64) (x50_3 : Int32) (x50_4 : Int32) (σ : Mem) (kc ks : Nat), (∀ m, n = m + 1 → (kc + m * 1 + 2 ≤ 977 ∧ ks + m * 6 + 12 ≤ 9676) ∧ P36 (kc + m * 1 + 2) (ks + m * 6 + 12)) → Wo C G 5 (QP C G rvJ 977 9676) (l_X8_digest_50 G.2.2.2.1 G.2.2.2.2 k36 n a0 x50_1 x50_3 x50_4 σ) σ kc ks 50 [(0, va_rf (some a0)), (1, .long x50_1), (3, .int x50_3), (4, .int x50_4)] [] := by
  intro n
  induction n with
  | zero => intro a0 x50_1 x50_3 x50_4 σ kc ks h0; exact Wo.none
  | succ n ih =>
    intro a0 x50_1 x50_3 x50_4 σ kc ks h0
    exact t_X8_digest_50 hC P36 hm36 k36 hk36 (fun kc ks => (∀ m, n = m + 1 → (kc + m * 1 + 2 ≤ 977 ∧ ks + m * 6 + 12 ≤ 9676) ∧ P36 (kc + m * 1 + 2) (ks + m * 6 + 12))) (fun a b a2 b2 h1 h2 h m e => ⟨⟨by have := (h m e).1.1; omega, by have := (h m e).1.2; omega⟩, hm36 _ _ _ _ (by omega) (by omega) (h m e).2⟩) (l_X8_digest_50 G.2.2.2.1 G.2.2.2.2 k36 n) ih a0 x50_1 x50_3 x50_4 σ kc ks ⟨by have := (h0 n rfl).1.1; omega, by have := (h0 n rfl).1.2; omega⟩ (hm36 _ _ _ _ (by omega) (by omega) (h0 n rfl).2) (fun m e => by
      subst e
      exact ⟨⟨by have := (h0 _ rfl).1.1; omega, by have := (h0 _ rfl).1.2; omega⟩, hm36 _ _ _ _ (by omega) (by omega) (h0 _ rfl).2⟩)

set_option maxRecDepth 100000 in
set_option maxHeartbeats 4000000 in
theorem t_X8_digest_36 {C : Cxt} {G : Glb} (hC : CX C G RX8 cX8_digest 5 (some .long) 11 977 9676 247) (P36 : Nat → Nat → Prop) (hm36 : ∀ a b a2 b2 : Nat, a ≤ a2 → b ≤ b2 → P36 a2 b2 → P36 a b) (k36 : Nat → Int64 → Int32 → Mem → Option ((Int64) × Mem)) (hk36 : ∀ (a0 : Nat) (x36_1 : Int64) (x36_3 : Int32) (σ : Mem) (kc ks : Nat), P36 kc ks → Wo C G 5 (QP C G rvJ 977 9676) (k36 a0 x36_1 x36_3 σ) σ kc ks 36 [(0, va_rf (some a0)), (1, .long x36_1), (3, .int x36_3)] []) (a0 : Nat) (x36_1 : Int64) (x36_3 : Int32) (σ : Mem) (kc ks : Nat) (hN : kc + 850 ≤ 977 ∧ ks + 8959 ≤ 9676) (hP36 : P36 (kc + 13) (ks + 78)) : Wo C G 5 (QP C G rvJ 977 9676) (b_X8_digest_36 G.2.2.2.1 G.2.2.2.2 k36 a0 x36_1 x36_3 σ) σ kc ks 36 [(0, va_rf (some a0)), (1, .long x36_1), (3, .int x36_3)] [] := by
  unfold b_X8_digest_36
  refine r_iloadn hC 2 rfl rfl dX8_digest_36 ?_
  refine r_aloadn hC 0 (r := (some a0)) rfl rfl dX8_digest_37 ?_
  refine r_gR hC (k := 6) (r := (some a0)) cls_10 (by decide) rfl q_846 (Or.inl rfl) dX8_digest_38 (fun r2 => ?_)
  refine call_V hC (av := []) (st := [.int x36_3]) (r := r2) (ci := 1) rfl rfl (fun h9 => ct_Jx4a65c_size_8abf5 hC.hl G h9 σ) q_890 q_891 q_892 q_47 q_893 yd_Jx4a65c_size_8abf5 rfl ⟨Nat.le_of_ble_eq_true rfl, Nat.le_of_ble_eq_true rfl⟩ ⟨by omega, by omega⟩ rfl (by simp [cat_rf, cat_i, cat_j, cat_d, cat_a]) dX8_digest_41 (fun v3 σ4 => ?_)
  show Wo _ _ _ _ _ _ _ _ _ _ [.int v3, .int x36_3]
  refine r_icmp_ge hC 95 dX8_digest_44 (by decide) ?_ ?_
  · refine r_iconst hC (0) rfl dX8_digest_95 ?_
    refine r_istoren hC [(3, .int 0), (0, va_rf (some a0)), (1, .long x36_1)] (i := 3) rfl (by decide) rfl dX8_digest_96 ?_
    refine Wo.sub [1, 2, 0] rfl ?_
    exact u_X8_digest_97 hC 17 a0 x36_1 0 σ4 _ _ (fun m e => by cases e; exact ⟨by omega, by omega⟩)
  · refine r_iconst hC (0) rfl dX8_digest_47 ?_
    refine r_istore hC [(4, .int 0), (0, va_rf (some a0)), (1, .long x36_1), (3, .int x36_3)] (i := 4) (by decide) rfl dX8_digest_48 ?_
    refine Wo.sub [1, 2, 3, 0] rfl ?_
    exact u_X8_digest_50 hC P36 hm36 k36 hk36 12 a0 x36_1 x36_3 0 σ4 _ _ (fun m e => by cases e; exact ⟨⟨by omega, by omega⟩, hm36 _ _ _ _ (by omega) (by omega) hP36⟩)

set_option maxRecDepth 100000 in
set_option maxHeartbeats 4000000 in
theorem u_X8_digest_36 {C : Cxt} {G : Glb} (hC : CX C G RX8 cX8_digest 5 (some .long) 11 977 9676 247) : ∀ (n : Nat) (a0 : Nat) (x36_1 : Int64) (x36_3 : Int32) (σ : Mem) (kc ks : Nat), (∀ m, n = m + 1 → (kc + m * 13 + 850 ≤ 977 ∧ ks + m * 78 + 8959 ≤ 9676)) → Wo C G 5 (QP C G rvJ 977 9676) (l_X8_digest_36 G.2.2.2.1 G.2.2.2.2  n a0 x36_1 x36_3 σ) σ kc ks 36 [(0, va_rf (some a0)), (1, .long x36_1), (3, .int x36_3)] [] := by
  intro n
  induction n with
  | zero => intro a0 x36_1 x36_3 σ kc ks h0; exact Wo.none
  | succ n ih =>
    intro a0 x36_1 x36_3 σ kc ks h0
    exact t_X8_digest_36 hC (fun kc ks => (∀ m, n = m + 1 → (kc + m * 13 + 850 ≤ 977 ∧ ks + m * 78 + 8959 ≤ 9676))) (fun a b a2 b2 h1 h2 h m e => ⟨by have := (h m e).1; omega, by have := (h m e).2; omega⟩) (l_X8_digest_36 G.2.2.2.1 G.2.2.2.2  n) ih a0 x36_1 x36_3 σ kc ks ⟨by have := (h0 n rfl).1; omega, by have := (h0 n rfl).2; omega⟩ (fun m e => by
      subst e
      exact ⟨by have := (h0 _ rfl).1; omega, by have := (h0 _ rfl).2; omega⟩)

set_option maxRecDepth 100000 in
set_option maxHeartbeats 4000000 in
theorem t_X8_digest_11 {C : Cxt} {G : Glb} (hC : CX C G RX8 cX8_digest 5 (some .long) 11 977 9676 247) (P11 : Nat → Nat → Prop) (hm11 : ∀ a b a2 b2 : Nat, a ≤ a2 → b ≤ b2 → P11 a2 b2 → P11 a b) (k11 : Nat → Int64 → Int32 → Mem → Option ((Int64) × Mem)) (hk11 : ∀ (a0 : Nat) (x11_1 : Int64) (x11_3 : Int32) (σ : Mem) (kc ks : Nat), P11 kc ks → Wo C G 5 (QP C G rvJ 977 9676) (k11 a0 x11_1 x11_3 σ) σ kc ks 11 [(0, va_rf (some a0)), (1, .long x11_1), (3, .int x11_3)] []) (a0 : Nat) (x11_1 : Int64) (x11_3 : Int32) (σ : Mem) (kc ks : Nat) (hN : kc + 902 ≤ 977 ∧ ks + 9271 ≤ 9676) (hP11 : P11 (kc + 5) (ks + 27)) : Wo C G 5 (QP C G rvJ 977 9676) (b_X8_digest_11 G.2.2.2.1 G.2.2.2.2 k11 a0 x11_1 x11_3 σ) σ kc ks 11 [(0, va_rf (some a0)), (1, .long x11_1), (3, .int x11_3)] [] := by
  unfold b_X8_digest_11
  refine r_iloadn hC 2 rfl rfl dX8_digest_11 ?_
  refine r_bipush hC (15) (by decide) dX8_digest_12 ?_
  refine r_icmp_ge hC 34 dX8_digest_14 (by decide) ?_ ?_
  · refine r_iconst hC (0) rfl dX8_digest_34 ?_
    refine r_istoren hC [(3, .int 0), (0, va_rf (some a0)), (1, .long x11_1)] (i := 3) rfl (by decide) rfl dX8_digest_35 ?_
    refine Wo.sub [1, 2, 0] rfl ?_
    exact u_X8_digest_36 hC 5 a0 x11_1 0 σ _ _ (fun m e => by cases e; exact ⟨by omega, by omega⟩)
  · refine r_lloadn hC 1 rfl rfl dX8_digest_17 ?_
    refine r_aloadn hC 0 (r := (some a0)) rfl rfl dX8_digest_18 ?_
    refine r_iloadn hC 2 rfl rfl dX8_digest_19 ?_
    refine call_V hC (av := [.int x11_3]) (st := [.long x11_1]) (r := (some a0)) (ci := 10) rfl rfl (fun h9 => ct_X8_manyNow hC.hl G h9 x11_3 σ) q_1386 q_1388 q_31 q_44 q_1389 yd_X8_manyNow rfl ⟨Nat.le_of_ble_eq_true rfl, Nat.le_of_ble_eq_true rfl⟩ ⟨by omega, by omega⟩ rfl (by simp [cat_rf, cat_i, cat_j, cat_d, cat_a]) dX8_digest_20 (fun v52 σ53 => ?_)
    show Wo _ _ _ _ _ _ _ _ _ _ [.int v52, .long x11_1]
    refine r_i2l hC dX8_digest_23 (fun v55 => ?_)
    refine call_S hC (av := [.long x11_1, .long v55]) (st := []) (ct_X8_add hC.hl G x11_1 v55 σ53) q_1457 q_1458 q_44 q_1459 yd_X8_add rfl ⟨Nat.le_of_ble_eq_true rfl, Nat.le_of_ble_eq_true rfl⟩ ⟨by omega, by omega⟩ rfl (Nat.le_of_ble_eq_true rfl) dX8_digest_24 (fun v56 σ57 => ?_)
    show Wo _ _ _ _ _ _ _ _ _ _ [.long v56]
    refine r_lstoren hC [(1, .long v56), (0, va_rf (some a0)), (3, .int x11_3)] (i := 1) rfl (by decide) rfl dX8_digest_27 ?_
    refine r_iinc hC 2 (fun w => [(3, .int w), (1, .long v56), (0, va_rf (some a0))]) 1 rfl (by decide) rfl (fun w => rfl) dX8_digest_28 (fun v58 => ?_)
    refine r_goto hC 11 dX8_digest_31 (by decide) ?_
    refine Wo.sub [2, 1, 0] rfl ?_
    exact hk11 a0 v56 v58 σ57 _ _ (hm11 _ _ _ _ (by omega) (by omega) hP11)

set_option maxRecDepth 100000 in
set_option maxHeartbeats 4000000 in
theorem u_X8_digest_11 {C : Cxt} {G : Glb} (hC : CX C G RX8 cX8_digest 5 (some .long) 11 977 9676 247) : ∀ (n : Nat) (a0 : Nat) (x11_1 : Int64) (x11_3 : Int32) (σ : Mem) (kc ks : Nat), (∀ m, n = m + 1 → (kc + m * 5 + 902 ≤ 977 ∧ ks + m * 27 + 9271 ≤ 9676)) → Wo C G 5 (QP C G rvJ 977 9676) (l_X8_digest_11 G.2.2.2.1 G.2.2.2.2  n a0 x11_1 x11_3 σ) σ kc ks 11 [(0, va_rf (some a0)), (1, .long x11_1), (3, .int x11_3)] [] := by
  intro n
  induction n with
  | zero => intro a0 x11_1 x11_3 σ kc ks h0; exact Wo.none
  | succ n ih =>
    intro a0 x11_1 x11_3 σ kc ks h0
    exact t_X8_digest_11 hC (fun kc ks => (∀ m, n = m + 1 → (kc + m * 5 + 902 ≤ 977 ∧ ks + m * 27 + 9271 ≤ 9676))) (fun a b a2 b2 h1 h2 h m e => ⟨by have := (h m e).1; omega, by have := (h m e).2; omega⟩) (l_X8_digest_11 G.2.2.2.1 G.2.2.2.2  n) ih a0 x11_1 x11_3 σ kc ks ⟨by have := (h0 n rfl).1; omega, by have := (h0 n rfl).2; omega⟩ (fun m e => by
      subst e
      exact ⟨by have := (h0 _ rfl).1; omega, by have := (h0 _ rfl).2; omega⟩)

set_option maxRecDepth 100000 in
set_option maxHeartbeats 4000000 in
theorem t_X8_digest_0 {C : Cxt} {G : Glb} (hC : CX C G RX8 cX8_digest 5 (some .long) 11 977 9676 247) (a0 : Nat) (σ : Mem) (kc ks : Nat) (hN : kc + 977 ≤ 977 ∧ ks + 9676 ≤ 9676) : Wo C G 5 (QP C G rvJ 977 9676) (b_X8_digest_0 G.2.2.2.1 G.2.2.2.2  a0 σ) σ kc ks 0 [(0, va_rf (some a0))] [] := by
  unfold b_X8_digest_0
  refine r_aloadn hC 0 (r := (some a0)) rfl rfl dX8_digest_0 ?_
  refine r_iconst hC (0) rfl dX8_digest_1 ?_
  refine r_pI hC (k := 0) (r := (some a0)) cls_10 (by decide) rfl q_840 (Or.inl rfl) (Or.inl rfl) dX8_digest_2 (fun σ1 => ?_)
  refine r_ldc2 hC (v := 5402) q_1456 dX8_digest_5 ?_
  refine r_lstoren hC [(1, .long 5402), (0, va_rf (some a0))] (i := 1) rfl (by decide) rfl dX8_digest_8 ?_
  refine r_iconst hC (0) rfl dX8_digest_9 ?_
  refine r_istoren hC [(3, .int 0), (1, .long 5402), (0, va_rf (some a0))] (i := 3) rfl (by decide) rfl dX8_digest_10 ?_
  refine Wo.sub [2, 1, 0] rfl ?_
  exact u_X8_digest_11 hC 16 a0 5402 0 σ1 _ _ (fun m e => by cases e; exact ⟨by omega, by omega⟩)

set_option maxRecDepth 100000 in
set_option maxHeartbeats 4000000 in
theorem ct_X8_digest {l : Launch} (hl : l.stackTraces = false) (G : Glb) (a0 : Nat) (σ : Mem) : Ct rvJ l yX8_digest (Cond.code yX8_digest cX8_digest 5 (some .long) :: uW) { frames := 11, cells := 977, slots := 9676, locals := 247 } 977 9676 G [.ref a0] σ (f_X8_digest G.2.2.2.1 G.2.2.2.2 a0 σ) := by
  refine Ct.of hl (by decide +kernel) (Nat.le_of_ble_eq_true rfl) (fun C hC hin => ?_)
  have e : lv_args 0 [.ref a0] = [(0, .ref a0)] := rfl
  rw [e]
  exact t_X8_digest_0 hC a0 σ 0 0 ⟨Nat.le_of_ble_eq_true rfl, Nat.le_of_ble_eq_true rfl⟩
