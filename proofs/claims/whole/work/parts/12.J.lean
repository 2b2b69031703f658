noncomputable def b_Jxa1e45_init_da8c8_0 (a0 : Nat) (σ : Mem) : Option ((Unit) × Mem) :=
ob 1 σ (some a0) fun _ =>
some ((), σ)

noncomputable def f_Jxa1e45_init_da8c8 (a0 : Nat) (σ : Mem) : Option ((Unit) × Mem) := b_Jxa1e45_init_da8c8_0 a0 σ
set_option maxRecDepth 100000 in
set_option maxHeartbeats 4000000 in
theorem t_Jxa1e45_init_da8c8_0 {C : Cxt} {G : Glb} (hC : CX C G RJxa1e45 cJxa1e45_init_da8c8 1 none 1 0 0 12) (a0 : Nat) (σ : Mem) : Wo C G 1 (QP C G rvU 0 0) (b_Jxa1e45_init_da8c8_0  a0 σ) σ 0 0 0 [(0, va_rf (some a0))] [] := by
  unfold b_Jxa1e45_init_da8c8_0
  refine r_aloadn hC 0 (r := (some a0)) rfl rfl dJxa1e45_init_da8c8_0 ?_
  refine call_O hC (r := (some a0)) q_802 q_70 q_71 (Nat.le_of_ble_eq_true rfl) (Nat.le_of_ble_eq_true rfl) dJxa1e45_init_da8c8_1 ?_
  exact e_U hC ⟨Nat.zero_le _, Nat.zero_le _⟩ dJxa1e45_init_da8c8_4

set_option maxRecDepth 100000 in
set_option maxHeartbeats 4000000 in
theorem ct_Jxa1e45_init_da8c8 {l : Launch} (hl : l.stackTraces = false) (G : Glb) (a0 : Nat) (σ : Mem) : Ct rvU l yJxa1e45_init_da8c8 (Cond.code yJxa1e45_init_da8c8 cJxa1e45_init_da8c8 1 none :: uW) { frames := 1, cells := 0, slots := 0, locals := 12 } 0 0 G [.ref a0] σ (f_Jxa1e45_init_da8c8 a0 σ) := by
  refine Ct.of hl (by decide +kernel) (Nat.le_of_ble_eq_true rfl) (fun C hC hin => ?_)
  have e : lv_args 0 [.ref a0] = [(0, .ref a0)] := rfl
  rw [e]
  exact t_Jxa1e45_init_da8c8_0 hC a0 σ

noncomputable def b_Jxc12de_init_da8c8_0 (a0 : Nat) (σ : Mem) : Option ((Unit) × Mem) :=
ob 1 σ (some a0) fun h3 => cl1 (f_Jxa1e45_init_da8c8 h3 σ) fun _ σ2 =>
pI 1 0 σ2 (some a0) 0 fun σ4 =>
some ((), σ4)

noncomputable def f_Jxc12de_init_da8c8 (a0 : Nat) (σ : Mem) : Option ((Unit) × Mem) := b_Jxc12de_init_da8c8_0 a0 σ
set_option maxRecDepth 100000 in
set_option maxHeartbeats 4000000 in
theorem t_Jxc12de_init_da8c8_0 {C : Cxt} {G : Glb} (hC : CX C G RJxc12de cJxc12de_init_da8c8 1 none 2 0 0 32) (a0 : Nat) (σ : Mem) : Wo C G 1 (QP C G rvU 0 0) (b_Jxc12de_init_da8c8_0  a0 σ) σ 0 0 0 [(0, va_rf (some a0))] [] := by
  unfold b_Jxc12de_init_da8c8_0
  refine r_aloadn hC 0 (r := (some a0)) rfl rfl dJxc12de_init_da8c8_0 ?_
  refine call_I hC (av := []) (st := []) (r := (some a0)) (ci := 1) (fun h9 => ct_Jxa1e45_init_da8c8 hC.hl G h9 σ) q_799 q_800 q_45 q_801 rfl yd_Jxa1e45_init_da8c8 rfl ⟨Nat.le_of_ble_eq_true rfl, Nat.le_of_ble_eq_true rfl⟩ ⟨Nat.zero_le _, Nat.zero_le _⟩ rfl (Nat.le_of_ble_eq_true rfl) dJxc12de_init_da8c8_1 (fun σ2 => ?_)
  refine r_aloadn hC 0 (r := (some a0)) rfl rfl dJxc12de_init_da8c8_4 ?_
  refine r_iconst hC (0) rfl dJxc12de_init_da8c8_5 ?_
  refine r_pI hC (k := 0) (r := (some a0)) cls_1 (by decide) rfl q_809 (Or.inl rfl) (Or.inl rfl) dJxc12de_init_da8c8_6 (fun σ4 => ?_)
  exact e_U hC ⟨Nat.zero_le _, Nat.zero_le _⟩ dJxc12de_init_da8c8_9

set_option maxRecDepth 100000 in
set_option maxHeartbeats 4000000 in
theorem ct_Jxc12de_init_da8c8 {l : Launch} (hl : l.stackTraces = false) (G : Glb) (a0 : Nat) (σ : Mem) : Ct rvU l yJxc12de_init_da8c8 (Cond.code yJxc12de_init_da8c8 cJxc12de_init_da8c8 1 none :: uW) { frames := 2, cells := 0, slots := 0, locals := 32 } 0 0 G [.ref a0] σ (f_Jxc12de_init_da8c8 a0 σ) := by
  refine Ct.of hl (by decide +kernel) (Nat.le_of_ble_eq_true rfl) (fun C hC hin => ?_)
  have e : lv_args 0 [.ref a0] = [(0, .ref a0)] := rfl
  rw [e]
  exact t_Jxc12de_init_da8c8_0 hC a0 σ

noncomputable def b_Jx4a65c_init_da8c8_0 (e0 mi : Nat) (a0 : Nat) (σ : Mem) : Option ((Unit) × Mem) :=
ob 1 σ (some a0) fun h3 => cl1 (f_Jxc12de_init_da8c8 h3 σ) fun _ σ2 =>
pR 1 1 σ2 (some a0) (some e0) fun σ4 =>
some ((), σ4)

noncomputable def f_Jx4a65c_init_da8c8 (e0 mi : Nat) (a0 : Nat) (σ : Mem) : Option ((Unit) × Mem) := b_Jx4a65c_init_da8c8_0 e0 mi a0 σ
set_option maxRecDepth 100000 in
set_option maxHeartbeats 4000000 in
theorem t_Jx4a65c_init_da8c8_0 {C : Cxt} {G : Glb} (hC : CX C G RJx4a65c cJx4a65c_init_da8c8 1 none 3 0 0 52) (a0 : Nat) (σ : Mem) : Wo C G 1 (QP C G rvU 0 0) (b_Jx4a65c_init_da8c8_0 G.2.2.2.1 G.2.2.2.2  a0 σ) σ 0 0 0 [(0, va_rf (some a0))] [] := by
  unfold b_Jx4a65c_init_da8c8_0
  refine r_aloadn hC 0 (r := (some a0)) rfl rfl dJx4a65c_init_da8c8_0 ?_
  refine call_I hC (av := []) (st := []) (r := (some a0)) (ci := 1) (fun h9 => ct_Jxc12de_init_da8c8 hC.hl G h9 σ) q_796 q_797 q_46 q_798 rfl yd_Jxc12de_init_da8c8 rfl ⟨Nat.le_of_ble_eq_true rfl, Nat.le_of_ble_eq_true rfl⟩ ⟨Nat.zero_le _, Nat.zero_le _⟩ rfl (Nat.le_of_ble_eq_true rfl) dJx4a65c_init_da8c8_1 (fun σ2 => ?_)
  refine r_aloadn hC 0 (r := (some a0)) rfl rfl dJx4a65c_init_da8c8_4 ?_
  refine r_gets hC q_803 rfl dJx4a65c_init_da8c8_5 ?_
  refine r_pR hC (k := 1) (r := (some a0)) (v := (some G.2.2.2.1)) cls_1 (by decide) rfl (Or.inr ⟨_, rfl⟩) q_805 (Or.inl rfl) (Or.inl rfl) dJx4a65c_init_da8c8_8 (fun σ4 => ?_)
  exact e_U hC ⟨Nat.zero_le _, Nat.zero_le _⟩ dJx4a65c_init_da8c8_11

set_option maxRecDepth 100000 in
set_option maxHeartbeats 4000000 in
theorem ct_Jx4a65c_init_da8c8 {l : Launch} (hl : l.stackTraces = false) (G : Glb) (a0 : Nat) (σ : Mem) : Ct rvU l yJx4a65c_init_da8c8 (Cond.code yJx4a65c_init_da8c8 cJx4a65c_init_da8c8 1 none :: uW) { frames := 3, cells := 0, slots := 0, locals := 52 } 0 0 G [.ref a0] σ (f_Jx4a65c_init_da8c8 G.2.2.2.1 G.2.2.2.2 a0 σ) := by
  refine Ct.of hl (by decide +kernel) (Nat.le_of_ble_eq_true rfl) (fun C hC hin => ?_)
  have e : lv_args 0 [.ref a0] = [(0, .ref a0)] := rfl
  rw [e]
  exact t_Jx4a65c_init_da8c8_0 hC a0 σ

noncomputable def b_Jx4a65c_clear_da8c8_27 (k27 : (Option Nat) → Int32 → Int32 → Mem → Option ((Unit) × Mem)) (x27_1 : (Option Nat)) (x27_2 : Int32) (x27_3 : Int32) (σ : Mem) : Option ((Unit) × Mem) :=
if x27_2 ≤ x27_3 then
some ((), σ)
else
wR 6 σ x27_1 x27_3 none fun σ7 =>
nm (x27_3 + 1) fun v8 =>
k27 x27_1 x27_2 v8 σ7

noncomputable def l_Jx4a65c_clear_da8c8_27 (n : Nat) : (Option Nat) → Int32 → Int32 → Mem → Option ((Unit) × Mem) := itr (fun _ _ _ _ => none) (fun k => b_Jx4a65c_clear_da8c8_27  k) n

noncomputable def b_Jx4a65c_clear_da8c8_0 (a0 : Nat) (σ : Mem) : Option ((Unit) × Mem) :=
gI 1 0 σ (some a0) fun v1 =>
nm (v1 + 1) fun v2 =>
pI 1 0 σ (some a0) v2 fun σ3 =>
gR 1 1 σ3 (some a0) fun r4 =>
gI 1 2 σ3 (some a0) fun v5 =>
pI 1 2 σ3 (some a0) 0 fun σ6 =>
l_Jx4a65c_clear_da8c8_27 40 r4 v5 0 σ6

noncomputable def f_Jx4a65c_clear_da8c8 (a0 : Nat) (σ : Mem) : Option ((Unit) × Mem) := b_Jx4a65c_clear_da8c8_0 a0 σ
set_option maxRecDepth 100000 in
set_option maxHeartbeats 4000000 in
theorem t_Jx4a65c_clear_da8c8_27 {C : Cxt} {G : Glb} (hC : CX C G RJx4a65c cJx4a65c_clear_da8c8 4 none 0 0 0 0) (k27 : (Option Nat) → Int32 → Int32 → Mem → Option ((Unit) × Mem)) (hk27 : ∀ (x27_1 : (Option Nat)) (x27_2 : Int32) (x27_3 : Int32) (σ : Mem), Wo C G 4 (QP C G rvU 0 0) (k27 x27_1 x27_2 x27_3 σ) σ 0 0 27 [(1, va_rf x27_1), (2, .int x27_2), (3, .int x27_3)] []) (x27_1 : (Option Nat)) (x27_2 : Int32) (x27_3 : Int32) (σ : Mem) : Wo C G 4 (QP C G rvU 0 0) (b_Jx4a65c_clear_da8c8_27 k27 x27_1 x27_2 x27_3 σ) σ 0 0 27 [(1, va_rf x27_1), (2, .int x27_2), (3, .int x27_3)] [] := by
  unfold b_Jx4a65c_clear_da8c8_27
  refine r_iloadn hC 2 rfl rfl dJx4a65c_clear_da8c8_27 ?_
  refine r_iloadn hC 1 rfl rfl dJx4a65c_clear_da8c8_28 ?_
  refine r_icmp_ge hC 42 dJx4a65c_clear_da8c8_29 (by decide) ?_ ?_
  · exact e_U hC ⟨Nat.zero_le _, Nat.zero_le _⟩ dJx4a65c_clear_da8c8_42
  · refine r_aloadn hC 0 (r := x27_1) rfl rfl dJx4a65c_clear_da8c8_32 ?_
    refine r_iloadn hC 2 rfl rfl dJx4a65c_clear_da8c8_33 ?_
    refine r_null hC dJx4a65c_clear_da8c8_34 ?_
    refine r_wR hC (t := 6) (r := x27_1) (v := none) rfl rfl dJx4a65c_clear_da8c8_35 (fun σ7 => ?_)
    refine r_iinc hC 2 (fun w => [(3, .int w), (1, va_rf x27_1), (2, .int x27_2)]) 1 rfl (by decide) rfl (fun w => rfl) dJx4a65c_clear_da8c8_36 (fun v8 => ?_)
    refine r_goto hC 27 dJx4a65c_clear_da8c8_39 (by decide) ?_
    refine Wo.sub [1, 2, 0] rfl ?_
    exact hk27 x27_1 x27_2 v8 σ7

set_option maxRecDepth 100000 in
set_option maxHeartbeats 4000000 in
theorem u_Jx4a65c_clear_da8c8_27 {C : Cxt} {G : Glb} (hC : CX C G RJx4a65c cJx4a65c_clear_da8c8 4 none 0 0 0 0) : ∀ (n : Nat) (x27_1 : (Option Nat)) (x27_2 : Int32) (x27_3 : Int32) (σ : Mem), Wo C G 4 (QP C G rvU 0 0) (l_Jx4a65c_clear_da8c8_27  n x27_1 x27_2 x27_3 σ) σ 0 0 27 [(1, va_rf x27_1), (2, .int x27_2), (3, .int x27_3)] [] := by
  intro n
  induction n with
  | zero => intro x27_1 x27_2 x27_3 σ; exact Wo.none
  | succ n ih => intro x27_1 x27_2 x27_3 σ; exact t_Jx4a65c_clear_da8c8_27 hC (l_Jx4a65c_clear_da8c8_27  n) ih x27_1 x27_2 x27_3 σ

set_option maxRecDepth 100000 in
set_option maxHeartbeats 4000000 in
theorem t_Jx4a65c_clear_da8c8_0 {C : Cxt} {G : Glb} (hC : CX C G RJx4a65c cJx4a65c_clear_da8c8 4 none 0 0 0 0) (a0 : Nat) (σ : Mem) : Wo C G 4 (QP C G rvU 0 0) (b_Jx4a65c_clear_da8c8_0  a0 σ) σ 0 0 0 [(0, va_rf (some a0))] [] := by
  unfold b_Jx4a65c_clear_da8c8_0
  refine r_aloadn hC 0 (r := (some a0)) rfl rfl dJx4a65c_clear_da8c8_0 ?_
  refine r_dup hC (cat_rf _) dJx4a65c_clear_da8c8_1 ?_
  refine r_gI hC (k := 0) (r := (some a0)) cls_1 (by decide) rfl q_812 (Or.inr q_811) dJx4a65c_clear_da8c8_2 (fun v1 => ?_)
  refine r_iconst hC (1) rfl dJx4a65c_clear_da8c8_5 ?_
  refine r_iadd hC dJx4a65c_clear_da8c8_6 (fun v2 => ?_)
  refine r_pI hC (k := 0) (r := (some a0)) cls_1 (by decide) rfl q_812 (Or.inr q_811) (Or.inl rfl) dJx4a65c_clear_da8c8_7 (fun σ3 => ?_)
  refine r_aloadn hC 0 (r := (some a0)) rfl rfl dJx4a65c_clear_da8c8_10 ?_
  refine r_gR hC (k := 1) (r := (some a0)) cls_1 (by decide) rfl q_805 (Or.inl rfl) dJx4a65c_clear_da8c8_11 (fun r4 => ?_)
  refine r_astoren hC [(1, va_rf r4), (0, va_rf (some a0))] (r := r4) (i := 1) rfl (by decide) rfl dJx4a65c_clear_da8c8_14 ?_
  refine r_aloadn hC 1 (r := (some a0)) rfl rfl dJx4a65c_clear_da8c8_15 ?_
  refine r_gI hC (k := 2) (r := (some a0)) cls_1 (by decide) rfl q_808 (Or.inl rfl) dJx4a65c_clear_da8c8_16 (fun v5 => ?_)
  refine r_istoren hC [(2, .int v5), (1, va_rf r4), (0, va_rf (some a0))] (i := 2) rfl (by decide) (by simp [List.filter, cat_rf, cat_i, cat_j, cat_d, cat_a]) dJx4a65c_clear_da8c8_19 ?_
  refine r_aloadn hC 2 (r := (some a0)) rfl rfl dJx4a65c_clear_da8c8_20 ?_
  refine r_iconst hC (0) rfl dJx4a65c_clear_da8c8_21 ?_
  refine r_dup_x1 hC rfl (cat_rf _) dJx4a65c_clear_da8c8_22 ?_
  refine r_pI hC (k := 2) (r := (some a0)) cls_1 (by decide) rfl q_808 (Or.inl rfl) (Or.inl rfl) dJx4a65c_clear_da8c8_23 (fun σ6 => ?_)
  refine r_istoren hC [(3, .int 0), (2, .int v5), (1, va_rf r4), (0, va_rf (some a0))] (i := 3) rfl (by decide) rfl dJx4a65c_clear_da8c8_26 ?_
  refine Wo.sub [2, 1, 0] rfl ?_
  exact u_Jx4a65c_clear_da8c8_27 hC 40 r4 v5 0 σ6

set_option maxRecDepth 100000 in
set_option maxHeartbeats 4000000 in
theorem ct_Jx4a65c_clear_da8c8 {l : Launch} (hl : l.stackTraces = false) (G : Glb) (a0 : Nat) (σ : Mem) : Ct rvU l yJx4a65c_clear_da8c8 (Cond.code yJx4a65c_clear_da8c8 cJx4a65c_clear_da8c8 4 none :: uW) { frames := 0, cells := 0, slots := 0, locals := 0 } 0 0 G [.ref a0] σ (f_Jx4a65c_clear_da8c8 a0 σ) := by
  refine Ct.of hl (by decide +kernel) (Nat.le_of_ble_eq_true rfl) (fun C hC hin => ?_)
  have e : lv_args 0 [.ref a0] = [(0, .ref a0)] := rfl
  rw [e]
  exact t_Jx4a65c_clear_da8c8_0 hC a0 σ

noncomputable def b_Jx4a65c_size_8abf5_0 (a0 : Nat) (σ : Mem) : Option ((Int32) × Mem) :=
gI 1 2 σ (some a0) fun v1 =>
some (v1, σ)

noncomputable def f_Jx4a65c_size_8abf5 (a0 : Nat) (σ : Mem) : Option ((Int32) × Mem) := b_Jx4a65c_size_8abf5_0 a0 σ
set_option maxRecDepth 100000 in
set_option maxHeartbeats 4000000 in
theorem t_Jx4a65c_size_8abf5_0 {C : Cxt} {G : Glb} (hC : CX C G RJx4a65c cJx4a65c_size_8abf5 1 (some .int) 0 0 0 0) (a0 : Nat) (σ : Mem) : Wo C G 1 (QP C G rvI 0 0) (b_Jx4a65c_size_8abf5_0  a0 σ) σ 0 0 0 [(0, va_rf (some a0))] [] := by
  unfold b_Jx4a65c_size_8abf5_0
  refine r_aloadn hC 0 (r := (some a0)) rfl rfl dJx4a65c_size_8abf5_0 ?_
  refine r_gI hC (k := 2) (r := (some a0)) cls_1 (by decide) rfl q_808 (Or.inl rfl) dJx4a65c_size_8abf5_1 (fun v1 => ?_)
  exact e_I hC ⟨Nat.zero_le _, Nat.zero_le _⟩ dJx4a65c_size_8abf5_4

set_option maxRecDepth 100000 in
set_option maxHeartbeats 4000000 in
theorem ct_Jx4a65c_size_8abf5 {l : Launch} (hl : l.stackTraces = false) (G : Glb) (a0 : Nat) (σ : Mem) : Ct rvI l yJx4a65c_size_8abf5 (Cond.code yJx4a65c_size_8abf5 cJx4a65c_size_8abf5 1 (some .int) :: uW) { frames := 0, cells := 0, slots := 0, locals := 0 } 0 0 G [.ref a0] σ (f_Jx4a65c_size_8abf5 a0 σ) := by
  refine Ct.of hl (by decide +kernel) (Nat.le_of_ble_eq_true rfl) (fun C hC hin => ?_)
  have e : lv_args 0 [.ref a0] = [(0, .ref a0)] := rfl
  rw [e]
  exact t_Jx4a65c_size_8abf5_0 hC a0 σ

noncomputable def b_J3_checkIndex_8e157_9 (x9_0 : Int32) (x9_1 : Int32) (x9_2 : (Option Nat)) (σ : Mem) : Option ((Int32) × Mem) :=
none

noncomputable def b_J3_checkIndex_8e157_0 (p0 : Int32) (p1 : Int32) (p2 : (Option Nat)) (σ : Mem) : Option ((Int32) × Mem) :=
if p0 < 0 then
b_J3_checkIndex_8e157_9 p0 p1 p2 σ
else
if p0 < p1 then
some (p0, σ)
else
b_J3_checkIndex_8e157_9 p0 p1 p2 σ

noncomputable def f_J3_checkIndex_8e157 (p0 : Int32) (p1 : Int32) (p2 : (Option Nat)) (σ : Mem) : Option ((Int32) × Mem) := b_J3_checkIndex_8e157_0 p0 p1 p2 σ
set_option maxRecDepth 100000 in
set_option maxHeartbeats 4000000 in
theorem t_J3_checkIndex_8e157_9 {C : Cxt} {G : Glb} (hC : CX C G RJ3 cJ3_checkIndex_8e157 3 (some .int) 0 0 0 0) (x9_0 : Int32) (x9_1 : Int32) (x9_2 : (Option Nat)) (σ : Mem) : Wo C G 3 (QP C G rvI 0 0) (b_J3_checkIndex_8e157_9  x9_0 x9_1 x9_2 σ) σ 0 0 9 [(0, .int x9_0), (1, .int x9_1), (2, va_rf x9_2)] [] := by
  unfold b_J3_checkIndex_8e157_9
  refine r_aloadn hC 2 (r := x9_2) rfl rfl dJ3_checkIndex_8e157_9 ?_
  refine r_iloadn hC 0 rfl rfl dJ3_checkIndex_8e157_10 ?_
  refine r_iloadn hC 1 rfl rfl dJ3_checkIndex_8e157_11 ?_
  exact Wo.none

set_option maxRecDepth 100000 in
set_option maxHeartbeats 4000000 in
theorem t_J3_checkIndex_8e157_0 {C : Cxt} {G : Glb} (hC : CX C G RJ3 cJ3_checkIndex_8e157 3 (some .int) 0 0 0 0) (p0 : Int32) (p1 : Int32) (p2 : (Option Nat)) (σ : Mem) : Wo C G 3 (QP C G rvI 0 0) (b_J3_checkIndex_8e157_0  p0 p1 p2 σ) σ 0 0 0 [(0, .int p0), (1, .int p1), (2, va_rf p2)] [] := by
  unfold b_J3_checkIndex_8e157_0
  refine r_iloadn hC 0 rfl rfl dJ3_checkIndex_8e157_0 ?_
  refine r_if_lt hC 9 dJ3_checkIndex_8e157_1 (by decide) ?_ ?_
  · exact t_J3_checkIndex_8e157_9 hC p0 p1 p2 σ
  · refine r_iloadn hC 0 rfl rfl dJ3_checkIndex_8e157_4 ?_
    refine r_iloadn hC 1 rfl rfl dJ3_checkIndex_8e157_5 ?_
    refine r_icmp_lt hC 16 dJ3_checkIndex_8e157_6 (by decide) ?_ ?_
    · refine r_iloadn hC 0 rfl rfl dJ3_checkIndex_8e157_16 ?_
      exact e_I hC ⟨Nat.zero_le _, Nat.zero_le _⟩ dJ3_checkIndex_8e157_17
    · exact t_J3_checkIndex_8e157_9 hC p0 p1 p2 σ

set_option maxRecDepth 100000 in
set_option maxHeartbeats 4000000 in
theorem ct_J3_checkIndex_8e157 {l : Launch} (hl : l.stackTraces = false) (G : Glb) (p0 : Int32) (p1 : Int32) (p2 : (Option Nat)) (σ : Mem) : Ct rvI l yJ3_checkIndex_8e157 (Cond.code yJ3_checkIndex_8e157 cJ3_checkIndex_8e157 3 (some .int) :: uW) { frames := 0, cells := 0, slots := 0, locals := 0 } 0 0 G [.int p0, .int p1, va_rf p2] σ (f_J3_checkIndex_8e157 p0 p1 p2 σ) := by
  refine Ct.of hl (by decide +kernel) (by simp [lg_sl, cat_rf, cat_i, cat_j, cat_d, cat_a]) (fun C hC hin => ?_)
  have e : lv_args 0 [.int p0, .int p1, va_rf p2] = [(0, .int p0), (1, .int p1), (2, va_rf p2)] := by simp [lv_args, cat_rf, cat_i, cat_j, cat_d, cat_a]
  rw [e]
  exact t_J3_checkIndex_8e157_0 hC p0 p1 p2 σ

noncomputable def b_J15_checkIndex_7cf53_0 (p0 : Int32) (p1 : Int32) (σ : Mem) : Option ((Int32) × Mem) :=
cl1 (f_J3_checkIndex_8e157 p0 p1 none σ) fun v1 σ2 =>
some (v1, σ2)

noncomputable def f_J15_checkIndex_7cf53 (p0 : Int32) (p1 : Int32) (σ : Mem) : Option ((Int32) × Mem) := b_J15_checkIndex_7cf53_0 p0 p1 σ
set_option maxRecDepth 100000 in
set_option maxHeartbeats 4000000 in
theorem t_J15_checkIndex_7cf53_0 {C : Cxt} {G : Glb} (hC : CX C G RJ15 cJ15_checkIndex_7cf53 2 (some .int) 1 0 0 22) (p0 : Int32) (p1 : Int32) (σ : Mem) : Wo C G 2 (QP C G rvI 0 0) (b_J15_checkIndex_7cf53_0  p0 p1 σ) σ 0 0 0 [(0, .int p0), (1, .int p1)] [] := by
  unfold b_J15_checkIndex_7cf53_0
  refine r_iloadn hC 0 rfl rfl dJ15_checkIndex_7cf53_0 ?_
  refine r_iloadn hC 1 rfl rfl dJ15_checkIndex_7cf53_1 ?_
  refine r_null hC dJ15_checkIndex_7cf53_2 ?_
  refine call_S hC (av := [.int p0, .int p1, va_rf none]) (st := []) (ct_J3_checkIndex_8e157 hC.hl G p0 p1 none σ) q_1064 q_1065 q_62 q_1066 yd_J3_checkIndex_8e157 rfl ⟨Nat.le_of_ble_eq_true rfl, Nat.le_of_ble_eq_true rfl⟩ ⟨Nat.zero_le _, Nat.zero_le _⟩ rfl (Nat.le_of_ble_eq_true rfl) dJ15_checkIndex_7cf53_3 (fun v1 σ2 => ?_)
  show Wo _ _ _ _ _ _ _ _ _ _ [.int v1]
  exact e_I hC ⟨Nat.zero_le _, Nat.zero_le _⟩ dJ15_checkIndex_7cf53_6

set_option maxRecDepth 100000 in
set_option maxHeartbeats 4000000 in
theorem ct_J15_checkIndex_7cf53 {l : Launch} (hl : l.stackTraces = false) (G : Glb) (p0 : Int32) (p1 : Int32) (σ : Mem) : Ct rvI l yJ15_checkIndex_7cf53 (Cond.code yJ15_checkIndex_7cf53 cJ15_checkIndex_7cf53 2 (some .int) :: uW) { frames := 1, cells := 0, slots := 0, locals := 22 } 0 0 G [.int p0, .int p1] σ (f_J15_checkIndex_7cf53 p0 p1 σ) := by
  refine Ct.of hl (by decide +kernel) (Nat.le_of_ble_eq_true rfl) (fun C hC hin => ?_)
  have e : lv_args 0 [.int p0, .int p1] = [(0, .int p0), (1, .int p1)] := rfl
  rw [e]
  exact t_J15_checkIndex_7cf53_0 hC p0 p1 σ

noncomputable def b_Jx4a65c_elementData_915e3_0 (a0 : Nat) (p0 : Int32) (σ : Mem) : Option ((Option Nat) × Mem) :=
gR 1 1 σ (some a0) fun r1 =>
aR 6 σ r1 p0 fun r2 =>
some (r2, σ)

noncomputable def f_Jx4a65c_elementData_915e3 (a0 : Nat) (p0 : Int32) (σ : Mem) : Option ((Option Nat) × Mem) := b_Jx4a65c_elementData_915e3_0 a0 p0 σ
set_option maxRecDepth 100000 in
set_option maxHeartbeats 4000000 in
theorem t_Jx4a65c_elementData_915e3_0 {C : Cxt} {G : Glb} (hC : CX C G RJx4a65c cJx4a65c_elementData_915e3 2 (some (.object "java/lang/Object")) 0 0 0 0) (a0 : Nat) (p0 : Int32) (σ : Mem) : Wo C G 2 (QP C G rvR 0 0) (b_Jx4a65c_elementData_915e3_0  a0 p0 σ) σ 0 0 0 [(0, va_rf (some a0)), (1, .int p0)] [] := by
  unfold b_Jx4a65c_elementData_915e3_0
  refine r_aloadn hC 0 (r := (some a0)) rfl rfl dJx4a65c_elementData_915e3_0 ?_
  refine r_gR hC (k := 1) (r := (some a0)) cls_1 (by decide) rfl q_805 (Or.inl rfl) dJx4a65c_elementData_915e3_1 (fun r1 => ?_)
  refine r_iloadn hC 1 rfl rfl dJx4a65c_elementData_915e3_4 ?_
  refine r_aR hC (t := 6) (r := r1) rfl rfl dJx4a65c_elementData_915e3_5 (fun r2 => ?_)
  exact e_R hC (Or.inl ⟨_, rfl⟩) ⟨Nat.zero_le _, Nat.zero_le _⟩ dJx4a65c_elementData_915e3_6

set_option maxRecDepth 100000 in
set_option maxHeartbeats 4000000 in
theorem ct_Jx4a65c_elementData_915e3 {l : Launch} (hl : l.stackTraces = false) (G : Glb) (a0 : Nat) (p0 : Int32) (σ : Mem) : Ct rvR l yJx4a65c_elementData_915e3 (Cond.code yJx4a65c_elementData_915e3 cJx4a65c_elementData_915e3 2 (some (.object "java/lang/Object")) :: uW) { frames := 0, cells := 0, slots := 0, locals := 0 } 0 0 G [.ref a0, .int p0] σ (f_Jx4a65c_elementData_915e3 a0 p0 σ) := by
  refine Ct.of hl (by decide +kernel) (Nat.le_of_ble_eq_true rfl) (fun C hC hin => ?_)
  have e : lv_args 0 [.ref a0, .int p0] = [(0, .ref a0), (1, .int p0)] := rfl
  rw [e]
  exact t_Jx4a65c_elementData_915e3_0 hC a0 p0 σ

noncomputable def b_Jx4a65c_get_915e3_0 (a0 : Nat) (p0 : Int32) (σ : Mem) : Option ((Option Nat) × Mem) :=
gI 1 2 σ (some a0) fun v1 =>
cl1 (f_J15_checkIndex_7cf53 p0 v1 σ) fun v2 σ3 =>
ob 1 σ3 (some a0) fun h6 => cl1 (f_Jx4a65c_elementData_915e3 h6 p0 σ3) fun r4 σ5 =>
some (r4, σ5)

noncomputable def f_Jx4a65c_get_915e3 (a0 : Nat) (p0 : Int32) (σ : Mem) : Option ((Option Nat) × Mem) := b_Jx4a65c_get_915e3_0 a0 p0 σ
set_option maxRecDepth 100000 in
set_option maxHeartbeats 4000000 in
theorem t_Jx4a65c_get_915e3_0 {C : Cxt} {G : Glb} (hC : CX C G RJx4a65c cJx4a65c_get_915e3 2 (some (.object "java/lang/Object")) 2 0 0 43) (a0 : Nat) (p0 : Int32) (σ : Mem) : Wo C G 2 (QP C G rvR 0 0) (b_Jx4a65c_get_915e3_0  a0 p0 σ) σ 0 0 0 [(0, va_rf (some a0)), (1, .int p0)] [] := by
  unfold b_Jx4a65c_get_915e3_0
  refine r_iloadn hC 1 rfl rfl dJx4a65c_get_915e3_0 ?_
  refine r_aloadn hC 0 (r := (some a0)) rfl rfl dJx4a65c_get_915e3_1 ?_
  refine r_gI hC (k := 2) (r := (some a0)) cls_1 (by decide) rfl q_808 (Or.inl rfl) dJx4a65c_get_915e3_2 (fun v1 => ?_)
  refine call_S hC (av := [.int p0, .int v1]) (st := []) (ct_J15_checkIndex_7cf53 hC.hl G p0 v1 σ) q_1061 q_1062 q_61 q_1063 yd_J15_checkIndex_7cf53 rfl ⟨Nat.le_of_ble_eq_true rfl, Nat.le_of_ble_eq_true rfl⟩ ⟨Nat.zero_le _, Nat.zero_le _⟩ rfl (Nat.le_of_ble_eq_true rfl) dJx4a65c_get_915e3_5 (fun v2 σ3 => ?_)
  show Wo _ _ _ _ _ _ _ _ _ _ [.int v2]
  refine r_pop hC rfl dJx4a65c_get_915e3_8 ?_
  refine r_aloadn hC 0 (r := (some a0)) rfl rfl dJx4a65c_get_915e3_9 ?_
  refine r_iloadn hC 1 rfl rfl dJx4a65c_get_915e3_10 ?_
  refine call_V hC (av := [.int p0]) (st := []) (r := (some a0)) (ci := 1) rfl rfl (fun h9 => ct_Jx4a65c_elementData_915e3 hC.hl G h9 p0 σ3) q_1067 q_1068 q_1069 q_47 q_1070 yd_Jx4a65c_elementData_915e3 rfl ⟨Nat.le_of_ble_eq_true rfl, Nat.le_of_ble_eq_true rfl⟩ ⟨Nat.zero_le _, Nat.zero_le _⟩ rfl (Nat.le_of_ble_eq_true rfl) dJx4a65c_get_915e3_11 (fun r4 σ5 => ?_)
  show Wo _ _ _ _ _ _ _ _ _ _ [va_rf r4]
  exact e_R hC (Or.inl ⟨_, rfl⟩) ⟨Nat.zero_le _, Nat.zero_le _⟩ dJx4a65c_get_915e3_14

set_option maxRecDepth 100000 in
set_option maxHeartbeats 4000000 in
theorem ct_Jx4a65c_get_915e3 {l : Launch} (hl : l.stackTraces = false) (G : Glb) (a0 : Nat) (p0 : Int32) (σ : Mem) : Ct rvR l yJx4a65c_get_915e3 (Cond.code yJx4a65c_get_915e3 cJx4a65c_get_915e3 2 (some (.object "java/lang/Object")) :: uW) { frames := 2, cells := 0, slots := 0, locals := 43 } 0 0 G [.ref a0, .int p0] σ (f_Jx4a65c_get_915e3 a0 p0 σ) := by
  refine Ct.of hl (by decide +kernel) (Nat.le_of_ble_eq_true rfl) (fun C hC hin => ?_)
  have e : lv_args 0 [.ref a0, .int p0] = [(0, .ref a0), (1, .int p0)] := rfl
  rw [e]
  exact t_Jx4a65c_get_915e3_0 hC a0 p0 σ

noncomputable def b_J8_newLength_cabcc_21 (x21_0 : Int32) (x21_1 : Int32) (σ : Mem) : Option ((Int32) × Mem) :=
none

noncomputable def b_J8_newLength_cabcc_0 (p0 : Int32) (p1 : Int32) (p2 : Int32) (σ : Mem) : Option ((Int32) × Mem) :=
nm (if p1 < p2 then p2 else p1) fun v1 =>
nm (p0 + v1) fun v2 =>
if v2 ≤ 0 then
b_J8_newLength_cabcc_21 p0 p1 σ
else
if 2147483639 < v2 then
b_J8_newLength_cabcc_21 p0 p1 σ
else
some (v2, σ)

noncomputable def f_J8_newLength_cabcc (p0 : Int32) (p1 : Int32) (p2 : Int32) (σ : Mem) : Option ((Int32) × Mem) := b_J8_newLength_cabcc_0 p0 p1 p2 σ
set_option maxRecDepth 100000 in
set_option maxHeartbeats 4000000 in
theorem t_J8_newLength_cabcc_21 {C : Cxt} {G : Glb} (hC : CX C G RJ8 cJ8_newLength_cabcc 4 (some .int) 1 0 0 14) (x21_0 : Int32) (x21_1 : Int32) (σ : Mem) : Wo C G 4 (QP C G rvI 0 0) (b_J8_newLength_cabcc_21  x21_0 x21_1 σ) σ 0 0 21 [(0, .int x21_0), (1, .int x21_1)] [] := by
  unfold b_J8_newLength_cabcc_21
  refine r_iloadn hC 0 rfl rfl dJ8_newLength_cabcc_21 ?_
  refine r_iloadn hC 1 rfl rfl dJ8_newLength_cabcc_22 ?_
  exact Wo.none

set_option maxRecDepth 100000 in
set_option maxHeartbeats 4000000 in
theorem t_J8_newLength_cabcc_0 {C : Cxt} {G : Glb} (hC : CX C G RJ8 cJ8_newLength_cabcc 4 (some .int) 1 0 0 14) (p0 : Int32) (p1 : Int32) (p2 : Int32) (σ : Mem) : Wo C G 4 (QP C G rvI 0 0) (b_J8_newLength_cabcc_0  p0 p1 p2 σ) σ 0 0 0 [(0, .int p0), (1, .int p1), (2, .int p2)] [] := by
  unfold b_J8_newLength_cabcc_0
  refine r_iloadn hC 0 rfl rfl dJ8_newLength_cabcc_0 ?_
  refine r_iloadn hC 1 rfl rfl dJ8_newLength_cabcc_1 ?_
  refine r_iloadn hC 2 rfl rfl dJ8_newLength_cabcc_2 ?_
  refine r_max hC q_948 q_286 q_56 q_287 (Nat.le_of_ble_eq_true rfl) (by simp [cat_rf, cat_i, cat_j, cat_d, cat_a]) ⟨Nat.zero_le _, Nat.zero_le _⟩ dJ8_newLength_cabcc_3 (fun v1 => ?_)
  refine r_iadd hC dJ8_newLength_cabcc_6 (fun v2 => ?_)
  refine r_istoren hC [(3, .int v2), (0, .int p0), (1, .int p1), (2, .int p2)] (i := 3) rfl (by decide) rfl dJ8_newLength_cabcc_7 ?_
  refine r_iconst hC (0) rfl dJ8_newLength_cabcc_8 ?_
  refine r_iloadn hC 0 rfl rfl dJ8_newLength_cabcc_9 ?_
  refine r_icmp_ge hC 21 dJ8_newLength_cabcc_10 (by decide) ?_ ?_
  · refine Wo.sub [1, 2] rfl ?_
    exact t_J8_newLength_cabcc_21 hC p0 p1 σ
  · refine r_iloadn hC 0 rfl rfl dJ8_newLength_cabcc_13 ?_
    refine r_ldc hC (v := 2147483639) q_949 dJ8_newLength_cabcc_14 ?_
    refine r_icmp_gt hC 21 dJ8_newLength_cabcc_16 (by decide) ?_ ?_
    · refine Wo.sub [1, 2] rfl ?_
      exact t_J8_newLength_cabcc_21 hC p0 p1 σ
    · refine r_iloadn hC 0 rfl rfl dJ8_newLength_cabcc_19 ?_
      exact e_I hC ⟨Nat.zero_le _, Nat.zero_le _⟩ dJ8_newLength_cabcc_20

set_option maxRecDepth 100000 in
set_option maxHeartbeats 4000000 in
theorem ct_J8_newLength_cabcc {l : Launch} (hl : l.stackTraces = false) (G : Glb) (p0 : Int32) (p1 : Int32) (p2 : Int32) (σ : Mem) : Ct rvI l yJ8_newLength_cabcc (Cond.code yJ8_newLength_cabcc cJ8_newLength_cabcc 4 (some .int) :: uW) { frames := 1, cells := 0, slots := 0, locals := 14 } 0 0 G [.int p0, .int p1, .int p2] σ (f_J8_newLength_cabcc p0 p1 p2 σ) := by
  refine Ct.of hl (by decide +kernel) (Nat.le_of_ble_eq_true rfl) (fun C hC hin => ?_)
  have e : lv_args 0 [.int p0, .int p1, .int p2] = [(0, .int p0), (1, .int p1), (2, .int p2)] := rfl
  rw [e]
  exact t_J8_newLength_cabcc_0 hC p0 p1 p2 σ

noncomputable def b_J7_copyOf_6403c_0 (e0 mi : Nat) (p0 : (Option Nat)) (p1 : Int32) (p2 : (Option Nat)) (σ : Mem) : Option ((Option Nat) × Mem) :=
if p2 = (some mi) then
nA 6 22 σ p1 fun σ1 r2 =>
aLe e0 σ1 p0 fun v3 =>
nm (if p1 < v3 then p1 else v3) fun v4 =>
cpR σ1 p0 0 r2 0 v4 fun σ5 =>
some (r2, σ5)
else
none

noncomputable def f_J7_copyOf_6403c (e0 mi : Nat) (p0 : (Option Nat)) (p1 : Int32) (p2 : (Option Nat)) (σ : Mem) : Option ((Option Nat) × Mem) := b_J7_copyOf_6403c_0 e0 mi p0 p1 p2 σ
set_option maxRecDepth 100000 in
set_option maxHeartbeats 4000000 in
theorem t_J7_copyOf_6403c_0 {C : Cxt} {G : Glb} (hC : CX C G RJ7 cJ7_copyOf_6403c 4 (some (.array (.object "java/lang/Object"))) 1 1 22 18) (p0 : (Option Nat)) (p1 : Int32) (p2 : (Option Nat)) (σ : Mem) (kc ks : Nat) (hN : kc + 1 ≤ 1 ∧ ks + 22 ≤ 22) : Wo C G 4 (QP C G rvR 1 22) (b_J7_copyOf_6403c_0 G.2.2.2.1 G.2.2.2.2  p0 p1 p2 σ) σ kc ks 0 [(0, va_rf p0), (1, .int p1), (2, va_rf p2)] [] := by
  unfold b_J7_copyOf_6403c_0
  refine r_aloadn hC 2 (r := p2) rfl rfl dJ7_copyOf_6403c_0 ?_
  refine r_ldcC hC q_977 dJ7_copyOf_6403c_1 ?_
  refine r_acmp_ne hC 13 dJ7_copyOf_6403c_3 (by decide) ?_ ?_
  · refine r_aloadn hC 2 (r := p2) rfl rfl dJ7_copyOf_6403c_13 ?_
    exact Wo.none
  · refine r_iloadn hC 1 rfl rfl dJ7_copyOf_6403c_6 ?_
    refine r_nQ hC (t := 6) (b := 22) rfl rfl q_979 hC.hK.1.2.2.1.2.2.2.2 (Nat.le_of_ble_eq_true rfl) ⟨by omega, by omega⟩ dJ7_copyOf_6403c_7 (fun σ1 r2 => ?_)
    refine r_goto hC 24 dJ7_copyOf_6403c_10 (by decide) ?_
    refine r_astoren hC [(3, va_rf r2), (0, va_rf p0), (1, .int p1), (2, va_rf p2)] (r := r2) (i := 3) rfl (by decide) (by simp [List.filter, cat_rf, cat_i, cat_j, cat_d, cat_a]) dJ7_copyOf_6403c_24 ?_
    refine r_aloadn hC 1 (r := p0) rfl rfl dJ7_copyOf_6403c_25 ?_
    refine r_iconst hC (0) rfl dJ7_copyOf_6403c_26 ?_
    refine r_aloadn hC 0 (r := r2) rfl rfl dJ7_copyOf_6403c_27 ?_
    refine r_iconst hC (0) rfl dJ7_copyOf_6403c_28 ?_
    refine r_aloadn hC 1 (r := p0) rfl rfl dJ7_copyOf_6403c_29 ?_
    refine r_aLe hC (r := p0) dJ7_copyOf_6403c_30 (fun v3 => ?_)
    refine r_iloadn hC 2 rfl rfl dJ7_copyOf_6403c_31 ?_
    refine r_min hC q_980 q_283 q_56 q_284 (Nat.le_of_ble_eq_true rfl) (by simp [cat_rf, cat_i, cat_j, cat_d, cat_a]) ⟨by omega, by omega⟩ dJ7_copyOf_6403c_32 (fun v4 => ?_)
    refine r_cpR hC (r := p0) (q := r2) q_981 q_983 q_982 q_58 (Nat.le_of_ble_eq_true rfl) (Nat.le_of_ble_eq_true rfl) dJ7_copyOf_6403c_35 (fun σ5 => ?_)
    refine r_aloadn hC 0 (r := r2) rfl rfl dJ7_copyOf_6403c_38 ?_
    exact e_R hC (Or.inr ⟨_, rfl⟩) ⟨by omega, by omega⟩ dJ7_copyOf_6403c_39

set_option maxRecDepth 100000 in
set_option maxHeartbeats 4000000 in
theorem ct_J7_copyOf_6403c {l : Launch} (hl : l.stackTraces = false) (G : Glb) (p0 : (Option Nat)) (p1 : Int32) (p2 : (Option Nat)) (σ : Mem) : Ct rvR l yJ7_copyOf_6403c (Cond.code yJ7_copyOf_6403c cJ7_copyOf_6403c 4 (some (.array (.object "java/lang/Object"))) :: uW) { frames := 1, cells := 1, slots := 22, locals := 18 } 1 22 G [va_rf p0, .int p1, va_rf p2] σ (f_J7_copyOf_6403c G.2.2.2.1 G.2.2.2.2 p0 p1 p2 σ) := by
  refine Ct.of hl (by decide +kernel) (by simp [lg_sl, cat_rf, cat_i, cat_j, cat_d, cat_a]) (fun C hC hin => ?_)
  have e : lv_args 0 [va_rf p0, .int p1, va_rf p2] = [(0, va_rf p0), (1, .int p1), (2, va_rf p2)] := by simp [lv_args, cat_rf, cat_i, cat_j, cat_d, cat_a]
  rw [e]
  exact t_J7_copyOf_6403c_0 hC p0 p1 p2 σ 0 0 ⟨Nat.le_of_ble_eq_true rfl, Nat.le_of_ble_eq_true rfl⟩

noncomputable def b_J7_copyOf_1904c_0 (e0 mi : Nat) (p0 : (Option Nat)) (p1 : Int32) (σ : Mem) : Option ((Option Nat) × Mem) :=
gC mi σ p0 fun r1 =>
cl1 (f_J7_copyOf_6403c e0 mi p0 p1 r1 σ) fun r2 σ3 =>
some (r2, σ3)

noncomputable def f_J7_copyOf_1904c (e0 mi : Nat) (p0 : (Option Nat)) (p1 : Int32) (σ : Mem) : Option ((Option Nat) × Mem) := b_J7_copyOf_1904c_0 e0 mi p0 p1 σ
set_option maxRecDepth 100000 in
set_option maxHeartbeats 4000000 in
theorem t_J7_copyOf_1904c_0 {C : Cxt} {G : Glb} (hC : CX C G RJ7 cJ7_copyOf_1904c 2 (some (.array (.object "java/lang/Object"))) 2 1 22 41) (p0 : (Option Nat)) (p1 : Int32) (σ : Mem) (kc ks : Nat) (hN : kc + 1 ≤ 1 ∧ ks + 22 ≤ 22) : Wo C G 2 (QP C G rvR 1 22) (b_J7_copyOf_1904c_0 G.2.2.2.1 G.2.2.2.2  p0 p1 σ) σ kc ks 0 [(0, va_rf p0), (1, .int p1)] [] := by
  unfold b_J7_copyOf_1904c_0
  refine r_aloadn hC 0 (r := p0) rfl rfl dJ7_copyOf_1904c_0 ?_
  refine r_iloadn hC 1 rfl rfl dJ7_copyOf_1904c_1 ?_
  refine r_aloadn hC 0 (r := p0) rfl rfl dJ7_copyOf_1904c_2 ?_
  refine r_gC hC (r := p0) q_956 q_1483 q_957 q_973 (Nat.le_of_ble_eq_true rfl) (by simp [cat_rf, cat_i, cat_j, cat_d, cat_a]) dJ7_copyOf_1904c_3 (fun r1 => ?_)
  refine call_S hC (av := [va_rf p0, .int p1, va_rf r1]) (st := []) (ct_J7_copyOf_6403c hC.hl G p0 p1 r1 σ) q_974 q_975 q_57 q_976 yd_J7_copyOf_6403c rfl ⟨Nat.le_of_ble_eq_true rfl, Nat.le_of_ble_eq_true rfl⟩ ⟨by omega, by omega⟩ rfl (Nat.le_of_ble_eq_true rfl) dJ7_copyOf_1904c_6 (fun r2 σ3 => ?_)
  show Wo _ _ _ _ _ _ _ _ _ _ [va_rf r2]
  exact e_R hC (Or.inr ⟨_, rfl⟩) ⟨by omega, by omega⟩ dJ7_copyOf_1904c_9

set_option maxRecDepth 100000 in
set_option maxHeartbeats 4000000 in
theorem ct_J7_copyOf_1904c {l : Launch} (hl : l.stackTraces = false) (G : Glb) (p0 : (Option Nat)) (p1 : Int32) (σ : Mem) : Ct rvR l yJ7_copyOf_1904c (Cond.code yJ7_copyOf_1904c cJ7_copyOf_1904c 2 (some (.array (.object "java/lang/Object"))) :: uW) { frames := 2, cells := 1, slots := 22, locals := 41 } 1 22 G [va_rf p0, .int p1] σ (f_J7_copyOf_1904c G.2.2.2.1 G.2.2.2.2 p0 p1 σ) := by
  refine Ct.of hl (by decide +kernel) (by simp [lg_sl, cat_rf, cat_i, cat_j, cat_d, cat_a]) (fun C hC hin => ?_)
  have e : lv_args 0 [va_rf p0, .int p1] = [(0, va_rf p0), (1, .int p1)] := by simp [lv_args, cat_rf, cat_i, cat_j, cat_d, cat_a]
  rw [e]
  exact t_J7_copyOf_1904c_0 hC p0 p1 σ 0 0 ⟨Nat.le_of_ble_eq_true rfl, Nat.le_of_ble_eq_true rfl⟩

noncomputable def b_Jx4a65c_grow_92f84_20 (e0 mi : Nat) (a0 : Nat) (x20_1 : Int32) (x20_2 : Int32) (σ : Mem) : Option ((Option Nat) × Mem) :=
nm (x20_1 - x20_2) fun v3 =>
nm (x20_2 >>> (1 &&& 31)) fun v4 =>
cl1 (f_J8_newLength_cabcc x20_2 v3 v4 σ) fun v5 σ6 =>
gR 1 1 σ6 (some a0) fun r7 =>
cl1 (f_J7_copyOf_1904c e0 mi r7 v5 σ6) fun r8 σ9 =>
pR 1 1 σ9 (some a0) r8 fun σ10 =>
some (r8, σ10)

noncomputable def b_Jx4a65c_grow_92f84_0 (e0 mi : Nat) (a0 : Nat) (p0 : Int32) (σ : Mem) : Option ((Option Nat) × Mem) :=
gR 1 1 σ (some a0) fun r1 =>
aLe e0 σ r1 fun v2 =>
if 0 < v2 then
b_Jx4a65c_grow_92f84_20 e0 mi a0 p0 v2 σ
else
gR 1 1 σ (some a0) fun r11 =>
if r11 = (some e0) then
nm (if 10 < p0 then p0 else 10) fun v12 =>
nA 6 10 σ v12 fun σ13 r14 =>
pR 1 1 σ13 (some a0) r14 fun σ15 =>
some (r14, σ15)
else
b_Jx4a65c_grow_92f84_20 e0 mi a0 p0 v2 σ

noncomputable def f_Jx4a65c_grow_92f84 (e0 mi : Nat) (a0 : Nat) (p0 : Int32) (σ : Mem) : Option ((Option Nat) × Mem) := b_Jx4a65c_grow_92f84_0 e0 mi a0 p0 σ
set_option maxRecDepth 100000 in
set_option maxHeartbeats 4000000 in
theorem t_Jx4a65c_grow_92f84_20 {C : Cxt} {G : Glb} (hC : CX C G RJx4a65c cJx4a65c_grow_92f84 4 (some (.array (.object "java/lang/Object"))) 3 1 22 62) (a0 : Nat) (x20_1 : Int32) (x20_2 : Int32) (σ : Mem) (kc ks : Nat) (hN : kc + 1 ≤ 1 ∧ ks + 22 ≤ 22) : Wo C G 4 (QP C G rvR 1 22) (b_Jx4a65c_grow_92f84_20 G.2.2.2.1 G.2.2.2.2  a0 x20_1 x20_2 σ) σ kc ks 20 [(0, va_rf (some a0)), (1, .int x20_1), (2, .int x20_2)] [] := by
  unfold b_Jx4a65c_grow_92f84_20
  refine r_iloadn hC 2 rfl rfl dJx4a65c_grow_92f84_20 ?_
  refine r_iloadn hC 1 rfl rfl dJx4a65c_grow_92f84_21 ?_
  refine r_iloadn hC 2 rfl rfl dJx4a65c_grow_92f84_22 ?_
  refine r_isub hC dJx4a65c_grow_92f84_23 (fun v3 => ?_)
  refine r_iloadn hC 2 rfl rfl dJx4a65c_grow_92f84_24 ?_
  refine r_iconst hC (1) rfl dJx4a65c_grow_92f84_25 ?_
  refine r_ishr hC dJx4a65c_grow_92f84_26 (fun v4 => ?_)
  refine call_S hC (av := [.int x20_2, .int v3, .int v4]) (st := []) (ct_J8_newLength_cabcc hC.hl G x20_2 v3 v4 σ) q_945 q_946 q_55 q_947 yd_J8_newLength_cabcc rfl ⟨Nat.le_of_ble_eq_true rfl, Nat.le_of_ble_eq_true rfl⟩ ⟨by omega, by omega⟩ rfl (Nat.le_of_ble_eq_true rfl) dJx4a65c_grow_92f84_27 (fun v5 σ6 => ?_)
  show Wo _ _ _ _ _ _ _ _ _ _ [.int v5]
  refine r_istoren hC [(3, .int v5), (0, va_rf (some a0)), (1, .int x20_1), (2, .int x20_2)] (i := 3) rfl (by decide) rfl dJx4a65c_grow_92f84_30 ?_
  refine r_aloadn hC 1 (r := (some a0)) rfl rfl dJx4a65c_grow_92f84_31 ?_
  refine r_aloadn hC 1 (r := (some a0)) rfl rfl dJx4a65c_grow_92f84_32 ?_
  refine r_gR hC (k := 1) (r := (some a0)) cls_1 (by decide) rfl q_805 (Or.inl rfl) dJx4a65c_grow_92f84_33 (fun r7 => ?_)
  refine r_iloadn hC 0 rfl rfl dJx4a65c_grow_92f84_36 ?_
  refine call_S hC (av := [va_rf r7, .int v5]) (st := [va_rf (some a0)]) (ct_J7_copyOf_1904c hC.hl G r7 v5 σ6) q_953 q_954 q_57 q_955 yd_J7_copyOf_1904c rfl ⟨Nat.le_of_ble_eq_true rfl, Nat.le_of_ble_eq_true rfl⟩ ⟨by omega, by omega⟩ rfl (by simp [cat_rf, cat_i, cat_j, cat_d, cat_a]) dJx4a65c_grow_92f84_37 (fun r8 σ9 => ?_)
  show Wo _ _ _ _ _ _ _ _ _ _ [va_rf r8, va_rf (some a0)]
  refine r_dup_x1 hC (cat_rf _) (cat_rf _) dJx4a65c_grow_92f84_40 ?_
  refine r_pR hC (k := 1) (r := (some a0)) (v := r8) cls_1 (by decide) rfl (Or.inr ⟨_, rfl⟩) q_805 (Or.inl rfl) (Or.inl rfl) dJx4a65c_grow_92f84_41 (fun σ10 => ?_)
  exact e_R hC (Or.inr ⟨_, rfl⟩) ⟨by omega, by omega⟩ dJx4a65c_grow_92f84_44

set_option maxRecDepth 100000 in
set_option maxHeartbeats 4000000 in
theorem t_Jx4a65c_grow_92f84_0 {C : Cxt} {G : Glb} (hC : CX C G RJx4a65c cJx4a65c_grow_92f84 4 (some (.array (.object "java/lang/Object"))) 3 1 22 62) (a0 : Nat) (p0 : Int32) (σ : Mem) (kc ks : Nat) (hN : kc + 1 ≤ 1 ∧ ks + 22 ≤ 22) : Wo C G 4 (QP C G rvR 1 22) (b_Jx4a65c_grow_92f84_0 G.2.2.2.1 G.2.2.2.2  a0 p0 σ) σ kc ks 0 [(0, va_rf (some a0)), (1, .int p0)] [] := by
  unfold b_Jx4a65c_grow_92f84_0
  refine r_aloadn hC 0 (r := (some a0)) rfl rfl dJx4a65c_grow_92f84_0 ?_
  refine r_gR hC (k := 1) (r := (some a0)) cls_1 (by decide) rfl q_805 (Or.inl rfl) dJx4a65c_grow_92f84_1 (fun r1 => ?_)
  refine r_aLe hC (r := r1) dJx4a65c_grow_92f84_4 (fun v2 => ?_)
  refine r_istoren hC [(2, .int v2), (0, va_rf (some a0)), (1, .int p0)] (i := 2) rfl (by decide) rfl dJx4a65c_grow_92f84_5 ?_
  refine r_iloadn hC 0 rfl rfl dJx4a65c_grow_92f84_6 ?_
  refine r_if_gt hC 20 dJx4a65c_grow_92f84_7 (by decide) ?_ ?_
  · refine Wo.sub [1, 2, 0] rfl ?_
    exact t_Jx4a65c_grow_92f84_20 hC a0 p0 v2 σ _ _ ⟨by omega, by omega⟩
  · refine r_aloadn hC 1 (r := (some a0)) rfl rfl dJx4a65c_grow_92f84_10 ?_
    refine r_gR hC (k := 1) (r := (some a0)) cls_1 (by decide) rfl q_805 (Or.inl rfl) dJx4a65c_grow_92f84_11 (fun r11 => ?_)
    refine r_gets hC q_803 rfl dJx4a65c_grow_92f84_14 ?_
    refine r_acmp_eq hC 45 dJx4a65c_grow_92f84_17 (by decide) ?_ ?_
    · refine r_aloadn hC 1 (r := (some a0)) rfl rfl dJx4a65c_grow_92f84_45 ?_
      refine r_bipush hC (10) (by decide) dJx4a65c_grow_92f84_46 ?_
      refine r_iloadn hC 2 rfl rfl dJx4a65c_grow_92f84_48 ?_
      refine r_max hC q_984 q_286 q_56 q_287 (Nat.le_of_ble_eq_true rfl) (by simp [cat_rf, cat_i, cat_j, cat_d, cat_a]) ⟨by omega, by omega⟩ dJx4a65c_grow_92f84_49 (fun v12 => ?_)
      refine r_nQ hC (t := 6) (b := 10) rfl rfl q_985 hC.hK.1.2.2.1.2.2.2.2 (Nat.le_of_ble_eq_true rfl) ⟨by omega, by omega⟩ dJx4a65c_grow_92f84_52 (fun σ13 r14 => ?_)
      refine r_dup_x1 hC (cat_rf _) (cat_rf _) dJx4a65c_grow_92f84_55 ?_
      refine r_pR hC (k := 1) (r := (some a0)) (v := r14) cls_1 (by decide) rfl (Or.inr ⟨_, rfl⟩) q_805 (Or.inl rfl) (Or.inl rfl) dJx4a65c_grow_92f84_56 (fun σ15 => ?_)
      exact e_R hC (Or.inr ⟨_, rfl⟩) ⟨by omega, by omega⟩ dJx4a65c_grow_92f84_59
    · refine Wo.sub [1, 2, 0] rfl ?_
      exact t_Jx4a65c_grow_92f84_20 hC a0 p0 v2 σ _ _ ⟨by omega, by omega⟩

set_option maxRecDepth 100000 in
set_option maxHeartbeats 4000000 in
theorem ct_Jx4a65c_grow_92f84 {l : Launch} (hl : l.stackTraces = false) (G : Glb) (a0 : Nat) (p0 : Int32) (σ : Mem) : Ct rvR l yJx4a65c_grow_92f84 (Cond.code yJx4a65c_grow_92f84 cJx4a65c_grow_92f84 4 (some (.array (.object "java/lang/Object"))) :: uW) { frames := 3, cells := 1, slots := 22, locals := 62 } 1 22 G [.ref a0, .int p0] σ (f_Jx4a65c_grow_92f84 G.2.2.2.1 G.2.2.2.2 a0 p0 σ) := by
  refine Ct.of hl (by decide +kernel) (Nat.le_of_ble_eq_true rfl) (fun C hC hin => ?_)
  have e : lv_args 0 [.ref a0, .int p0] = [(0, .ref a0), (1, .int p0)] := rfl
  rw [e]
  exact t_Jx4a65c_grow_92f84_0 hC a0 p0 σ 0 0 ⟨Nat.le_of_ble_eq_true rfl, Nat.le_of_ble_eq_true rfl⟩

noncomputable def b_Jx4a65c_grow_d5877_0 (e0 mi : Nat) (a0 : Nat) (σ : Mem) : Option ((Option Nat) × Mem) :=
gI 1 2 σ (some a0) fun v1 =>
nm (v1 + 1) fun v2 =>
ob 1 σ (some a0) fun h5 => cl1 (f_Jx4a65c_grow_92f84 e0 mi h5 v2 σ) fun r3 σ4 =>
some (r3, σ4)

noncomputable def f_Jx4a65c_grow_d5877 (e0 mi : Nat) (a0 : Nat) (σ : Mem) : Option ((Option Nat) × Mem) := b_Jx4a65c_grow_d5877_0 e0 mi a0 σ
set_option maxRecDepth 100000 in
set_option maxHeartbeats 4000000 in
theorem t_Jx4a65c_grow_d5877_0 {C : Cxt} {G : Glb} (hC : CX C G RJx4a65c cJx4a65c_grow_d5877 1 (some (.array (.object "java/lang/Object"))) 4 1 22 85) (a0 : Nat) (σ : Mem) (kc ks : Nat) (hN : kc + 1 ≤ 1 ∧ ks + 22 ≤ 22) : Wo C G 1 (QP C G rvR 1 22) (b_Jx4a65c_grow_d5877_0 G.2.2.2.1 G.2.2.2.2  a0 σ) σ kc ks 0 [(0, va_rf (some a0))] [] := by
  unfold b_Jx4a65c_grow_d5877_0
  refine r_aloadn hC 0 (r := (some a0)) rfl rfl dJx4a65c_grow_d5877_0 ?_
  refine r_aloadn hC 0 (r := (some a0)) rfl rfl dJx4a65c_grow_d5877_1 ?_
  refine r_gI hC (k := 2) (r := (some a0)) cls_1 (by decide) rfl q_808 (Or.inl rfl) dJx4a65c_grow_d5877_2 (fun v1 => ?_)
  refine r_iconst hC (1) rfl dJx4a65c_grow_d5877_5 ?_
  refine r_iadd hC dJx4a65c_grow_d5877_6 (fun v2 => ?_)
  refine call_V hC (av := [.int v2]) (st := []) (r := (some a0)) (ci := 1) rfl rfl (fun h9 => ct_Jx4a65c_grow_92f84 hC.hl G h9 v2 σ) q_941 q_943 q_16 q_47 q_944 yd_Jx4a65c_grow_92f84 rfl ⟨Nat.le_of_ble_eq_true rfl, Nat.le_of_ble_eq_true rfl⟩ ⟨by omega, by omega⟩ rfl (Nat.le_of_ble_eq_true rfl) dJx4a65c_grow_d5877_7 (fun r3 σ4 => ?_)
  show Wo _ _ _ _ _ _ _ _ _ _ [va_rf r3]
  exact e_R hC (Or.inr ⟨_, rfl⟩) ⟨by omega, by omega⟩ dJx4a65c_grow_d5877_10

set_option maxRecDepth 100000 in
set_option maxHeartbeats 4000000 in
theorem ct_Jx4a65c_grow_d5877 {l : Launch} (hl : l.stackTraces = false) (G : Glb) (a0 : Nat) (σ : Mem) : Ct rvR l yJx4a65c_grow_d5877 (Cond.code yJx4a65c_grow_d5877 cJx4a65c_grow_d5877 1 (some (.array (.object "java/lang/Object"))) :: uW) { frames := 4, cells := 1, slots := 22, locals := 85 } 1 22 G [.ref a0] σ (f_Jx4a65c_grow_d5877 G.2.2.2.1 G.2.2.2.2 a0 σ) := by
  refine Ct.of hl (by decide +kernel) (Nat.le_of_ble_eq_true rfl) (fun C hC hin => ?_)
  have e : lv_args 0 [.ref a0] = [(0, .ref a0)] := rfl
  rw [e]
  exact t_Jx4a65c_grow_d5877_0 hC a0 σ 0 0 ⟨Nat.le_of_ble_eq_true rfl, Nat.le_of_ble_eq_true rfl⟩

noncomputable def b_Jx4a65c_add_72be8_11 (e0 mi : Nat) (a0 : Nat) (x11_1 : (Option Nat)) (x11_2 : (Option Nat)) (x11_3 : Int32) (σ : Mem) : Option ((Unit) × Mem) :=
wR 6 σ x11_2 x11_3 x11_1 fun σ2 =>
nm (x11_3 + 1) fun v3 =>
pI 1 2 σ2 (some a0) v3 fun σ4 =>
some ((), σ4)

noncomputable def b_Jx4a65c_add_72be8_0 (e0 mi : Nat) (a0 : Nat) (p0 : (Option Nat)) (p1 : (Option Nat)) (p2 : Int32) (σ : Mem) : Option ((Unit) × Mem) :=
aLe e0 σ p1 fun v1 =>
if p2 = v1 then
ob 1 σ (some a0) fun h7 => cl1 (f_Jx4a65c_grow_d5877 e0 mi h7 σ) fun r5 σ6 =>
b_Jx4a65c_add_72be8_11 e0 mi a0 p0 r5 p2 σ6
else
b_Jx4a65c_add_72be8_11 e0 mi a0 p0 p1 p2 σ

noncomputable def f_Jx4a65c_add_72be8 (e0 mi : Nat) (a0 : Nat) (p0 : (Option Nat)) (p1 : (Option Nat)) (p2 : Int32) (σ : Mem) : Option ((Unit) × Mem) := b_Jx4a65c_add_72be8_0 e0 mi a0 p0 p1 p2 σ
set_option maxRecDepth 100000 in
set_option maxHeartbeats 4000000 in
theorem t_Jx4a65c_add_72be8_11 {C : Cxt} {G : Glb} (hC : CX C G RJx4a65c cJx4a65c_add_72be8 4 none 5 1 22 105) (a0 : Nat) (x11_1 : (Option Nat)) (x11_2 : (Option Nat)) (x11_3 : Int32) (σ : Mem) (kc ks : Nat) (hN : kc + 0 ≤ 1 ∧ ks + 0 ≤ 22) : Wo C G 4 (QP C G rvU 1 22) (b_Jx4a65c_add_72be8_11 G.2.2.2.1 G.2.2.2.2  a0 x11_1 x11_2 x11_3 σ) σ kc ks 11 [(0, va_rf (some a0)), (1, va_rf x11_1), (2, va_rf x11_2), (3, .int x11_3)] [] := by
  unfold b_Jx4a65c_add_72be8_11
  refine r_aloadn hC 2 (r := x11_2) rfl rfl dJx4a65c_add_72be8_11 ?_
  refine r_iloadn hC 3 rfl rfl dJx4a65c_add_72be8_12 ?_
  refine r_aloadn hC 1 (r := x11_1) rfl rfl dJx4a65c_add_72be8_13 ?_
  refine r_wR hC (t := 6) (r := x11_2) (v := x11_1) rfl rfl dJx4a65c_add_72be8_14 (fun σ2 => ?_)
  refine r_aloadn hC 0 (r := (some a0)) rfl rfl dJx4a65c_add_72be8_15 ?_
  refine r_iloadn hC 3 rfl rfl dJx4a65c_add_72be8_16 ?_
  refine r_iconst hC (1) rfl dJx4a65c_add_72be8_17 ?_
  refine r_iadd hC dJx4a65c_add_72be8_18 (fun v3 => ?_)
  refine r_pI hC (k := 2) (r := (some a0)) cls_1 (by decide) rfl q_808 (Or.inl rfl) (Or.inl rfl) dJx4a65c_add_72be8_19 (fun σ4 => ?_)
  exact e_U hC ⟨by omega, by omega⟩ dJx4a65c_add_72be8_22

set_option maxRecDepth 100000 in
set_option maxHeartbeats 4000000 in
theorem t_Jx4a65c_add_72be8_0 {C : Cxt} {G : Glb} (hC : CX C G RJx4a65c cJx4a65c_add_72be8 4 none 5 1 22 105) (a0 : Nat) (p0 : (Option Nat)) (p1 : (Option Nat)) (p2 : Int32) (σ : Mem) (kc ks : Nat) (hN : kc + 1 ≤ 1 ∧ ks + 22 ≤ 22) : Wo C G 4 (QP C G rvU 1 22) (b_Jx4a65c_add_72be8_0 G.2.2.2.1 G.2.2.2.2  a0 p0 p1 p2 σ) σ kc ks 0 [(0, va_rf (some a0)), (1, va_rf p0), (2, va_rf p1), (3, .int p2)] [] := by
  unfold b_Jx4a65c_add_72be8_0
  refine r_iloadn hC 3 rfl rfl dJx4a65c_add_72be8_0 ?_
  refine r_aloadn hC 2 (r := p1) rfl rfl dJx4a65c_add_72be8_1 ?_
  refine r_aLe hC (r := p1) dJx4a65c_add_72be8_2 (fun v1 => ?_)
  refine r_icmp_ne hC 11 dJx4a65c_add_72be8_3 (by decide) ?_ ?_
  · exact t_Jx4a65c_add_72be8_11 hC a0 p0 p1 p2 σ _ _ ⟨by omega, by omega⟩
  · refine r_aloadn hC 0 (r := (some a0)) rfl rfl dJx4a65c_add_72be8_6 ?_
    refine call_V hC (av := []) (st := []) (r := (some a0)) (ci := 1) rfl rfl (fun h9 => ct_Jx4a65c_grow_d5877 hC.hl G h9 σ) q_937 q_939 q_15 q_47 q_940 yd_Jx4a65c_grow_d5877 rfl ⟨Nat.le_of_ble_eq_true rfl, Nat.le_of_ble_eq_true rfl⟩ ⟨by omega, by omega⟩ rfl (Nat.le_of_ble_eq_true rfl) dJx4a65c_add_72be8_7 (fun r5 σ6 => ?_)
    show Wo _ _ _ _ _ _ _ _ _ _ [va_rf r5]
    refine r_astoren hC [(2, va_rf r5), (0, va_rf (some a0)), (1, va_rf p0), (3, .int p2)] (r := r5) (i := 2) rfl (by decide) (by simp [List.filter, cat_rf, cat_i, cat_j, cat_d, cat_a]) dJx4a65c_add_72be8_10 ?_
    refine Wo.sub [1, 2, 0, 3] rfl ?_
    exact t_Jx4a65c_add_72be8_11 hC a0 p0 r5 p2 σ6 _ _ ⟨by omega, by omega⟩

set_option maxRecDepth 100000 in
set_option maxHeartbeats 4000000 in
theorem ct_Jx4a65c_add_72be8 {l : Launch} (hl : l.stackTraces = false) (G : Glb) (a0 : Nat) (p0 : (Option Nat)) (p1 : (Option Nat)) (p2 : Int32) (σ : Mem) : Ct rvU l yJx4a65c_add_72be8 (Cond.code yJx4a65c_add_72be8 cJx4a65c_add_72be8 4 none :: uW) { frames := 5, cells := 1, slots := 22, locals := 105 } 1 22 G [.ref a0, va_rf p0, va_rf p1, .int p2] σ (f_Jx4a65c_add_72be8 G.2.2.2.1 G.2.2.2.2 a0 p0 p1 p2 σ) := by
  refine Ct.of hl (by decide +kernel) (by simp [lg_sl, cat_rf, cat_i, cat_j, cat_d, cat_a]) (fun C hC hin => ?_)
  have e : lv_args 0 [.ref a0, va_rf p0, va_rf p1, .int p2] = [(0, .ref a0), (1, va_rf p0), (2, va_rf p1), (3, .int p2)] := by simp [lv_args, cat_rf, cat_i, cat_j, cat_d, cat_a]
  rw [e]
  exact t_Jx4a65c_add_72be8_0 hC a0 p0 p1 p2 σ 0 0 ⟨Nat.le_of_ble_eq_true rfl, Nat.le_of_ble_eq_true rfl⟩

noncomputable def b_Jx4a65c_add_9ea2d_0 (e0 mi : Nat) (a0 : Nat) (p0 : (Option Nat)) (σ : Mem) : Option ((Int32) × Mem) :=
gI 1 0 σ (some a0) fun v1 =>
nm (v1 + 1) fun v2 =>
pI 1 0 σ (some a0) v2 fun σ3 =>
gR 1 1 σ3 (some a0) fun r4 =>
gI 1 2 σ3 (some a0) fun v5 =>
ob 1 σ3 (some a0) fun h8 => cl1 (f_Jx4a65c_add_72be8 e0 mi h8 p0 r4 v5 σ3) fun u6 σ7 =>
bo 1 (some (1, σ7))

noncomputable def f_Jx4a65c_add_9ea2d (e0 mi : Nat) (a0 : Nat) (p0 : (Option Nat)) (σ : Mem) : Option ((Int32) × Mem) := b_Jx4a65c_add_9ea2d_0 e0 mi a0 p0 σ
set_option maxRecDepth 100000 in
set_option maxHeartbeats 4000000 in
theorem t_Jx4a65c_add_9ea2d_0 {C : Cxt} {G : Glb} (hC : CX C G RJx4a65c cJx4a65c_add_9ea2d 2 (some .boolean) 6 1 22 128) (a0 : Nat) (p0 : (Option Nat)) (σ : Mem) (kc ks : Nat) (hN : kc + 1 ≤ 1 ∧ ks + 22 ≤ 22) : Wo C G 2 (QP C G rvI 1 22) (b_Jx4a65c_add_9ea2d_0 G.2.2.2.1 G.2.2.2.2  a0 p0 σ) σ kc ks 0 [(0, va_rf (some a0)), (1, va_rf p0)] [] := by
  unfold b_Jx4a65c_add_9ea2d_0
  refine r_aloadn hC 0 (r := (some a0)) rfl rfl dJx4a65c_add_9ea2d_0 ?_
  refine r_dup hC (cat_rf _) dJx4a65c_add_9ea2d_1 ?_
  refine r_gI hC (k := 0) (r := (some a0)) cls_1 (by decide) rfl q_812 (Or.inr q_811) dJx4a65c_add_9ea2d_2 (fun v1 => ?_)
  refine r_iconst hC (1) rfl dJx4a65c_add_9ea2d_5 ?_
  refine r_iadd hC dJx4a65c_add_9ea2d_6 (fun v2 => ?_)
  refine r_pI hC (k := 0) (r := (some a0)) cls_1 (by decide) rfl q_812 (Or.inr q_811) (Or.inl rfl) dJx4a65c_add_9ea2d_7 (fun σ3 => ?_)
  refine r_aloadn hC 0 (r := (some a0)) rfl rfl dJx4a65c_add_9ea2d_10 ?_
  refine r_aloadn hC 1 (r := p0) rfl rfl dJx4a65c_add_9ea2d_11 ?_
  refine r_aloadn hC 0 (r := (some a0)) rfl rfl dJx4a65c_add_9ea2d_12 ?_
  refine r_gR hC (k := 1) (r := (some a0)) cls_1 (by decide) rfl q_805 (Or.inl rfl) dJx4a65c_add_9ea2d_13 (fun r4 => ?_)
  refine r_aloadn hC 0 (r := (some a0)) rfl rfl dJx4a65c_add_9ea2d_16 ?_
  refine r_gI hC (k := 2) (r := (some a0)) cls_1 (by decide) rfl q_808 (Or.inl rfl) dJx4a65c_add_9ea2d_17 (fun v5 => ?_)
  refine call_V hC (av := [va_rf p0, va_rf r4, .int v5]) (st := []) (r := (some a0)) (ci := 1) rfl rfl (fun h9 => ct_Jx4a65c_add_72be8 hC.hl G h9 p0 r4 v5 σ3) q_933 q_935 q_14 q_47 q_936 yd_Jx4a65c_add_72be8 rfl ⟨Nat.le_of_ble_eq_true rfl, Nat.le_of_ble_eq_true rfl⟩ ⟨by omega, by omega⟩ rfl (Nat.le_of_ble_eq_true rfl) dJx4a65c_add_9ea2d_20 (fun u6 σ7 => ?_)
  show Wo _ _ _ _ _ _ _ _ _ _ []
  refine r_iconst hC (1) rfl dJx4a65c_add_9ea2d_23 ?_
  exact e_B hC ⟨by omega, by omega⟩ dJx4a65c_add_9ea2d_24

set_option maxRecDepth 100000 in
set_option maxHeartbeats 4000000 in
theorem ct_Jx4a65c_add_9ea2d {l : Launch} (hl : l.stackTraces = false) (G : Glb) (a0 : Nat) (p0 : (Option Nat)) (σ : Mem) : Ct rvI l yJx4a65c_add_9ea2d (Cond.code yJx4a65c_add_9ea2d cJx4a65c_add_9ea2d 2 (some .boolean) :: uW) { frames := 6, cells := 1, slots := 22, locals := 128 } 1 22 G [.ref a0, va_rf p0] σ (f_Jx4a65c_add_9ea2d G.2.2.2.1 G.2.2.2.2 a0 p0 σ) := by
  refine Ct.of hl (by decide +kernel) (by simp [lg_sl, cat_rf, cat_i, cat_j, cat_d, cat_a]) (fun C hC hin => ?_)
  have e : lv_args 0 [.ref a0, va_rf p0] = [(0, .ref a0), (1, va_rf p0)] := by simp [lv_args, cat_rf, cat_i, cat_j, cat_d, cat_a]
  rw [e]
  exact t_Jx4a65c_add_9ea2d_0 hC a0 p0 σ 0 0 ⟨Nat.le_of_ble_eq_true rfl, Nat.le_of_ble_eq_true rfl⟩

noncomputable def b_Jx35411_init_45d68_0 (a0 : Nat) (p0 : (Option Nat)) (σ : Mem) : Option ((Unit) × Mem) :=
pR 0 3 σ (some a0) p0 fun σ1 =>
ob 0 σ1 (some a0) fun _ =>
pI 0 1 σ1 (some a0) (-1) fun σ2 =>
gR 0 3 σ2 (some a0) fun r3 =>
gI 1 0 σ2 r3 fun v4 =>
pI 0 2 σ2 (some a0) v4 fun σ5 =>
some ((), σ5)

noncomputable def f_Jx35411_init_45d68 (a0 : Nat) (p0 : (Option Nat)) (σ : Mem) : Option ((Unit) × Mem) := b_Jx35411_init_45d68_0 a0 p0 σ
set_option maxRecDepth 100000 in
set_option maxHeartbeats 4000000 in
theorem t_Jx35411_init_45d68_0 {C : Cxt} {G : Glb} (hC : CX C G RJx35411 cJx35411_init_45d68 2 none 1 0 0 12) (hin : (cF C).name = "<init>") (a0 : Nat) (p0 : (Option Nat)) (σ : Mem) : Wo C G 2 (QP C G rvU 0 0) (b_Jx35411_init_45d68_0  a0 p0 σ) σ 0 0 0 [(0, va_rf (some a0)), (1, va_rf p0)] [] := by
  unfold b_Jx35411_init_45d68_0
  refine r_aloadn hC 0 (r := (some a0)) rfl rfl dJx35411_init_45d68_0 ?_
  refine r_aloadn hC 1 (r := p0) rfl rfl dJx35411_init_45d68_1 ?_
  refine r_pR hC (k := 3) (r := (some a0)) (v := p0) cls_0 (by decide) rfl (Or.inl ⟨_, rfl⟩) q_1006 (Or.inl rfl) (Or.inr ⟨rfl, hin, rfl⟩) dJx35411_init_45d68_2 (fun σ1 => ?_)
  refine r_aloadn hC 0 (r := (some a0)) rfl rfl dJx35411_init_45d68_5 ?_
  refine call_O hC (r := (some a0)) q_1002 q_70 q_71 (Nat.le_of_ble_eq_true rfl) (Nat.le_of_ble_eq_true rfl) dJx35411_init_45d68_6 ?_
  refine r_aloadn hC 0 (r := (some a0)) rfl rfl dJx35411_init_45d68_9 ?_
  refine r_iconst hC (-1) rfl dJx35411_init_45d68_10 ?_
  refine r_pI hC (k := 1) (r := (some a0)) cls_0 (by decide) rfl q_1004 (Or.inl rfl) (Or.inl rfl) dJx35411_init_45d68_11 (fun σ2 => ?_)
  refine r_aloadn hC 0 (r := (some a0)) rfl rfl dJx35411_init_45d68_14 ?_
  refine r_aloadn hC 0 (r := (some a0)) rfl rfl dJx35411_init_45d68_15 ?_
  refine r_gR hC (k := 3) (r := (some a0)) cls_0 (by decide) rfl q_1006 (Or.inl rfl) dJx35411_init_45d68_16 (fun r3 => ?_)
  refine r_gI hC (k := 0) (r := r3) cls_1 (by decide) rfl q_810 (Or.inr q_811) dJx35411_init_45d68_19 (fun v4 => ?_)
  refine r_pI hC (k := 2) (r := (some a0)) cls_0 (by decide) rfl q_1005 (Or.inl rfl) (Or.inl rfl) dJx35411_init_45d68_22 (fun σ5 => ?_)
  exact e_U hC ⟨Nat.zero_le _, Nat.zero_le _⟩ dJx35411_init_45d68_25

set_option maxRecDepth 100000 in
set_option maxHeartbeats 4000000 in
theorem ct_Jx35411_init_45d68 {l : Launch} (hl : l.stackTraces = false) (G : Glb) (a0 : Nat) (p0 : (Option Nat)) (σ : Mem) : Ct rvU l yJx35411_init_45d68 (Cond.code yJx35411_init_45d68 cJx35411_init_45d68 2 none :: uW) { frames := 1, cells := 0, slots := 0, locals := 12 } 0 0 G [.ref a0, va_rf p0] σ (f_Jx35411_init_45d68 a0 p0 σ) := by
  refine Ct.of hl (by decide +kernel) (by simp [lg_sl, cat_rf, cat_i, cat_j, cat_d, cat_a]) (fun C hC hin => ?_)
  have e : lv_args 0 [.ref a0, va_rf p0] = [(0, .ref a0), (1, va_rf p0)] := by simp [lv_args, cat_rf, cat_i, cat_j, cat_d, cat_a]
  rw [e]
  exact t_Jx35411_init_45d68_0 hC hin a0 p0 σ

noncomputable def b_Jx4a65c_iterator_32c93_0 (a0 : Nat) (σ : Mem) : Option ((Option Nat) × Mem) :=
nO 0 σ fun σ1 r2 =>
ob 0 σ1 r2 fun h5 => cl1 (f_Jx35411_init_45d68 h5 (some a0) σ1) fun _ σ4 =>
some (r2, σ4)

noncomputable def f_Jx4a65c_iterator_32c93 (a0 : Nat) (σ : Mem) : Option ((Option Nat) × Mem) := b_Jx4a65c_iterator_32c93_0 a0 σ
set_option maxRecDepth 100000 in
set_option maxHeartbeats 4000000 in
theorem t_Jx4a65c_iterator_32c93_0 {C : Cxt} {G : Glb} (hC : CX C G RJx4a65c cJx4a65c_iterator_32c93 1 (some (.object "java/util/Iterator")) 2 1 4 33) (a0 : Nat) (σ : Mem) (kc ks : Nat) (hN : kc + 1 ≤ 1 ∧ ks + 4 ≤ 4) : Wo C G 1 (QP C G rvR 1 4) (b_Jx4a65c_iterator_32c93_0  a0 σ) σ kc ks 0 [(0, va_rf (some a0))] [] := by
  unfold b_Jx4a65c_iterator_32c93_0
  refine r_nO hC cls_0 q_997 q_998 q_59 ⟨by omega, by omega⟩ dJx4a65c_iterator_32c93_0 (fun σ1 r2 => ?_)
  refine r_dup hC (cat_rf _) dJx4a65c_iterator_32c93_3 ?_
  refine r_aloadn hC 0 (r := (some a0)) rfl rfl dJx4a65c_iterator_32c93_4 ?_
  refine call_I hC (av := [va_rf (some a0)]) (st := [va_rf r2]) (r := r2) (ci := 0) (fun h9 => ct_Jx35411_init_45d68 hC.hl G h9 (some a0) σ1) q_999 q_1000 q_59 q_1001 rfl yd_Jx35411_init_45d68 rfl ⟨Nat.le_of_ble_eq_true rfl, Nat.le_of_ble_eq_true rfl⟩ ⟨by omega, by omega⟩ rfl (by simp [cat_rf, cat_i, cat_j, cat_d, cat_a]) dJx4a65c_iterator_32c93_5 (fun σ4 => ?_)
  exact e_R hC (Or.inl ⟨_, rfl⟩) ⟨by omega, by omega⟩ dJx4a65c_iterator_32c93_8

set_option maxRecDepth 100000 in
set_option maxHeartbeats 4000000 in
theorem ct_Jx4a65c_iterator_32c93 {l : Launch} (hl : l.stackTraces = false) (G : Glb) (a0 : Nat) (σ : Mem) : Ct rvR l yJx4a65c_iterator_32c93 (Cond.code yJx4a65c_iterator_32c93 cJx4a65c_iterator_32c93 1 (some (.object "java/util/Iterator")) :: uW) { frames := 2, cells := 1, slots := 4, locals := 33 } 1 4 G [.ref a0] σ (f_Jx4a65c_iterator_32c93 a0 σ) := by
  refine Ct.of hl (by decide +kernel) (Nat.le_of_ble_eq_true rfl) (fun C hC hin => ?_)
  have e : lv_args 0 [.ref a0] = [(0, .ref a0)] := rfl
  rw [e]
  exact t_Jx4a65c_iterator_32c93_0 hC a0 σ 0 0 ⟨Nat.le_of_ble_eq_true rfl, Nat.le_of_ble_eq_true rfl⟩

noncomputable def b_Jx35411_hasNext_aae02_19 (y19_0 : Int32) (σ : Mem) : Option ((Int32) × Mem) :=
bo y19_0 (some (y19_0, σ))

noncomputable def b_Jx35411_hasNext_aae02_0 (a0 : Nat) (σ : Mem) : Option ((Int32) × Mem) :=
gI 0 0 σ (some a0) fun v1 =>
gR 0 3 σ (some a0) fun r2 =>
gI 1 2 σ r2 fun v3 =>
if v1 = v3 then
b_Jx35411_hasNext_aae02_19 0 σ
else
b_Jx35411_hasNext_aae02_19 1 σ

noncomputable def f_Jx35411_hasNext_aae02 (a0 : Nat) (σ : Mem) : Option ((Int32) × Mem) := b_Jx35411_hasNext_aae02_0 a0 σ
set_option maxRecDepth 100000 in
set_option maxHeartbeats 4000000 in
theorem t_Jx35411_hasNext_aae02_19 {C : Cxt} {G : Glb} (hC : CX C G RJx35411 cJx35411_hasNext_aae02 1 (some .boolean) 0 0 0 0) (y19_0 : Int32) (σ : Mem) : Wo C G 1 (QP C G rvI 0 0) (b_Jx35411_hasNext_aae02_19  y19_0 σ) σ 0 0 19 [] [.int y19_0] := by
  unfold b_Jx35411_hasNext_aae02_19
  exact e_B hC ⟨Nat.zero_le _, Nat.zero_le _⟩ dJx35411_hasNext_aae02_19

set_option maxRecDepth 100000 in
set_option maxHeartbeats 4000000 in
theorem t_Jx35411_hasNext_aae02_0 {C : Cxt} {G : Glb} (hC : CX C G RJx35411 cJx35411_hasNext_aae02 1 (some .boolean) 0 0 0 0) (a0 : Nat) (σ : Mem) : Wo C G 1 (QP C G rvI 0 0) (b_Jx35411_hasNext_aae02_0  a0 σ) σ 0 0 0 [(0, va_rf (some a0))] [] := by
  unfold b_Jx35411_hasNext_aae02_0
  refine r_aloadn hC 0 (r := (some a0)) rfl rfl dJx35411_hasNext_aae02_0 ?_
  refine r_gI hC (k := 0) (r := (some a0)) cls_0 (by decide) rfl q_1003 (Or.inl rfl) dJx35411_hasNext_aae02_1 (fun v1 => ?_)
  refine r_aloadn hC 0 (r := (some a0)) rfl rfl dJx35411_hasNext_aae02_4 ?_
  refine r_gR hC (k := 3) (r := (some a0)) cls_0 (by decide) rfl q_1006 (Or.inl rfl) dJx35411_hasNext_aae02_5 (fun r2 => ?_)
  refine r_gIN hC cls_1 (by decide) rfl z_807 rfl dJx35411_hasNext_aae02_8 (fun v3 => ?_)
  refine r_icmp_eq hC 18 dJx35411_hasNext_aae02_11 (by decide) ?_ ?_
  · refine r_iconst hC (0) rfl dJx35411_hasNext_aae02_18 ?_
    refine Wo.sub [] rfl ?_
    exact t_Jx35411_hasNext_aae02_19 hC 0 σ
  · refine r_iconst hC (1) rfl dJx35411_hasNext_aae02_14 ?_
    refine r_goto hC 19 dJx35411_hasNext_aae02_15 (by decide) ?_
    refine Wo.sub [] rfl ?_
    exact t_Jx35411_hasNext_aae02_19 hC 1 σ

set_option maxRecDepth 100000 in
set_option maxHeartbeats 4000000 in
theorem ct_Jx35411_hasNext_aae02 {l : Launch} (hl : l.stackTraces = false) (G : Glb) (a0 : Nat) (σ : Mem) : Ct rvI l yJx35411_hasNext_aae02 (Cond.code yJx35411_hasNext_aae02 cJx35411_hasNext_aae02 1 (some .boolean) :: uW) { frames := 0, cells := 0, slots := 0, locals := 0 } 0 0 G [.ref a0] σ (f_Jx35411_hasNext_aae02 a0 σ) := by
  refine Ct.of hl (by decide +kernel) (Nat.le_of_ble_eq_true rfl) (fun C hC hin => ?_)
  have e : lv_args 0 [.ref a0] = [(0, .ref a0)] := rfl
  rw [e]
  exact t_Jx35411_hasNext_aae02_0 hC a0 σ

noncomputable def b_Jx35411_checkForComodification_da8c8_0 (a0 : Nat) (σ : Mem) : Option ((Unit) × Mem) :=
gR 0 3 σ (some a0) fun r1 =>
gI 1 0 σ r1 fun v2 =>
gI 0 2 σ (some a0) fun v3 =>
if v2 = v3 then
some ((), σ)
else
none

noncomputable def f_Jx35411_checkForComodification_da8c8 (a0 : Nat) (σ : Mem) : Option ((Unit) × Mem) := b_Jx35411_checkForComodification_da8c8_0 a0 σ
set_option maxRecDepth 100000 in
set_option maxHeartbeats 4000000 in
theorem t_Jx35411_checkForComodification_da8c8_0 {C : Cxt} {G : Glb} (hC : CX C G RJx35411 cJx35411_checkForComodification_da8c8 1 none 0 0 0 0) (a0 : Nat) (σ : Mem) : Wo C G 1 (QP C G rvU 0 0) (b_Jx35411_checkForComodification_da8c8_0  a0 σ) σ 0 0 0 [(0, va_rf (some a0))] [] := by
  unfold b_Jx35411_checkForComodification_da8c8_0
  refine r_aloadn hC 0 (r := (some a0)) rfl rfl dJx35411_checkForComodification_da8c8_0 ?_
  refine r_gR hC (k := 3) (r := (some a0)) cls_0 (by decide) rfl q_1006 (Or.inl rfl) dJx35411_checkForComodification_da8c8_1 (fun r1 => ?_)
  refine r_gI hC (k := 0) (r := r1) cls_1 (by decide) rfl q_810 (Or.inr q_811) dJx35411_checkForComodification_da8c8_4 (fun v2 => ?_)
  refine r_aloadn hC 0 (r := (some a0)) rfl rfl dJx35411_checkForComodification_da8c8_7 ?_
  refine r_gI hC (k := 2) (r := (some a0)) cls_0 (by decide) rfl q_1005 (Or.inl rfl) dJx35411_checkForComodification_da8c8_8 (fun v3 => ?_)
  refine r_icmp_eq hC 22 dJx35411_checkForComodification_da8c8_11 (by decide) ?_ ?_
  · exact e_U hC ⟨Nat.zero_le _, Nat.zero_le _⟩ dJx35411_checkForComodification_da8c8_22
  · exact Wo.none

set_option maxRecDepth 100000 in
set_option maxHeartbeats 4000000 in
theorem ct_Jx35411_checkForComodification_da8c8 {l : Launch} (hl : l.stackTraces = false) (G : Glb) (a0 : Nat) (σ : Mem) : Ct rvU l yJx35411_checkForComodification_da8c8 (Cond.code yJx35411_checkForComodification_da8c8 cJx35411_checkForComodification_da8c8 1 none :: uW) { frames := 0, cells := 0, slots := 0, locals := 0 } 0 0 G [.ref a0] σ (f_Jx35411_checkForComodification_da8c8 a0 σ) := by
  refine Ct.of hl (by decide +kernel) (Nat.le_of_ble_eq_true rfl) (fun C hC hin => ?_)
  have e : lv_args 0 [.ref a0] = [(0, .ref a0)] := rfl
  rw [e]
  exact t_Jx35411_checkForComodification_da8c8_0 hC a0 σ

noncomputable def b_Jx35411_next_0502b_0 (e0 mi : Nat) (a0 : Nat) (σ : Mem) : Option ((Option Nat) × Mem) :=
ob 0 σ (some a0) fun h3 => cl1 (f_Jx35411_checkForComodification_da8c8 h3 σ) fun u1 σ2 =>
gI 0 0 σ2 (some a0) fun v4 =>
gR 0 3 σ2 (some a0) fun r5 =>
gI 1 2 σ2 r5 fun v6 =>
if v4 < v6 then
gR 0 3 σ2 (some a0) fun r7 =>
gR 1 1 σ2 r7 fun r8 =>
aLe e0 σ2 r8 fun v9 =>
if v4 < v9 then
nm (v4 + 1) fun v10 =>
pI 0 0 σ2 (some a0) v10 fun σ11 =>
pI 0 1 σ11 (some a0) v4 fun σ12 =>
aR 6 σ12 r8 v4 fun r13 =>
some (r13, σ12)
else
none
else
none

noncomputable def f_Jx35411_next_0502b (e0 mi : Nat) (a0 : Nat) (σ : Mem) : Option ((Option Nat) × Mem) := b_Jx35411_next_0502b_0 e0 mi a0 σ
set_option maxRecDepth 100000 in
set_option maxHeartbeats 4000000 in
theorem t_Jx35411_next_0502b_0 {C : Cxt} {G : Glb} (hC : CX C G RJx35411 cJx35411_next_0502b 3 (some (.object "java/lang/Object")) 1 0 0 20) (a0 : Nat) (σ : Mem) : Wo C G 3 (QP C G rvR 0 0) (b_Jx35411_next_0502b_0 G.2.2.2.1 G.2.2.2.2  a0 σ) σ 0 0 0 [(0, va_rf (some a0))] [] := by
  unfold b_Jx35411_next_0502b_0
  refine r_aloadn hC 0 (r := (some a0)) rfl rfl dJx35411_next_0502b_0 ?_
  refine call_V hC (av := []) (st := []) (r := (some a0)) (ci := 0) rfl rfl (fun h9 => ct_Jx35411_checkForComodification_da8c8 hC.hl G h9 σ) q_1035 q_1036 q_1037 q_59 q_1038 yd_Jx35411_checkForComodification_da8c8 rfl ⟨Nat.le_of_ble_eq_true rfl, Nat.le_of_ble_eq_true rfl⟩ ⟨Nat.zero_le _, Nat.zero_le _⟩ rfl (Nat.le_of_ble_eq_true rfl) dJx35411_next_0502b_1 (fun u1 σ2 => ?_)
  show Wo _ _ _ _ _ _ _ _ _ _ []
  refine r_aloadn hC 0 (r := (some a0)) rfl rfl dJx35411_next_0502b_4 ?_
  refine r_gI hC (k := 0) (r := (some a0)) cls_0 (by decide) rfl q_1003 (Or.inl rfl) dJx35411_next_0502b_5 (fun v4 => ?_)
  refine r_istoren hC [(1, .int v4), (0, va_rf (some a0))] (i := 1) rfl (by decide) rfl dJx35411_next_0502b_8 ?_
  refine r_iloadn hC 0 rfl rfl dJx35411_next_0502b_9 ?_
  refine r_aloadn hC 1 (r := (some a0)) rfl rfl dJx35411_next_0502b_10 ?_
  refine r_gR hC (k := 3) (r := (some a0)) cls_0 (by decide) rfl q_1006 (Or.inl rfl) dJx35411_next_0502b_11 (fun r5 => ?_)
  refine r_gIN hC cls_1 (by decide) rfl z_807 rfl dJx35411_next_0502b_14 (fun v6 => ?_)
  refine r_icmp_lt hC 28 dJx35411_next_0502b_17 (by decide) ?_ ?_
  · refine r_aloadn hC 1 (r := (some a0)) rfl rfl dJx35411_next_0502b_28 ?_
    refine r_gR hC (k := 3) (r := (some a0)) cls_0 (by decide) rfl q_1006 (Or.inl rfl) dJx35411_next_0502b_29 (fun r7 => ?_)
    refine r_gR hC (k := 1) (r := r7) cls_1 (by decide) rfl q_806 (Or.inl rfl) dJx35411_next_0502b_32 (fun r8 => ?_)
    refine r_astoren hC [(2, va_rf r8), (1, .int v4), (0, va_rf (some a0))] (r := r8) (i := 2) rfl (by decide) rfl dJx35411_next_0502b_35 ?_
    refine r_iloadn hC 1 rfl rfl dJx35411_next_0502b_36 ?_
    refine r_aloadn hC 0 (r := r8) rfl rfl dJx35411_next_0502b_37 ?_
    refine r_aLe hC (r := r8) dJx35411_next_0502b_38 (fun v9 => ?_)
    refine r_icmp_lt hC 50 dJx35411_next_0502b_39 (by decide) ?_ ?_
    · refine r_aloadn hC 2 (r := (some a0)) rfl rfl dJx35411_next_0502b_50 ?_
      refine r_iloadn hC 1 rfl rfl dJx35411_next_0502b_51 ?_
      refine r_iconst hC (1) rfl dJx35411_next_0502b_52 ?_
      refine r_iadd hC dJx35411_next_0502b_53 (fun v10 => ?_)
      refine r_pI hC (k := 0) (r := (some a0)) cls_0 (by decide) rfl q_1003 (Or.inl rfl) (Or.inl rfl) dJx35411_next_0502b_54 (fun σ11 => ?_)
      refine r_aloadn hC 0 (r := r8) rfl rfl dJx35411_next_0502b_57 ?_
      refine r_aloadn hC 2 (r := (some a0)) rfl rfl dJx35411_next_0502b_58 ?_
      refine r_iloadn hC 1 rfl rfl dJx35411_next_0502b_59 ?_
      refine r_dup_x1 hC rfl (cat_rf _) dJx35411_next_0502b_60 ?_
      refine r_pI hC (k := 1) (r := (some a0)) cls_0 (by decide) rfl q_1004 (Or.inl rfl) (Or.inl rfl) dJx35411_next_0502b_61 (fun σ12 => ?_)
      refine r_aR hC (t := 6) (r := r8) rfl rfl dJx35411_next_0502b_64 (fun r13 => ?_)
      exact e_R hC (Or.inl ⟨_, rfl⟩) ⟨Nat.zero_le _, Nat.zero_le _⟩ dJx35411_next_0502b_65
    · exact Wo.none
  · exact Wo.none

set_option maxRecDepth 100000 in
set_option maxHeartbeats 4000000 in
theorem ct_Jx35411_next_0502b {l : Launch} (hl : l.stackTraces = false) (G : Glb) (a0 : Nat) (σ : Mem) : Ct rvR l yJx35411_next_0502b (Cond.code yJx35411_next_0502b cJx35411_next_0502b 3 (some (.object "java/lang/Object")) :: uW) { frames := 1, cells := 0, slots := 0, locals := 20 } 0 0 G [.ref a0] σ (f_Jx35411_next_0502b G.2.2.2.1 G.2.2.2.2 a0 σ) := by
  refine Ct.of hl (by decide +kernel) (Nat.le_of_ble_eq_true rfl) (fun C hC hin => ?_)
  have e : lv_args 0 [.ref a0] = [(0, .ref a0)] := rfl
  rw [e]
  exact t_Jx35411_next_0502b_0 hC a0 σ

noncomputable def b_Jx4a65c_toArray_d5877_0 (e0 mi : Nat) (a0 : Nat) (σ : Mem) : Option ((Option Nat) × Mem) :=
gR 1 1 σ (some a0) fun r1 =>
gI 1 2 σ (some a0) fun v2 =>
cl1 (f_J7_copyOf_1904c e0 mi r1 v2 σ) fun r3 σ4 =>
some (r3, σ4)

noncomputable def f_Jx4a65c_toArray_d5877 (e0 mi : Nat) (a0 : Nat) (σ : Mem) : Option ((Option Nat) × Mem) := b_Jx4a65c_toArray_d5877_0 e0 mi a0 σ
set_option maxRecDepth 100000 in
set_option maxHeartbeats 4000000 in
theorem t_Jx4a65c_toArray_d5877_0 {C : Cxt} {G : Glb} (hC : CX C G RJx4a65c cJx4a65c_toArray_d5877 1 (some (.array (.object "java/lang/Object"))) 3 1 22 62) (a0 : Nat) (σ : Mem) (kc ks : Nat) (hN : kc + 1 ≤ 1 ∧ ks + 22 ≤ 22) : Wo C G 1 (QP C G rvR 1 22) (b_Jx4a65c_toArray_d5877_0 G.2.2.2.1 G.2.2.2.2  a0 σ) σ kc ks 0 [(0, va_rf (some a0))] [] := by
  unfold b_Jx4a65c_toArray_d5877_0
  refine r_aloadn hC 0 (r := (some a0)) rfl rfl dJx4a65c_toArray_d5877_0 ?_
  refine r_gR hC (k := 1) (r := (some a0)) cls_1 (by decide) rfl q_805 (Or.inl rfl) dJx4a65c_toArray_d5877_1 (fun r1 => ?_)
  refine r_aloadn hC 0 (r := (some a0)) rfl rfl dJx4a65c_toArray_d5877_4 ?_
  refine r_gI hC (k := 2) (r := (some a0)) cls_1 (by decide) rfl q_808 (Or.inl rfl) dJx4a65c_toArray_d5877_5 (fun v2 => ?_)
  refine call_S hC (av := [va_rf r1, .int v2]) (st := []) (ct_J7_copyOf_1904c hC.hl G r1 v2 σ) q_953 q_954 q_57 q_955 yd_J7_copyOf_1904c rfl ⟨Nat.le_of_ble_eq_true rfl, Nat.le_of_ble_eq_true rfl⟩ ⟨by omega, by omega⟩ rfl (Nat.le_of_ble_eq_true rfl) dJx4a65c_toArray_d5877_8 (fun r3 σ4 => ?_)
  show Wo _ _ _ _ _ _ _ _ _ _ [va_rf r3]
  exact e_R hC (Or.inr ⟨_, rfl⟩) ⟨by omega, by omega⟩ dJx4a65c_toArray_d5877_11

set_option maxRecDepth 100000 in
set_option maxHeartbeats 4000000 in
theorem ct_Jx4a65c_toArray_d5877 {l : Launch} (hl : l.stackTraces = false) (G : Glb) (a0 : Nat) (σ : Mem) : Ct rvR l yJx4a65c_toArray_d5877 (Cond.code yJx4a65c_toArray_d5877 cJx4a65c_toArray_d5877 1 (some (.array (.object "java/lang/Object"))) :: uW) { frames := 3, cells := 1, slots := 22, locals := 62 } 1 22 G [.ref a0] σ (f_Jx4a65c_toArray_d5877 G.2.2.2.1 G.2.2.2.2 a0 σ) := by
  refine Ct.of hl (by decide +kernel) (Nat.le_of_ble_eq_true rfl) (fun C hC hin => ?_)
  have e : lv_args 0 [.ref a0] = [(0, .ref a0)] := rfl
  rw [e]
  exact t_Jx4a65c_toArray_d5877_0 hC a0 σ 0 0 ⟨Nat.le_of_ble_eq_true rfl, Nat.le_of_ble_eq_true rfl⟩

noncomputable def b_Jx4a65c_addAll_f0b43_56 (e0 mi : Nat) (a0 : Nat) (x56_2 : (Option Nat)) (x56_3 : Int32) (x56_4 : (Option Nat)) (x56_5 : Int32) (σ : Mem) : Option ((Int32) × Mem) :=
cpR σ x56_2 0 x56_4 x56_5 x56_3 fun σ12 =>
nm (x56_5 + x56_3) fun v13 =>
pI 1 2 σ12 (some a0) v13 fun σ14 =>
bo 1 (some (1, σ14))

noncomputable def b_Jx4a65c_addAll_f0b43_0 (e0 mi : Nat) (a0 : Nat) (p0 : (Option Nat)) (σ : Mem) : Option ((Int32) × Mem) :=
ob 1 σ p0 fun h3 => cl1 (f_Jx4a65c_toArray_d5877 e0 mi h3 σ) fun r1 σ2 =>
gI 1 0 σ2 (some a0) fun v4 =>
nm (v4 + 1) fun v5 =>
pI 1 0 σ2 (some a0) v5 fun σ6 =>
aLe e0 σ6 r1 fun v7 =>
if v7 = 0 then
bo 0 (some (0, σ6))
else
gR 1 1 σ6 (some a0) fun r8 =>
aLe e0 σ6 r8 fun v9 =>
gI 1 2 σ6 (some a0) fun v10 =>
nm (v9 - v10) fun v11 =>
if v7 ≤ v11 then
b_Jx4a65c_addAll_f0b43_56 e0 mi a0 r1 v7 r8 v10 σ6
else
nm (v10 + v7) fun v15 =>
ob 1 σ6 (some a0) fun h18 => cl1 (f_Jx4a65c_grow_92f84 e0 mi h18 v15 σ6) fun r16 σ17 =>
b_Jx4a65c_addAll_f0b43_56 e0 mi a0 r1 v7 r16 v10 σ17

noncomputable def f_Jx4a65c_addAll_f0b43 (e0 mi : Nat) (a0 : Nat) (p0 : (Option Nat)) (σ : Mem) : Option ((Int32) × Mem) := b_Jx4a65c_addAll_f0b43_0 e0 mi a0 p0 σ
set_option maxRecDepth 100000 in
set_option maxHeartbeats 4000000 in
theorem t_Jx4a65c_addAll_f0b43_56 {C : Cxt} {G : Glb} (hC : CX C G RJx4a65c cJx4a65c_addAll_f0b43 6 (some .boolean) 4 2 44 85) (a0 : Nat) (x56_2 : (Option Nat)) (x56_3 : Int32) (x56_4 : (Option Nat)) (x56_5 : Int32) (σ : Mem) (kc ks : Nat) (hN : kc + 0 ≤ 2 ∧ ks + 0 ≤ 44) : Wo C G 6 (QP C G rvI 2 44) (b_Jx4a65c_addAll_f0b43_56 G.2.2.2.1 G.2.2.2.2  a0 x56_2 x56_3 x56_4 x56_5 σ) σ kc ks 56 [(0, va_rf (some a0)), (2, va_rf x56_2), (3, .int x56_3), (4, va_rf x56_4), (5, .int x56_5)] [] := by
  unfold b_Jx4a65c_addAll_f0b43_56
  refine r_aloadn hC 1 (r := x56_2) rfl rfl dJx4a65c_addAll_f0b43_56 ?_
  refine r_iconst hC (0) rfl dJx4a65c_addAll_f0b43_57 ?_
  refine r_aload hC 3 (r := x56_4) rfl dJx4a65c_addAll_f0b43_58 ?_
  refine r_iload hC 4 rfl dJx4a65c_addAll_f0b43_60 ?_
  refine r_iloadn hC 2 rfl rfl dJx4a65c_addAll_f0b43_62 ?_
  refine r_cpR hC (r := x56_2) (q := x56_4) q_1253 q_983 q_982 q_58 (Nat.le_of_ble_eq_true rfl) (Nat.le_of_ble_eq_true rfl) dJx4a65c_addAll_f0b43_63 (fun σ12 => ?_)
  refine r_aloadn hC 0 (r := (some a0)) rfl rfl dJx4a65c_addAll_f0b43_66 ?_
  refine r_iload hC 4 rfl dJx4a65c_addAll_f0b43_67 ?_
  refine r_iloadn hC 2 rfl rfl dJx4a65c_addAll_f0b43_69 ?_
  refine r_iadd hC dJx4a65c_addAll_f0b43_70 (fun v13 => ?_)
  refine r_pI hC (k := 2) (r := (some a0)) cls_1 (by decide) rfl q_808 (Or.inl rfl) (Or.inl rfl) dJx4a65c_addAll_f0b43_71 (fun σ14 => ?_)
  refine r_iconst hC (1) rfl dJx4a65c_addAll_f0b43_74 ?_
  exact e_B hC ⟨by omega, by omega⟩ dJx4a65c_addAll_f0b43_75

set_option maxRecDepth 100000 in
set_option maxHeartbeats 4000000 in
theorem t_Jx4a65c_addAll_f0b43_0 {C : Cxt} {G : Glb} (hC : CX C G RJx4a65c cJx4a65c_addAll_f0b43 6 (some .boolean) 4 2 44 85) (a0 : Nat) (p0 : (Option Nat)) (σ : Mem) (kc ks : Nat) (hN : kc + 2 ≤ 2 ∧ ks + 44 ≤ 44) : Wo C G 6 (QP C G rvI 2 44) (b_Jx4a65c_addAll_f0b43_0 G.2.2.2.1 G.2.2.2.2  a0 p0 σ) σ kc ks 0 [(0, va_rf (some a0)), (1, va_rf p0)] [] := by
  unfold b_Jx4a65c_addAll_f0b43_0
  refine r_aloadn hC 1 (r := p0) rfl rfl dJx4a65c_addAll_f0b43_0 ?_
  refine call_F hC (av := []) (st := []) (r := p0) (ci := 1) rfl hC.hK.1.2.2.2.1.2.2 (fun h9 => ct_Jx4a65c_toArray_d5877 hC.hl G h9 σ) q_1244 q_1250 q_1248 q_47 q_1252 ydx_toArray rfl ⟨Nat.le_of_ble_eq_true rfl, Nat.le_of_ble_eq_true rfl⟩ ⟨by omega, by omega⟩ rfl (Nat.le_of_ble_eq_true rfl) dJx4a65c_addAll_f0b43_1 (fun r1 σ2 => ?_)
  show Wo _ _ _ _ _ _ _ _ _ _ [va_rf r1]
  refine r_astoren hC [(2, va_rf r1), (0, va_rf (some a0)), (1, va_rf p0)] (r := r1) (i := 2) rfl (by decide) (by simp [List.filter, cat_rf, cat_i, cat_j, cat_d, cat_a]) dJx4a65c_addAll_f0b43_6 ?_
  refine r_aloadn hC 1 (r := (some a0)) rfl rfl dJx4a65c_addAll_f0b43_7 ?_
  refine r_dup hC (cat_rf _) dJx4a65c_addAll_f0b43_8 ?_
  refine r_gI hC (k := 0) (r := (some a0)) cls_1 (by decide) rfl q_812 (Or.inr q_811) dJx4a65c_addAll_f0b43_9 (fun v4 => ?_)
  refine r_iconst hC (1) rfl dJx4a65c_addAll_f0b43_12 ?_
  refine r_iadd hC dJx4a65c_addAll_f0b43_13 (fun v5 => ?_)
  refine r_pI hC (k := 0) (r := (some a0)) cls_1 (by decide) rfl q_812 (Or.inr q_811) (Or.inl rfl) dJx4a65c_addAll_f0b43_14 (fun σ6 => ?_)
  refine r_aloadn hC 0 (r := r1) rfl rfl dJx4a65c_addAll_f0b43_17 ?_
  refine r_aLe hC (r := r1) dJx4a65c_addAll_f0b43_18 (fun v7 => ?_)
  refine r_istoren hC [(3, .int v7), (2, va_rf r1), (0, va_rf (some a0)), (1, va_rf p0)] (i := 3) rfl (by decide) (by simp [List.filter, cat_rf, cat_i, cat_j, cat_d, cat_a]) dJx4a65c_addAll_f0b43_19 ?_
  refine r_iloadn hC 0 rfl rfl dJx4a65c_addAll_f0b43_20 ?_
  refine r_if_ne hC 26 dJx4a65c_addAll_f0b43_21 (by decide) ?_ ?_
  · refine r_iloadn hC 0 rfl rfl dJx4a65c_addAll_f0b43_26 ?_
    refine r_aloadn hC 2 (r := (some a0)) rfl rfl dJx4a65c_addAll_f0b43_27 ?_
    refine r_gR hC (k := 1) (r := (some a0)) cls_1 (by decide) rfl q_805 (Or.inl rfl) dJx4a65c_addAll_f0b43_28 (fun r8 => ?_)
    refine r_dup hC (cat_rf _) dJx4a65c_addAll_f0b43_31 ?_
    refine r_astore hC [(4, va_rf r8), (3, .int v7), (2, va_rf r1), (0, va_rf (some a0)), (1, va_rf p0)] (r := r8) (i := 4) (by decide) rfl dJx4a65c_addAll_f0b43_32 ?_
    refine r_aLe hC (r := r8) dJx4a65c_addAll_f0b43_34 (fun v9 => ?_)
    refine r_aloadn hC 3 (r := (some a0)) rfl rfl dJx4a65c_addAll_f0b43_35 ?_
    refine r_gI hC (k := 2) (r := (some a0)) cls_1 (by decide) rfl q_808 (Or.inl rfl) dJx4a65c_addAll_f0b43_36 (fun v10 => ?_)
    refine r_dup hC rfl dJx4a65c_addAll_f0b43_39 ?_
    refine r_istore hC [(5, .int v10), (4, va_rf r8), (3, .int v7), (2, va_rf r1), (0, va_rf (some a0)), (1, va_rf p0)] (i := 5) (by decide) (by simp [List.filter, cat_rf, cat_i, cat_j, cat_d, cat_a]) dJx4a65c_addAll_f0b43_40 ?_
    refine r_isub hC dJx4a65c_addAll_f0b43_42 (fun v11 => ?_)
    refine r_icmp_le hC 56 dJx4a65c_addAll_f0b43_43 (by decide) ?_ ?_
    · refine Wo.sub [4, 3, 2, 1, 0] rfl ?_
      exact t_Jx4a65c_addAll_f0b43_56 hC a0 r1 v7 r8 v10 σ6 _ _ ⟨by omega, by omega⟩
    · refine r_aloadn hC 4 (r := (some a0)) rfl rfl dJx4a65c_addAll_f0b43_46 ?_
      refine r_iload hC 0 rfl dJx4a65c_addAll_f0b43_47 ?_
      refine r_iloadn hC 2 rfl rfl dJx4a65c_addAll_f0b43_49 ?_
      refine r_iadd hC dJx4a65c_addAll_f0b43_50 (fun v15 => ?_)
      refine call_V hC (av := [.int v15]) (st := []) (r := (some a0)) (ci := 1) rfl rfl (fun h9 => ct_Jx4a65c_grow_92f84 hC.hl G h9 v15 σ6) q_941 q_943 q_16 q_47 q_944 yd_Jx4a65c_grow_92f84 rfl ⟨Nat.le_of_ble_eq_true rfl, Nat.le_of_ble_eq_true rfl⟩ ⟨by omega, by omega⟩ rfl (Nat.le_of_ble_eq_true rfl) dJx4a65c_addAll_f0b43_51 (fun r16 σ17 => ?_)
      show Wo _ _ _ _ _ _ _ _ _ _ [va_rf r16]
      refine r_astore hC [(4, va_rf r16), (5, .int v10), (3, .int v7), (2, va_rf r1), (0, va_rf (some a0)), (1, va_rf p0)] (r := r16) (i := 4) (by decide) rfl dJx4a65c_addAll_f0b43_54 ?_
      refine Wo.sub [4, 3, 2, 0, 1] rfl ?_
      exact t_Jx4a65c_addAll_f0b43_56 hC a0 r1 v7 r16 v10 σ17 _ _ ⟨by omega, by omega⟩
  · refine r_iconst hC (0) rfl dJx4a65c_addAll_f0b43_24 ?_
    exact e_B hC ⟨by omega, by omega⟩ dJx4a65c_addAll_f0b43_25

set_option maxRecDepth 100000 in
set_option maxHeartbeats 4000000 in
theorem ct_Jx4a65c_addAll_f0b43 {l : Launch} (hl : l.stackTraces = false) (G : Glb) (a0 : Nat) (p0 : (Option Nat)) (σ : Mem) : Ct rvI l yJx4a65c_addAll_f0b43 (Cond.code yJx4a65c_addAll_f0b43 cJx4a65c_addAll_f0b43 6 (some .boolean) :: uW) { frames := 4, cells := 2, slots := 44, locals := 85 } 2 44 G [.ref a0, va_rf p0] σ (f_Jx4a65c_addAll_f0b43 G.2.2.2.1 G.2.2.2.2 a0 p0 σ) := by
  refine Ct.of hl (by decide +kernel) (by simp [lg_sl, cat_rf, cat_i, cat_j, cat_d, cat_a]) (fun C hC hin => ?_)
  have e : lv_args 0 [.ref a0, va_rf p0] = [(0, .ref a0), (1, va_rf p0)] := by simp [lv_args, cat_rf, cat_i, cat_j, cat_d, cat_a]
  rw [e]
  exact t_Jx4a65c_addAll_f0b43_0 hC a0 p0 σ 0 0 ⟨Nat.le_of_ble_eq_true rfl, Nat.le_of_ble_eq_true rfl⟩

noncomputable def b_Jx4a65c_fastRemove_b59b0_34 (a0 : Nat) (x34_1 : (Option Nat)) (x34_3 : Int32) (σ : Mem) : Option ((Unit) × Mem) :=
pI 1 2 σ (some a0) x34_3 fun σ6 =>
wR 6 σ6 x34_1 x34_3 none fun σ7 =>
some ((), σ7)

noncomputable def b_Jx4a65c_fastRemove_b59b0_0 (a0 : Nat) (p0 : (Option Nat)) (p1 : Int32) (σ : Mem) : Option ((Unit) × Mem) :=
gI 1 0 σ (some a0) fun v1 =>
nm (v1 + 1) fun v2 =>
pI 1 0 σ (some a0) v2 fun σ3 =>
gI 1 2 σ3 (some a0) fun v4 =>
nm (v4 - 1) fun v5 =>
if v5 ≤ p1 then
b_Jx4a65c_fastRemove_b59b0_34 a0 p0 v5 σ3
else
nm (p1 + 1) fun v8 =>
nm (v5 - p1) fun v9 =>
cpR σ3 p0 v8 p0 p1 v9 fun σ10 =>
b_Jx4a65c_fastRemove_b59b0_34 a0 p0 v5 σ10

noncomputable def f_Jx4a65c_fastRemove_b59b0 (a0 : Nat) (p0 : (Option Nat)) (p1 : Int32) (σ : Mem) : Option ((Unit) × Mem) := b_Jx4a65c_fastRemove_b59b0_0 a0 p0 p1 σ
set_option maxRecDepth 100000 in
set_option maxHeartbeats 4000000 in
theorem t_Jx4a65c_fastRemove_b59b0_34 {C : Cxt} {G : Glb} (hC : CX C G RJx4a65c cJx4a65c_fastRemove_b59b0 4 none 1 0 0 18) (a0 : Nat) (x34_1 : (Option Nat)) (x34_3 : Int32) (σ : Mem) : Wo C G 4 (QP C G rvU 0 0) (b_Jx4a65c_fastRemove_b59b0_34  a0 x34_1 x34_3 σ) σ 0 0 34 [(0, va_rf (some a0)), (1, va_rf x34_1), (3, .int x34_3)] [] := by
  unfold b_Jx4a65c_fastRemove_b59b0_34
  refine r_aloadn hC 1 (r := x34_1) rfl rfl dJx4a65c_fastRemove_b59b0_34 ?_
  refine r_aloadn hC 0 (r := (some a0)) rfl rfl dJx4a65c_fastRemove_b59b0_35 ?_
  refine r_iloadn hC 2 rfl rfl dJx4a65c_fastRemove_b59b0_36 ?_
  refine r_dup_x1 hC rfl (cat_rf _) dJx4a65c_fastRemove_b59b0_37 ?_
  refine r_pI hC (k := 2) (r := (some a0)) cls_1 (by decide) rfl q_808 (Or.inl rfl) (Or.inl rfl) dJx4a65c_fastRemove_b59b0_38 (fun σ6 => ?_)
  refine r_null hC dJx4a65c_fastRemove_b59b0_41 ?_
  refine r_wR hC (t := 6) (r := x34_1) (v := none) rfl rfl dJx4a65c_fastRemove_b59b0_42 (fun σ7 => ?_)
  exact e_U hC ⟨Nat.zero_le _, Nat.zero_le _⟩ dJx4a65c_fastRemove_b59b0_43

set_option maxRecDepth 100000 in
set_option maxHeartbeats 4000000 in
theorem t_Jx4a65c_fastRemove_b59b0_0 {C : Cxt} {G : Glb} (hC : CX C G RJx4a65c cJx4a65c_fastRemove_b59b0 4 none 1 0 0 18) (a0 : Nat) (p0 : (Option Nat)) (p1 : Int32) (σ : Mem) : Wo C G 4 (QP C G rvU 0 0) (b_Jx4a65c_fastRemove_b59b0_0  a0 p0 p1 σ) σ 0 0 0 [(0, va_rf (some a0)), (1, va_rf p0), (2, .int p1)] [] := by
  unfold b_Jx4a65c_fastRemove_b59b0_0
  refine r_aloadn hC 0 (r := (some a0)) rfl rfl dJx4a65c_fastRemove_b59b0_0 ?_
  refine r_dup hC (cat_rf _) dJx4a65c_fastRemove_b59b0_1 ?_
  refine r_gI hC (k := 0) (r := (some a0)) cls_1 (by decide) rfl q_812 (Or.inr q_811) dJx4a65c_fastRemove_b59b0_2 (fun v1 => ?_)
  refine r_iconst hC (1) rfl dJx4a65c_fastRemove_b59b0_5 ?_
  refine r_iadd hC dJx4a65c_fastRemove_b59b0_6 (fun v2 => ?_)
  refine r_pI hC (k := 0) (r := (some a0)) cls_1 (by decide) rfl q_812 (Or.inr q_811) (Or.inl rfl) dJx4a65c_fastRemove_b59b0_7 (fun σ3 => ?_)
  refine r_aloadn hC 0 (r := (some a0)) rfl rfl dJx4a65c_fastRemove_b59b0_10 ?_
  refine r_gI hC (k := 2) (r := (some a0)) cls_1 (by decide) rfl q_808 (Or.inl rfl) dJx4a65c_fastRemove_b59b0_11 (fun v4 => ?_)
  refine r_iconst hC (1) rfl dJx4a65c_fastRemove_b59b0_14 ?_
  refine r_isub hC dJx4a65c_fastRemove_b59b0_15 (fun v5 => ?_)
  refine r_dup hC rfl dJx4a65c_fastRemove_b59b0_16 ?_
  refine r_istoren hC [(3, .int v5), (0, va_rf (some a0)), (1, va_rf p0), (2, .int p1)] (i := 3) rfl (by decide) rfl dJx4a65c_fastRemove_b59b0_17 ?_
  refine r_iloadn hC 3 rfl rfl dJx4a65c_fastRemove_b59b0_18 ?_
  refine r_icmp_le hC 34 dJx4a65c_fastRemove_b59b0_19 (by decide) ?_ ?_
  · refine Wo.sub [1, 2, 0] rfl ?_
    exact t_Jx4a65c_fastRemove_b59b0_34 hC a0 p0 v5 σ3
  · refine r_aloadn hC 2 (r := p0) rfl rfl dJx4a65c_fastRemove_b59b0_22 ?_
    refine r_iloadn hC 3 rfl rfl dJx4a65c_fastRemove_b59b0_23 ?_
    refine r_iconst hC (1) rfl dJx4a65c_fastRemove_b59b0_24 ?_
    refine r_iadd hC dJx4a65c_fastRemove_b59b0_25 (fun v8 => ?_)
    refine r_aloadn hC 2 (r := p0) rfl rfl dJx4a65c_fastRemove_b59b0_26 ?_
    refine r_iloadn hC 3 rfl rfl dJx4a65c_fastRemove_b59b0_27 ?_
    refine r_iloadn hC 0 rfl rfl dJx4a65c_fastRemove_b59b0_28 ?_
    refine r_iloadn hC 3 rfl rfl dJx4a65c_fastRemove_b59b0_29 ?_
    refine r_isub hC dJx4a65c_fastRemove_b59b0_30 (fun v9 => ?_)
    refine r_cpR hC (r := p0) (q := p0) q_1253 q_983 q_982 q_58 (Nat.le_of_ble_eq_true rfl) (Nat.le_of_ble_eq_true rfl) dJx4a65c_fastRemove_b59b0_31 (fun σ10 => ?_)
    refine Wo.sub [1, 2, 0] rfl ?_
    exact t_Jx4a65c_fastRemove_b59b0_34 hC a0 p0 v5 σ10

set_option maxRecDepth 100000 in
set_option maxHeartbeats 4000000 in
theorem ct_Jx4a65c_fastRemove_b59b0 {l : Launch} (hl : l.stackTraces = false) (G : Glb) (a0 : Nat) (p0 : (Option Nat)) (p1 : Int32) (σ : Mem) : Ct rvU l yJx4a65c_fastRemove_b59b0 (Cond.code yJx4a65c_fastRemove_b59b0 cJx4a65c_fastRemove_b59b0 4 none :: uW) { frames := 1, cells := 0, slots := 0, locals := 18 } 0 0 G [.ref a0, va_rf p0, .int p1] σ (f_Jx4a65c_fastRemove_b59b0 a0 p0 p1 σ) := by
  refine Ct.of hl (by decide +kernel) (by simp [lg_sl, cat_rf, cat_i, cat_j, cat_d, cat_a]) (fun C hC hin => ?_)
  have e : lv_args 0 [.ref a0, va_rf p0, .int p1] = [(0, .ref a0), (1, va_rf p0), (2, .int p1)] := by simp [lv_args, cat_rf, cat_i, cat_j, cat_d, cat_a]
  rw [e]
  exact t_Jx4a65c_fastRemove_b59b0_0 hC a0 p0 p1 σ

noncomputable def b_Jx4a65c_remove_915e3_0 (a0 : Nat) (p0 : Int32) (σ : Mem) : Option ((Option Nat) × Mem) :=
gI 1 2 σ (some a0) fun v1 =>
cl1 (f_J15_checkIndex_7cf53 p0 v1 σ) fun v2 σ3 =>
gR 1 1 σ3 (some a0) fun r4 =>
aR 6 σ3 r4 p0 fun r5 =>
ob 1 σ3 (some a0) fun h8 => cl1 (f_Jx4a65c_fastRemove_b59b0 h8 r4 p0 σ3) fun u6 σ7 =>
some (r5, σ7)

noncomputable def f_Jx4a65c_remove_915e3 (a0 : Nat) (p0 : Int32) (σ : Mem) : Option ((Option Nat) × Mem) := b_Jx4a65c_remove_915e3_0 a0 p0 σ
set_option maxRecDepth 100000 in
set_option maxHeartbeats 4000000 in
theorem t_Jx4a65c_remove_915e3_0 {C : Cxt} {G : Glb} (hC : CX C G RJx4a65c cJx4a65c_remove_915e3 4 (some (.object "java/lang/Object")) 2 0 0 43) (a0 : Nat) (p0 : Int32) (σ : Mem) : Wo C G 4 (QP C G rvR 0 0) (b_Jx4a65c_remove_915e3_0  a0 p0 σ) σ 0 0 0 [(0, va_rf (some a0)), (1, .int p0)] [] := by
  unfold b_Jx4a65c_remove_915e3_0
  refine r_iloadn hC 1 rfl rfl dJx4a65c_remove_915e3_0 ?_
  refine r_aloadn hC 0 (r := (some a0)) rfl rfl dJx4a65c_remove_915e3_1 ?_
  refine r_gI hC (k := 2) (r := (some a0)) cls_1 (by decide) rfl q_808 (Or.inl rfl) dJx4a65c_remove_915e3_2 (fun v1 => ?_)
  refine call_S hC (av := [.int p0, .int v1]) (st := []) (ct_J15_checkIndex_7cf53 hC.hl G p0 v1 σ) q_1061 q_1062 q_61 q_1063 yd_J15_checkIndex_7cf53 rfl ⟨Nat.le_of_ble_eq_true rfl, Nat.le_of_ble_eq_true rfl⟩ ⟨Nat.zero_le _, Nat.zero_le _⟩ rfl (Nat.le_of_ble_eq_true rfl) dJx4a65c_remove_915e3_5 (fun v2 σ3 => ?_)
  show Wo _ _ _ _ _ _ _ _ _ _ [.int v2]
  refine r_pop hC rfl dJx4a65c_remove_915e3_8 ?_
  refine r_aloadn hC 0 (r := (some a0)) rfl rfl dJx4a65c_remove_915e3_9 ?_
  refine r_gR hC (k := 1) (r := (some a0)) cls_1 (by decide) rfl q_805 (Or.inl rfl) dJx4a65c_remove_915e3_10 (fun r4 => ?_)
  refine r_astoren hC [(2, va_rf r4), (0, va_rf (some a0)), (1, .int p0)] (r := r4) (i := 2) rfl (by decide) rfl dJx4a65c_remove_915e3_13 ?_
  refine r_aloadn hC 0 (r := r4) rfl rfl dJx4a65c_remove_915e3_14 ?_
  refine r_iloadn hC 2 rfl rfl dJx4a65c_remove_915e3_15 ?_
  refine r_aR hC (t := 6) (r := r4) rfl rfl dJx4a65c_remove_915e3_16 (fun r5 => ?_)
  refine r_astoren hC [(3, va_rf r5), (2, va_rf r4), (0, va_rf (some a0)), (1, .int p0)] (r := r5) (i := 3) rfl (by decide) (by simp [List.filter, cat_rf, cat_i, cat_j, cat_d, cat_a]) dJx4a65c_remove_915e3_17 ?_
  refine r_aloadn hC 2 (r := (some a0)) rfl rfl dJx4a65c_remove_915e3_18 ?_
  refine r_aloadn hC 1 (r := r4) rfl rfl dJx4a65c_remove_915e3_19 ?_
  refine r_iloadn hC 3 rfl rfl dJx4a65c_remove_915e3_20 ?_
  refine call_V hC (av := [va_rf r4, .int p0]) (st := []) (r := (some a0)) (ci := 1) rfl rfl (fun h9 => ct_Jx4a65c_fastRemove_b59b0 hC.hl G h9 r4 p0 σ3) q_1316 q_1318 q_22 q_47 q_1319 yd_Jx4a65c_fastRemove_b59b0 rfl ⟨Nat.le_of_ble_eq_true rfl, Nat.le_of_ble_eq_true rfl⟩ ⟨Nat.zero_le _, Nat.zero_le _⟩ rfl (Nat.le_of_ble_eq_true rfl) dJx4a65c_remove_915e3_21 (fun u6 σ7 => ?_)
  show Wo _ _ _ _ _ _ _ _ _ _ []
  refine r_aloadn hC 0 (r := r5) rfl rfl dJx4a65c_remove_915e3_24 ?_
  exact e_R hC (Or.inl ⟨_, rfl⟩) ⟨Nat.zero_le _, Nat.zero_le _⟩ dJx4a65c_remove_915e3_25

set_option maxRecDepth 100000 in
set_option maxHeartbeats 4000000 in
theorem ct_Jx4a65c_remove_915e3 {l : Launch} (hl : l.stackTraces = false) (G : Glb) (a0 : Nat) (p0 : Int32) (σ : Mem) : Ct rvR l yJx4a65c_remove_915e3 (Cond.code yJx4a65c_remove_915e3 cJx4a65c_remove_915e3 4 (some (.object "java/lang/Object")) :: uW) { frames := 2, cells := 0, slots := 0, locals := 43 } 0 0 G [.ref a0, .int p0] σ (f_Jx4a65c_remove_915e3 a0 p0 σ) := by
  refine Ct.of hl (by decide +kernel) (Nat.le_of_ble_eq_true rfl) (fun C hC hin => ?_)
  have e : lv_args 0 [.ref a0, .int p0] = [(0, .ref a0), (1, .int p0)] := rfl
  rw [e]
  exact t_Jx4a65c_remove_915e3_0 hC a0 p0 σ
