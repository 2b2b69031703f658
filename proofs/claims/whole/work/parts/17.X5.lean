noncomputable def b_X5_init_0 (e0 mi : Nat) (a0 : Nat) (σ : Mem) : Option ((Unit) × Mem) :=
ob 7 σ (some a0) fun _ =>
nA 0 4 σ 4 fun σ1 r2 =>
pR 7 1 σ1 (some a0) r2 fun σ3 =>
pI 7 9 σ3 (some a0) (-1) fun σ4 =>
nO 1 σ4 fun σ5 r6 =>
ob 1 σ5 r6 fun h9 => cl1 (f_Jx4a65c_init_da8c8 e0 mi h9 σ5) fun _ σ8 =>
pR 7 14 σ8 (some a0) r6 fun σ10 =>
some ((), σ10)

noncomputable def f_X5_init (e0 mi : Nat) (a0 : Nat) (σ : Mem) : Option ((Unit) × Mem) := b_X5_init_0 e0 mi a0 σ
set_option maxRecDepth 100000 in
set_option maxHeartbeats 4000000 in
theorem t_X5_init_0 {C : Cxt} {G : Glb} (hC : CX C G RX5 cX5_init 1 none 4 2 7 72) (hin : (cF C).name = "<init>") (a0 : Nat) (σ : Mem) (kc ks : Nat) (hN : kc + 2 ≤ 2 ∧ ks + 7 ≤ 7) : Wo C G 1 (QP C G rvU 2 7) (b_X5_init_0 G.2.2.2.1 G.2.2.2.2  a0 σ) σ kc ks 0 [(0, va_rf (some a0))] [] := by
  unfold b_X5_init_0
  refine r_aloadn hC 0 (r := (some a0)) rfl rfl dX5_init_0 ?_
  refine call_O hC (r := (some a0)) q_1092 q_70 q_71 (Nat.le_of_ble_eq_true rfl) (Nat.le_of_ble_eq_true rfl) dX5_init_1 ?_
  refine r_aloadn hC 0 (r := (some a0)) rfl rfl dX5_init_4 ?_
  refine r_iconst hC (4) rfl dX5_init_5 ?_
  refine r_nA hC (t := 0) (b := 4) (ty := .int) rfl rfl rfl (fun _ h => va_nm_int h) q_102 (Nat.le_of_ble_eq_true rfl) ⟨by omega, by omega⟩ dX5_init_6 (fun σ1 r2 => ?_)
  refine r_pR hC (k := 1) (r := (some a0)) (v := r2) cls_7 (by decide) rfl (Or.inr ⟨_, rfl⟩) q_1097 (Or.inl rfl) (Or.inr ⟨rfl, hin, rfl⟩) dX5_init_8 (fun σ3 => ?_)
  refine r_aloadn hC 0 (r := (some a0)) rfl rfl dX5_init_11 ?_
  refine r_iconst hC (-1) rfl dX5_init_12 ?_
  refine r_pI hC (k := 9) (r := (some a0)) cls_7 (by decide) rfl q_1113 (Or.inl rfl) (Or.inl rfl) dX5_init_13 (fun σ4 => ?_)
  refine r_aloadn hC 0 (r := (some a0)) rfl rfl dX5_init_16 ?_
  refine r_nO hC cls_1 q_1093 q_792 q_47 ⟨by omega, by omega⟩ dX5_init_17 (fun σ5 r6 => ?_)
  refine r_dup hC (cat_rf _) dX5_init_20 ?_
  refine call_I hC (av := []) (st := [va_rf r6, va_rf (some a0)]) (r := r6) (ci := 1) (fun h9 => ct_Jx4a65c_init_da8c8 hC.hl G h9 σ5) q_1094 q_794 q_47 q_795 rfl yd_Jx4a65c_init_da8c8 rfl ⟨Nat.le_of_ble_eq_true rfl, Nat.le_of_ble_eq_true rfl⟩ ⟨by omega, by omega⟩ rfl (by simp [cat_rf, cat_i, cat_j, cat_d, cat_a]) dX5_init_21 (fun σ8 => ?_)
  refine r_pR hC (k := 14) (r := (some a0)) (v := r6) cls_7 (by decide) rfl (Or.inl ⟨_, rfl⟩) q_1123 (Or.inl rfl) (Or.inr ⟨rfl, hin, rfl⟩) dX5_init_24 (fun σ10 => ?_)
  exact e_U hC ⟨by omega, by omega⟩ dX5_init_27

set_option maxRecDepth 100000 in
set_option maxHeartbeats 4000000 in
theorem ct_X5_init {l : Launch} (hl : l.stackTraces = false) (G : Glb) (a0 : Nat) (σ : Mem) : Ct rvU l yX5_init (Cond.code yX5_init cX5_init 1 none :: uW) { frames := 4, cells := 2, slots := 7, locals := 72 } 2 7 G [.ref a0] σ (f_X5_init G.2.2.2.1 G.2.2.2.2 a0 σ) := by
  refine Ct.of hl (by decide +kernel) (Nat.le_of_ble_eq_true rfl) (fun C hC hin => ?_)
  have e : lv_args 0 [.ref a0] = [(0, .ref a0)] := rfl
  rw [e]
  exact t_X5_init_0 hC hin a0 σ 0 0 ⟨Nat.le_of_ble_eq_true rfl, Nat.le_of_ble_eq_true rfl⟩

noncomputable def b_X5_dry_13 (k13 : Int32 → (Option Nat) → Int32 → Int32 → Mem → Option ((Int32) × Mem)) (x13_1 : Int32) (x13_2 : (Option Nat)) (x13_3 : Int32) (x13_4 : Int32) (σ : Mem) : Option ((Int32) × Mem) :=
if x13_3 ≤ x13_4 then
some (x13_1, σ)
else
aI σ x13_2 x13_4 fun v3 =>
nm (x13_1 + v3) fun v4 =>
nm (x13_4 + 1) fun v5 =>
k13 v4 x13_2 x13_3 v5 σ

noncomputable def l_X5_dry_13 (n : Nat) : Int32 → (Option Nat) → Int32 → Int32 → Mem → Option ((Int32) × Mem) := itr (fun _ _ _ _ _ => none) (fun k => b_X5_dry_13  k) n

noncomputable def b_X5_dry_0 (a0 : Nat) (σ : Mem) : Option ((Int32) × Mem) :=
gR 7 1 σ (some a0) fun r1 =>
aL σ r1 fun v2 =>
l_X5_dry_13 40 0 r1 v2 0 σ

noncomputable def f_X5_dry (a0 : Nat) (σ : Mem) : Option ((Int32) × Mem) := b_X5_dry_0 a0 σ
set_option maxRecDepth 100000 in
set_option maxHeartbeats 4000000 in
theorem t_X5_dry_13 {C : Cxt} {G : Glb} (hC : CX C G RX5 cX5_dry 6 (some .int) 0 0 0 0) (k13 : Int32 → (Option Nat) → Int32 → Int32 → Mem → Option ((Int32) × Mem)) (hk13 : ∀ (x13_1 : Int32) (x13_2 : (Option Nat)) (x13_3 : Int32) (x13_4 : Int32) (σ : Mem), Wo C G 6 (QP C G rvI 0 0) (k13 x13_1 x13_2 x13_3 x13_4 σ) σ 0 0 13 [(1, .int x13_1), (2, va_rf x13_2), (3, .int x13_3), (4, .int x13_4)] []) (x13_1 : Int32) (x13_2 : (Option Nat)) (x13_3 : Int32) (x13_4 : Int32) (σ : Mem) : Wo C G 6 (QP C G rvI 0 0) (b_X5_dry_13 k13 x13_1 x13_2 x13_3 x13_4 σ) σ 0 0 13 [(1, .int x13_1), (2, va_rf x13_2), (3, .int x13_3), (4, .int x13_4)] [] := by
  unfold b_X5_dry_13
  refine r_iload hC 3 rfl dX5_dry_13 ?_
  refine r_iloadn hC 2 rfl rfl dX5_dry_15 ?_
  refine r_icmp_ge hC 36 dX5_dry_16 (by decide) ?_ ?_
  · refine r_iloadn hC 0 rfl rfl dX5_dry_36 ?_
    exact e_I hC ⟨Nat.zero_le _, Nat.zero_le _⟩ dX5_dry_37
  · refine r_aloadn hC 1 (r := x13_2) rfl rfl dX5_dry_19 ?_
    refine r_iload hC 3 rfl dX5_dry_20 ?_
    refine r_aI hC (r := x13_2) dX5_dry_22 (fun v3 => ?_)
    refine r_istore hC [(5, .int v3), (1, .int x13_1), (2, va_rf x13_2), (3, .int x13_3), (4, .int x13_4)] (i := 5) (by decide) rfl dX5_dry_23 ?_
    refine r_iloadn hC 1 rfl rfl dX5_dry_25 ?_
    refine r_iload hC 0 rfl dX5_dry_26 ?_
    refine r_iadd hC dX5_dry_28 (fun v4 => ?_)
    refine r_istoren hC [(1, .int v4), (5, .int v3), (2, va_rf x13_2), (3, .int x13_3), (4, .int x13_4)] (i := 1) rfl (by decide) rfl dX5_dry_29 ?_
    refine r_iinc hC 4 (fun w => [(4, .int w), (1, .int v4), (5, .int v3), (2, va_rf x13_2), (3, .int x13_3)]) 1 rfl (by decide) rfl (fun w => rfl) dX5_dry_30 (fun v5 => ?_)
    refine r_goto hC 13 dX5_dry_33 (by decide) ?_
    refine Wo.sub [1, 3, 4, 0] rfl ?_
    exact hk13 v4 x13_2 x13_3 v5 σ

set_option maxRecDepth 100000 in
set_option maxHeartbeats 4000000 in
theorem u_X5_dry_13 {C : Cxt} {G : Glb} (hC : CX C G RX5 cX5_dry 6 (some .int) 0 0 0 0) : ∀ (n : Nat) (x13_1 : Int32) (x13_2 : (Option Nat)) (x13_3 : Int32) (x13_4 : Int32) (σ : Mem), Wo C G 6 (QP C G rvI 0 0) (l_X5_dry_13  n x13_1 x13_2 x13_3 x13_4 σ) σ 0 0 13 [(1, .int x13_1), (2, va_rf x13_2), (3, .int x13_3), (4, .int x13_4)] [] := by
  intro n
  induction n with
  | zero => intro x13_1 x13_2 x13_3 x13_4 σ; exact Wo.none
  | succ n ih => intro x13_1 x13_2 x13_3 x13_4 σ; exact t_X5_dry_13 hC (l_X5_dry_13  n) ih x13_1 x13_2 x13_3 x13_4 σ

set_option maxRecDepth 100000 in
set_option maxHeartbeats 4000000 in
theorem t_X5_dry_0 {C : Cxt} {G : Glb} (hC : CX C G RX5 cX5_dry 6 (some .int) 0 0 0 0) (a0 : Nat) (σ : Mem) : Wo C G 6 (QP C G rvI 0 0) (b_X5_dry_0  a0 σ) σ 0 0 0 [(0, va_rf (some a0))] [] := by
  unfold b_X5_dry_0
  refine r_iconst hC (0) rfl dX5_dry_0 ?_
  refine r_istoren hC [(1, .int 0), (0, va_rf (some a0))] (i := 1) rfl (by decide) rfl dX5_dry_1 ?_
  refine r_aloadn hC 1 (r := (some a0)) rfl rfl dX5_dry_2 ?_
  refine r_gR hC (k := 1) (r := (some a0)) cls_7 (by decide) rfl q_1097 (Or.inl rfl) dX5_dry_3 (fun r1 => ?_)
  refine r_astoren hC [(2, va_rf r1), (1, .int 0), (0, va_rf (some a0))] (r := r1) (i := 2) rfl (by decide) rfl dX5_dry_6 ?_
  refine r_aloadn hC 0 (r := r1) rfl rfl dX5_dry_7 ?_
  refine r_aL hC (r := r1) dX5_dry_8 (fun v2 => ?_)
  refine r_istoren hC [(3, .int v2), (2, va_rf r1), (1, .int 0), (0, va_rf (some a0))] (i := 3) rfl (by decide) (by simp [List.filter, cat_rf, cat_i, cat_j, cat_d, cat_a]) dX5_dry_9 ?_
  refine r_iconst hC (0) rfl dX5_dry_10 ?_
  refine r_istore hC [(4, .int 0), (3, .int v2), (2, va_rf r1), (1, .int 0), (0, va_rf (some a0))] (i := 4) (by decide) rfl dX5_dry_11 ?_
  refine Wo.sub [3, 2, 1, 0] rfl ?_
  exact u_X5_dry_13 hC 40 0 r1 v2 0 σ

set_option maxRecDepth 100000 in
set_option maxHeartbeats 4000000 in
theorem ct_X5_dry {l : Launch} (hl : l.stackTraces = false) (G : Glb) (a0 : Nat) (σ : Mem) : Ct rvI l yX5_dry (Cond.code yX5_dry cX5_dry 6 (some .int) :: uW) { frames := 0, cells := 0, slots := 0, locals := 0 } 0 0 G [.ref a0] σ (f_X5_dry a0 σ) := by
  refine Ct.of hl (by decide +kernel) (Nat.le_of_ble_eq_true rfl) (fun C hC hin => ?_)
  have e : lv_args 0 [.ref a0] = [(0, .ref a0)] := rfl
  rw [e]
  exact t_X5_dry_0 hC a0 σ

noncomputable def b_X5_like_0 (e0 mi : Nat) (a0 : Nat) (σ : Mem) : Option ((Option Nat) × Mem) :=
nO 7 σ fun σ1 r2 =>
ob 7 σ1 r2 fun h5 => cl1 (f_X5_init e0 mi h5 σ1) fun _ σ4 =>
gI 7 0 σ4 (some a0) fun v6 =>
pI 7 0 σ4 r2 v6 fun σ7 =>
gI 7 3 σ7 (some a0) fun v8 =>
pI 7 3 σ7 r2 v8 fun σ9 =>
gI 7 4 σ9 (some a0) fun v10 =>
pI 7 4 σ9 r2 v10 fun σ11 =>
gI 7 5 σ11 (some a0) fun v12 =>
pI 7 5 σ11 r2 v12 fun σ13 =>
gI 7 6 σ13 (some a0) fun v14 =>
pI 7 6 σ13 r2 v14 fun σ15 =>
gI 7 7 σ15 (some a0) fun v16 =>
pI 7 7 σ15 r2 v16 fun σ17 =>
gI 7 8 σ17 (some a0) fun v18 =>
pI 7 8 σ17 r2 v18 fun σ19 =>
gI 7 9 σ19 (some a0) fun v20 =>
pI 7 9 σ19 r2 v20 fun σ21 =>
gI 7 10 σ21 (some a0) fun v22 =>
pB 7 10 σ21 r2 v22 fun σ23 =>
gI 7 11 σ23 (some a0) fun v24 =>
pB 7 11 σ23 r2 v24 fun σ25 =>
some (r2, σ25)

noncomputable def f_X5_like (e0 mi : Nat) (a0 : Nat) (σ : Mem) : Option ((Option Nat) × Mem) := b_X5_like_0 e0 mi a0 σ
set_option maxRecDepth 100000 in
set_option maxHeartbeats 4000000 in
theorem t_X5_like_0 {C : Cxt} {G : Glb} (hC : CX C G RX5 cX5_like 2 (some (.object "FlushGardenModel$Lot")) 5 3 22 92) (a0 : Nat) (σ : Mem) (kc ks : Nat) (hN : kc + 3 ≤ 3 ∧ ks + 22 ≤ 22) : Wo C G 2 (QP C G rvR 3 22) (b_X5_like_0 G.2.2.2.1 G.2.2.2.2  a0 σ) σ kc ks 0 [(0, va_rf (some a0))] [] := by
  unfold b_X5_like_0
  refine r_nO hC cls_7 q_1234 q_1088 q_63 ⟨by omega, by omega⟩ dX5_like_0 (fun σ1 r2 => ?_)
  refine r_dup hC (cat_rf _) dX5_like_3 ?_
  refine call_I hC (av := []) (st := [va_rf r2]) (r := r2) (ci := 7) (fun h9 => ct_X5_init hC.hl G h9 σ1) q_1235 q_1090 q_63 q_1091 rfl yd_X5_init rfl ⟨Nat.le_of_ble_eq_true rfl, Nat.le_of_ble_eq_true rfl⟩ ⟨by omega, by omega⟩ rfl (by simp [cat_rf, cat_i, cat_j, cat_d, cat_a]) dX5_like_4 (fun σ4 => ?_)
  refine r_astoren hC [(1, va_rf r2), (0, va_rf (some a0))] (r := r2) (i := 1) rfl (by decide) rfl dX5_like_7 ?_
  refine r_aloadn hC 0 (r := r2) rfl rfl dX5_like_8 ?_
  refine r_aloadn hC 1 (r := (some a0)) rfl rfl dX5_like_9 ?_
  refine r_gI hC (k := 0) (r := (some a0)) cls_7 (by decide) rfl q_1095 (Or.inl rfl) dX5_like_10 (fun v6 => ?_)
  refine r_pI hC (k := 0) (r := r2) cls_7 (by decide) rfl q_1095 (Or.inl rfl) (Or.inl rfl) dX5_like_13 (fun σ7 => ?_)
  refine r_aloadn hC 0 (r := r2) rfl rfl dX5_like_16 ?_
  refine r_aloadn hC 1 (r := (some a0)) rfl rfl dX5_like_17 ?_
  refine r_gI hC (k := 3) (r := (some a0)) cls_7 (by decide) rfl q_1101 (Or.inl rfl) dX5_like_18 (fun v8 => ?_)
  refine r_pI hC (k := 3) (r := r2) cls_7 (by decide) rfl q_1101 (Or.inl rfl) (Or.inl rfl) dX5_like_21 (fun σ9 => ?_)
  refine r_aloadn hC 0 (r := r2) rfl rfl dX5_like_24 ?_
  refine r_aloadn hC 1 (r := (some a0)) rfl rfl dX5_like_25 ?_
  refine r_gI hC (k := 4) (r := (some a0)) cls_7 (by decide) rfl q_1103 (Or.inl rfl) dX5_like_26 (fun v10 => ?_)
  refine r_pI hC (k := 4) (r := r2) cls_7 (by decide) rfl q_1103 (Or.inl rfl) (Or.inl rfl) dX5_like_29 (fun σ11 => ?_)
  refine r_aloadn hC 0 (r := r2) rfl rfl dX5_like_32 ?_
  refine r_aloadn hC 1 (r := (some a0)) rfl rfl dX5_like_33 ?_
  refine r_gI hC (k := 5) (r := (some a0)) cls_7 (by decide) rfl q_1105 (Or.inl rfl) dX5_like_34 (fun v12 => ?_)
  refine r_pI hC (k := 5) (r := r2) cls_7 (by decide) rfl q_1105 (Or.inl rfl) (Or.inl rfl) dX5_like_37 (fun σ13 => ?_)
  refine r_aloadn hC 0 (r := r2) rfl rfl dX5_like_40 ?_
  refine r_aloadn hC 1 (r := (some a0)) rfl rfl dX5_like_41 ?_
  refine r_gI hC (k := 6) (r := (some a0)) cls_7 (by decide) rfl q_1107 (Or.inl rfl) dX5_like_42 (fun v14 => ?_)
  refine r_pI hC (k := 6) (r := r2) cls_7 (by decide) rfl q_1107 (Or.inl rfl) (Or.inl rfl) dX5_like_45 (fun σ15 => ?_)
  refine r_aloadn hC 0 (r := r2) rfl rfl dX5_like_48 ?_
  refine r_aloadn hC 1 (r := (some a0)) rfl rfl dX5_like_49 ?_
  refine r_gI hC (k := 7) (r := (some a0)) cls_7 (by decide) rfl q_1109 (Or.inl rfl) dX5_like_50 (fun v16 => ?_)
  refine r_pI hC (k := 7) (r := r2) cls_7 (by decide) rfl q_1109 (Or.inl rfl) (Or.inl rfl) dX5_like_53 (fun σ17 => ?_)
  refine r_aloadn hC 0 (r := r2) rfl rfl dX5_like_56 ?_
  refine r_aloadn hC 1 (r := (some a0)) rfl rfl dX5_like_57 ?_
  refine r_gI hC (k := 8) (r := (some a0)) cls_7 (by decide) rfl q_1111 (Or.inl rfl) dX5_like_58 (fun v18 => ?_)
  refine r_pI hC (k := 8) (r := r2) cls_7 (by decide) rfl q_1111 (Or.inl rfl) (Or.inl rfl) dX5_like_61 (fun σ19 => ?_)
  refine r_aloadn hC 0 (r := r2) rfl rfl dX5_like_64 ?_
  refine r_aloadn hC 1 (r := (some a0)) rfl rfl dX5_like_65 ?_
  refine r_gI hC (k := 9) (r := (some a0)) cls_7 (by decide) rfl q_1113 (Or.inl rfl) dX5_like_66 (fun v20 => ?_)
  refine r_pI hC (k := 9) (r := r2) cls_7 (by decide) rfl q_1113 (Or.inl rfl) (Or.inl rfl) dX5_like_69 (fun σ21 => ?_)
  refine r_aloadn hC 0 (r := r2) rfl rfl dX5_like_72 ?_
  refine r_aloadn hC 1 (r := (some a0)) rfl rfl dX5_like_73 ?_
  refine r_gI hC (k := 10) (r := (some a0)) cls_7 (by decide) rfl q_1115 (Or.inl rfl) dX5_like_74 (fun v22 => ?_)
  refine r_pB hC (k := 10) (r := r2) cls_7 (by decide) rfl q_1115 (Or.inl rfl) (Or.inl rfl) dX5_like_77 (fun σ23 => ?_)
  refine r_aloadn hC 0 (r := r2) rfl rfl dX5_like_80 ?_
  refine r_aloadn hC 1 (r := (some a0)) rfl rfl dX5_like_81 ?_
  refine r_gI hC (k := 11) (r := (some a0)) cls_7 (by decide) rfl q_1117 (Or.inl rfl) dX5_like_82 (fun v24 => ?_)
  refine r_pB hC (k := 11) (r := r2) cls_7 (by decide) rfl q_1117 (Or.inl rfl) (Or.inl rfl) dX5_like_85 (fun σ25 => ?_)
  refine r_aloadn hC 0 (r := r2) rfl rfl dX5_like_88 ?_
  exact e_R hC (Or.inl ⟨_, rfl⟩) ⟨by omega, by omega⟩ dX5_like_89

set_option maxRecDepth 100000 in
set_option maxHeartbeats 4000000 in
theorem ct_X5_like {l : Launch} (hl : l.stackTraces = false) (G : Glb) (a0 : Nat) (σ : Mem) : Ct rvR l yX5_like (Cond.code yX5_like cX5_like 2 (some (.object "FlushGardenModel$Lot")) :: uW) { frames := 5, cells := 3, slots := 22, locals := 92 } 3 22 G [.ref a0] σ (f_X5_like G.2.2.2.1 G.2.2.2.2 a0 σ) := by
  refine Ct.of hl (by decide +kernel) (Nat.le_of_ble_eq_true rfl) (fun C hC hin => ?_)
  have e : lv_args 0 [.ref a0] = [(0, .ref a0)] := rfl
  rw [e]
  exact t_X5_like_0 hC a0 σ 0 0 ⟨Nat.le_of_ble_eq_true rfl, Nat.le_of_ble_eq_true rfl⟩

noncomputable def b_X5_copy_0 (e0 mi : Nat) (a0 : Nat) (σ : Mem) : Option ((Option Nat) × Mem) :=
ob 7 σ (some a0) fun h3 => cl1 (f_X5_like e0 mi h3 σ) fun r1 σ2 =>
gI 7 2 σ2 (some a0) fun v4 =>
pI 7 2 σ2 r1 v4 fun σ5 =>
gR 7 1 σ5 (some a0) fun r6 =>
gR 7 1 σ5 r1 fun r7 =>
cpI σ5 r6 0 r7 0 4 fun σ8 =>
some (r1, σ8)

noncomputable def f_X5_copy (e0 mi : Nat) (a0 : Nat) (σ : Mem) : Option ((Option Nat) × Mem) := b_X5_copy_0 e0 mi a0 σ
set_option maxRecDepth 100000 in
set_option maxHeartbeats 4000000 in
theorem t_X5_copy_0 {C : Cxt} {G : Glb} (hC : CX C G RX5 cX5_copy 2 (some (.object "FlushGardenModel$Lot")) 6 3 22 113) (a0 : Nat) (σ : Mem) (kc ks : Nat) (hN : kc + 3 ≤ 3 ∧ ks + 22 ≤ 22) : Wo C G 2 (QP C G rvR 3 22) (b_X5_copy_0 G.2.2.2.1 G.2.2.2.2  a0 σ) σ kc ks 0 [(0, va_rf (some a0))] [] := by
  unfold b_X5_copy_0
  refine r_aloadn hC 0 (r := (some a0)) rfl rfl dX5_copy_0 ?_
  refine call_V hC (av := []) (st := []) (r := (some a0)) (ci := 7) rfl rfl (fun h9 => ct_X5_like hC.hl G h9 σ) q_1430 q_1231 q_1232 q_63 q_1233 yd_X5_like rfl ⟨Nat.le_of_ble_eq_true rfl, Nat.le_of_ble_eq_true rfl⟩ ⟨by omega, by omega⟩ rfl (Nat.le_of_ble_eq_true rfl) dX5_copy_1 (fun r1 σ2 => ?_)
  show Wo _ _ _ _ _ _ _ _ _ _ [va_rf r1]
  refine r_astoren hC [(1, va_rf r1), (0, va_rf (some a0))] (r := r1) (i := 1) rfl (by decide) rfl dX5_copy_4 ?_
  refine r_aloadn hC 0 (r := r1) rfl rfl dX5_copy_5 ?_
  refine r_aloadn hC 1 (r := (some a0)) rfl rfl dX5_copy_6 ?_
  refine r_gI hC (k := 2) (r := (some a0)) cls_7 (by decide) rfl q_1099 (Or.inl rfl) dX5_copy_7 (fun v4 => ?_)
  refine r_pI hC (k := 2) (r := r1) cls_7 (by decide) rfl q_1099 (Or.inl rfl) (Or.inl rfl) dX5_copy_10 (fun σ5 => ?_)
  refine r_aloadn hC 1 (r := (some a0)) rfl rfl dX5_copy_13 ?_
  refine r_gR hC (k := 1) (r := (some a0)) cls_7 (by decide) rfl q_1097 (Or.inl rfl) dX5_copy_14 (fun r6 => ?_)
  refine r_iconst hC (0) rfl dX5_copy_17 ?_
  refine r_aloadn hC 0 (r := r1) rfl rfl dX5_copy_18 ?_
  refine r_gR hC (k := 1) (r := r1) cls_7 (by decide) rfl q_1097 (Or.inl rfl) dX5_copy_19 (fun r7 => ?_)
  refine r_iconst hC (0) rfl dX5_copy_22 ?_
  refine r_iconst hC (4) rfl dX5_copy_23 ?_
  refine r_cpI hC (r := r6) (q := r7) q_1431 q_983 q_982 q_58 (Nat.le_of_ble_eq_true rfl) (Nat.le_of_ble_eq_true rfl) dX5_copy_24 (fun σ8 => ?_)
  refine r_aloadn hC 0 (r := r1) rfl rfl dX5_copy_27 ?_
  exact e_R hC (Or.inl ⟨_, rfl⟩) ⟨by omega, by omega⟩ dX5_copy_28

set_option maxRecDepth 100000 in
set_option maxHeartbeats 4000000 in
theorem ct_X5_copy {l : Launch} (hl : l.stackTraces = false) (G : Glb) (a0 : Nat) (σ : Mem) : Ct rvR l yX5_copy (Cond.code yX5_copy cX5_copy 2 (some (.object "FlushGardenModel$Lot")) :: uW) { frames := 6, cells := 3, slots := 22, locals := 113 } 3 22 G [.ref a0] σ (f_X5_copy G.2.2.2.1 G.2.2.2.2 a0 σ) := by
  refine Ct.of hl (by decide +kernel) (Nat.le_of_ble_eq_true rfl) (fun C hC hin => ?_)
  have e : lv_args 0 [.ref a0] = [(0, .ref a0)] := rfl
  rw [e]
  exact t_X5_copy_0 hC a0 σ 0 0 ⟨Nat.le_of_ble_eq_true rfl, Nat.le_of_ble_eq_true rfl⟩

noncomputable def b_X5_go_19 (k19 : Nat → Int32 → Mem → Option ((Unit) × Mem)) (a0 : Nat) (x19_1 : Int32) (σ : Mem) : Option ((Unit) × Mem) :=
if 4 ≤ x19_1 then
some ((), σ)
else
gR 7 1 σ (some a0) fun r7 =>
wI σ r7 x19_1 0 fun σ8 =>
nm (x19_1 + 1) fun v9 =>
k19 a0 v9 σ8

noncomputable def l_X5_go_19 (n : Nat) : Nat → Int32 → Mem → Option ((Unit) × Mem) := itr (fun _ _ _ => none) (fun k => b_X5_go_19  k) n

noncomputable def b_X5_go_0 (a0 : Nat) (σ : Mem) : Option ((Unit) × Mem) :=
pI 7 0 σ (some a0) 3 fun σ1 =>
pI 7 13 σ1 (some a0) 0 fun σ2 =>
gR 7 14 σ2 (some a0) fun r3 =>
ob 1 σ2 r3 fun h6 => cl1 (f_Jx4a65c_clear_da8c8 h6 σ2) fun u4 σ5 =>
l_X5_go_19 40 a0 0 σ5

noncomputable def f_X5_go (a0 : Nat) (σ : Mem) : Option ((Unit) × Mem) := b_X5_go_0 a0 σ
set_option maxRecDepth 100000 in
set_option maxHeartbeats 4000000 in
theorem t_X5_go_19 {C : Cxt} {G : Glb} (hC : CX C G RX5 cX5_go 2 none 1 0 0 23) (k19 : Nat → Int32 → Mem → Option ((Unit) × Mem)) (hk19 : ∀ (a0 : Nat) (x19_1 : Int32) (σ : Mem), Wo C G 2 (QP C G rvU 0 0) (k19 a0 x19_1 σ) σ 0 0 19 [(0, va_rf (some a0)), (1, .int x19_1)] []) (a0 : Nat) (x19_1 : Int32) (σ : Mem) : Wo C G 2 (QP C G rvU 0 0) (b_X5_go_19 k19 a0 x19_1 σ) σ 0 0 19 [(0, va_rf (some a0)), (1, .int x19_1)] [] := by
  unfold b_X5_go_19
  refine r_iloadn hC 1 rfl rfl dX5_go_19 ?_
  refine r_iconst hC (4) rfl dX5_go_20 ?_
  refine r_icmp_ge hC 37 dX5_go_21 (by decide) ?_ ?_
  · exact e_U hC ⟨Nat.zero_le _, Nat.zero_le _⟩ dX5_go_37
  · refine r_aloadn hC 0 (r := (some a0)) rfl rfl dX5_go_24 ?_
    refine r_gR hC (k := 1) (r := (some a0)) cls_7 (by decide) rfl q_1097 (Or.inl rfl) dX5_go_25 (fun r7 => ?_)
    refine r_iloadn hC 1 rfl rfl dX5_go_28 ?_
    refine r_iconst hC (0) rfl dX5_go_29 ?_
    refine r_wI hC (r := r7) dX5_go_30 (fun σ8 => ?_)
    refine r_iinc hC 1 (fun w => [(1, .int w), (0, va_rf (some a0))]) 1 rfl (by decide) rfl (fun w => rfl) dX5_go_31 (fun v9 => ?_)
    refine r_goto hC 19 dX5_go_34 (by decide) ?_
    refine Wo.sub [1, 0] rfl ?_
    exact hk19 a0 v9 σ8

set_option maxRecDepth 100000 in
set_option maxHeartbeats 4000000 in
theorem u_X5_go_19 {C : Cxt} {G : Glb} (hC : CX C G RX5 cX5_go 2 none 1 0 0 23) : ∀ (n : Nat) (a0 : Nat) (x19_1 : Int32) (σ : Mem), Wo C G 2 (QP C G rvU 0 0) (l_X5_go_19  n a0 x19_1 σ) σ 0 0 19 [(0, va_rf (some a0)), (1, .int x19_1)] [] := by
  intro n
  induction n with
  | zero => intro a0 x19_1 σ; exact Wo.none
  | succ n ih => intro a0 x19_1 σ; exact t_X5_go_19 hC (l_X5_go_19  n) ih a0 x19_1 σ

set_option maxRecDepth 100000 in
set_option maxHeartbeats 4000000 in
theorem t_X5_go_0 {C : Cxt} {G : Glb} (hC : CX C G RX5 cX5_go 2 none 1 0 0 23) (a0 : Nat) (σ : Mem) : Wo C G 2 (QP C G rvU 0 0) (b_X5_go_0  a0 σ) σ 0 0 0 [(0, va_rf (some a0))] [] := by
  unfold b_X5_go_0
  refine r_aloadn hC 0 (r := (some a0)) rfl rfl dX5_go_0 ?_
  refine r_iconst hC (3) rfl dX5_go_1 ?_
  refine r_pI hC (k := 0) (r := (some a0)) cls_7 (by decide) rfl q_1095 (Or.inl rfl) (Or.inl rfl) dX5_go_2 (fun σ1 => ?_)
  refine r_aloadn hC 0 (r := (some a0)) rfl rfl dX5_go_5 ?_
  refine r_iconst hC (0) rfl dX5_go_6 ?_
  refine r_pI hC (k := 13) (r := (some a0)) cls_7 (by decide) rfl q_1121 (Or.inl rfl) (Or.inl rfl) dX5_go_7 (fun σ2 => ?_)
  refine r_aloadn hC 0 (r := (some a0)) rfl rfl dX5_go_10 ?_
  refine r_gR hC (k := 14) (r := (some a0)) cls_7 (by decide) rfl q_1123 (Or.inl rfl) dX5_go_11 (fun r3 => ?_)
  refine call_V hC (av := []) (st := []) (r := r3) (ci := 1) rfl rfl (fun h9 => ct_Jx4a65c_clear_da8c8 hC.hl G h9 σ2) q_1173 q_1174 q_1175 q_47 q_1176 yd_Jx4a65c_clear_da8c8 rfl ⟨Nat.le_of_ble_eq_true rfl, Nat.le_of_ble_eq_true rfl⟩ ⟨Nat.zero_le _, Nat.zero_le _⟩ rfl (Nat.le_of_ble_eq_true rfl) dX5_go_14 (fun u4 σ5 => ?_)
  show Wo _ _ _ _ _ _ _ _ _ _ []
  refine r_iconst hC (0) rfl dX5_go_17 ?_
  refine r_istoren hC [(1, .int 0), (0, va_rf (some a0))] (i := 1) rfl (by decide) rfl dX5_go_18 ?_
  refine Wo.sub [1, 0] rfl ?_
  exact u_X5_go_19 hC 40 a0 0 σ5

set_option maxRecDepth 100000 in
set_option maxHeartbeats 4000000 in
theorem ct_X5_go {l : Launch} (hl : l.stackTraces = false) (G : Glb) (a0 : Nat) (σ : Mem) : Ct rvU l yX5_go (Cond.code yX5_go cX5_go 2 none :: uW) { frames := 1, cells := 0, slots := 0, locals := 23 } 0 0 G [.ref a0] σ (f_X5_go a0 σ) := by
  refine Ct.of hl (by decide +kernel) (Nat.le_of_ble_eq_true rfl) (fun C hC hin => ?_)
  have e : lv_args 0 [.ref a0] = [(0, .ref a0)] := rfl
  rw [e]
  exact t_X5_go_0 hC a0 σ

noncomputable def b_X5_isOffered_12 (y12_0 : Int32) (σ : Mem) : Option ((Int32) × Mem) :=
bo y12_0 (some (y12_0, σ))

noncomputable def b_X5_isOffered_0 (a0 : Nat) (σ : Mem) : Option ((Int32) × Mem) :=
gI 7 13 σ (some a0) fun v1 =>
if v1 ≤ 0 then
b_X5_isOffered_12 0 σ
else
b_X5_isOffered_12 1 σ

noncomputable def f_X5_isOffered (a0 : Nat) (σ : Mem) : Option ((Int32) × Mem) := b_X5_isOffered_0 a0 σ
set_option maxRecDepth 100000 in
set_option maxHeartbeats 4000000 in
theorem t_X5_isOffered_12 {C : Cxt} {G : Glb} (hC : CX C G RX5 cX5_isOffered 1 (some .boolean) 0 0 0 0) (y12_0 : Int32) (σ : Mem) : Wo C G 1 (QP C G rvI 0 0) (b_X5_isOffered_12  y12_0 σ) σ 0 0 12 [] [.int y12_0] := by
  unfold b_X5_isOffered_12
  exact e_B hC ⟨Nat.zero_le _, Nat.zero_le _⟩ dX5_isOffered_12

set_option maxRecDepth 100000 in
set_option maxHeartbeats 4000000 in
theorem t_X5_isOffered_0 {C : Cxt} {G : Glb} (hC : CX C G RX5 cX5_isOffered 1 (some .boolean) 0 0 0 0) (a0 : Nat) (σ : Mem) : Wo C G 1 (QP C G rvI 0 0) (b_X5_isOffered_0  a0 σ) σ 0 0 0 [(0, va_rf (some a0))] [] := by
  unfold b_X5_isOffered_0
  refine r_aloadn hC 0 (r := (some a0)) rfl rfl dX5_isOffered_0 ?_
  refine r_gI hC (k := 13) (r := (some a0)) cls_7 (by decide) rfl q_1121 (Or.inl rfl) dX5_isOffered_1 (fun v1 => ?_)
  refine r_if_le hC 11 dX5_isOffered_4 (by decide) ?_ ?_
  · refine r_iconst hC (0) rfl dX5_isOffered_11 ?_
    refine Wo.sub [] rfl ?_
    exact t_X5_isOffered_12 hC 0 σ
  · refine r_iconst hC (1) rfl dX5_isOffered_7 ?_
    refine r_goto hC 12 dX5_isOffered_8 (by decide) ?_
    refine Wo.sub [] rfl ?_
    exact t_X5_isOffered_12 hC 1 σ

set_option maxRecDepth 100000 in
set_option maxHeartbeats 4000000 in
theorem ct_X5_isOffered {l : Launch} (hl : l.stackTraces = false) (G : Glb) (a0 : Nat) (σ : Mem) : Ct rvI l yX5_isOffered (Cond.code yX5_isOffered cX5_isOffered 1 (some .boolean) :: uW) { frames := 0, cells := 0, slots := 0, locals := 0 } 0 0 G [.ref a0] σ (f_X5_isOffered a0 σ) := by
  refine Ct.of hl (by decide +kernel) (Nat.le_of_ble_eq_true rfl) (fun C hC hin => ?_)
  have e : lv_args 0 [.ref a0] = [(0, .ref a0)] := rfl
  rw [e]
  exact t_X5_isOffered_0 hC a0 σ

noncomputable def b_X5_isDryEnough_19 (y19_0 : Int32) (σ : Mem) : Option ((Int32) × Mem) :=
bo y19_0 (some (y19_0, σ))

noncomputable def b_X5_isDryEnough_0 (a0 : Nat) (σ : Mem) : Option ((Int32) × Mem) :=
gI 7 3 σ (some a0) fun v1 =>
nm (20 * v1) fun v2 =>
ob 7 σ (some a0) fun h5 => cl1 (f_X5_dry h5 σ) fun v3 σ4 =>
if v3 < v2 then
b_X5_isDryEnough_19 0 σ4
else
b_X5_isDryEnough_19 1 σ4

noncomputable def f_X5_isDryEnough (a0 : Nat) (σ : Mem) : Option ((Int32) × Mem) := b_X5_isDryEnough_0 a0 σ
set_option maxRecDepth 100000 in
set_option maxHeartbeats 4000000 in
theorem t_X5_isDryEnough_19 {C : Cxt} {G : Glb} (hC : CX C G RX5 cX5_isDryEnough 1 (some .boolean) 1 0 0 25) (y19_0 : Int32) (σ : Mem) : Wo C G 1 (QP C G rvI 0 0) (b_X5_isDryEnough_19  y19_0 σ) σ 0 0 19 [] [.int y19_0] := by
  unfold b_X5_isDryEnough_19
  exact e_B hC ⟨Nat.zero_le _, Nat.zero_le _⟩ dX5_isDryEnough_19

set_option maxRecDepth 100000 in
set_option maxHeartbeats 4000000 in
theorem t_X5_isDryEnough_0 {C : Cxt} {G : Glb} (hC : CX C G RX5 cX5_isDryEnough 1 (some .boolean) 1 0 0 25) (a0 : Nat) (σ : Mem) : Wo C G 1 (QP C G rvI 0 0) (b_X5_isDryEnough_0  a0 σ) σ 0 0 0 [(0, va_rf (some a0))] [] := by
  unfold b_X5_isDryEnough_0
  refine r_bipush hC (20) (by decide) dX5_isDryEnough_0 ?_
  refine r_aloadn hC 0 (r := (some a0)) rfl rfl dX5_isDryEnough_2 ?_
  refine r_gI hC (k := 3) (r := (some a0)) cls_7 (by decide) rfl q_1101 (Or.inl rfl) dX5_isDryEnough_3 (fun v1 => ?_)
  refine r_imul hC dX5_isDryEnough_6 (fun v2 => ?_)
  refine r_aloadn hC 0 (r := (some a0)) rfl rfl dX5_isDryEnough_7 ?_
  refine call_V hC (av := []) (st := [.int v2]) (r := (some a0)) (ci := 7) rfl rfl (fun h9 => ct_X5_dry hC.hl G h9 σ) q_1189 q_1158 q_1159 q_63 q_1160 yd_X5_dry rfl ⟨Nat.le_of_ble_eq_true rfl, Nat.le_of_ble_eq_true rfl⟩ ⟨Nat.zero_le _, Nat.zero_le _⟩ rfl (by simp [cat_rf, cat_i, cat_j, cat_d, cat_a]) dX5_isDryEnough_8 (fun v3 σ4 => ?_)
  show Wo _ _ _ _ _ _ _ _ _ _ [.int v3, .int v2]
  refine r_icmp_gt hC 18 dX5_isDryEnough_11 (by decide) ?_ ?_
  · refine r_iconst hC (0) rfl dX5_isDryEnough_18 ?_
    refine Wo.sub [] rfl ?_
    exact t_X5_isDryEnough_19 hC 0 σ4
  · refine r_iconst hC (1) rfl dX5_isDryEnough_14 ?_
    refine r_goto hC 19 dX5_isDryEnough_15 (by decide) ?_
    refine Wo.sub [] rfl ?_
    exact t_X5_isDryEnough_19 hC 1 σ4

set_option maxRecDepth 100000 in
set_option maxHeartbeats 4000000 in
theorem ct_X5_isDryEnough {l : Launch} (hl : l.stackTraces = false) (G : Glb) (a0 : Nat) (σ : Mem) : Ct rvI l yX5_isDryEnough (Cond.code yX5_isDryEnough cX5_isDryEnough 1 (some .boolean) :: uW) { frames := 1, cells := 0, slots := 0, locals := 25 } 0 0 G [.ref a0] σ (f_X5_isDryEnough a0 σ) := by
  refine Ct.of hl (by decide +kernel) (Nat.le_of_ble_eq_true rfl) (fun C hC hin => ?_)
  have e : lv_args 0 [.ref a0] = [(0, .ref a0)] := rfl
  rw [e]
  exact t_X5_isDryEnough_0 hC a0 σ

noncomputable def b_X5_note_83 (a0 : Nat) (y83_0 : Int32) (y83_1 : Int32) (σ : Mem) : Option ((Int32) × Mem) :=
nm (y83_1 + y83_0) fun v14 =>
gI 7 7 σ (some a0) fun v15 =>
nm (v14 - v15) fun v16 =>
cl1 (f_X8_held v16 σ) fun v17 σ18 =>
some (v17, σ18)

noncomputable def b_X5_note_122 (a0 : Nat) (y122_0 : Int32) (y122_1 : Int32) (σ : Mem) : Option ((Int32) × Mem) :=
nm (y122_1 + y122_0) fun v26 =>
gI 7 8 σ (some a0) fun v27 =>
dv v27 4 fun v28 =>
nm (v26 - v28) fun v29 =>
cl1 (f_X8_held v29 σ) fun v30 σ31 =>
some (v30, σ31)

noncomputable def b_X5_note_173 (y173_0 : Int32) (y173_1 : Int32) (σ : Mem) : Option ((Int32) × Mem) :=
nm (y173_1 - y173_0) fun v43 =>
cl1 (f_X8_held v43 σ) fun v44 σ45 =>
some (v44, σ45)

noncomputable def b_X5_note_0 (a0 : Nat) (p0 : Int32) (σ : Mem) : Option ((Int32) × Mem) :=
gR 7 12 σ (some a0) fun r1 =>
nul r1 (gI 7 2 σ (some a0) fun v2 =>
nm (10 * v2) fun v3 =>
ob 7 σ (some a0) fun h6 => cl1 (f_X5_dry h6 σ) fun v4 σ5 =>
dv v3 v4 fun v7 =>
if p0 = 0 then
gI 7 6 σ5 (some a0) fun v8 =>
dv v8 8 fun v9 =>
gI 7 5 σ5 (some a0) fun v10 =>
dv v10 3 fun v11 =>
nm (v9 + v11) fun v12 =>
gI 7 9 σ5 (some a0) fun v13 =>
if v13 = 2 then
b_X5_note_83 a0 2 v12 σ5
else
b_X5_note_83 a0 0 v12 σ5
else if p0 = 1 then
dv v7 2 fun v19 =>
gI 7 10 σ5 (some a0) fun v20 =>
if v20 = 0 then
gI 7 6 σ5 (some a0) fun v21 =>
nm (v21 - 30) fun v22 =>
nm (if 0 ≤ v22 then v22 else 0 - v22) fun v23 =>
dv v23 8 fun v24 =>
nm (4 - v24) fun v25 =>
b_X5_note_122 a0 v25 v19 σ5
else
b_X5_note_122 a0 3 v19 σ5
else 
gI 7 4 σ5 (some a0) fun v32 =>
nm (if v32 < 12 then v32 else 12) fun v33 =>
dv v33 2 fun v34 =>
dv v7 3 fun v35 =>
nm (v34 + v35) fun v36 =>
gI 7 7 σ5 (some a0) fun v37 =>
nm (v36 - v37) fun v38 =>
gI 7 8 σ5 (some a0) fun v39 =>
dv v39 5 fun v40 =>
nm (v38 - v40) fun v41 =>
gI 7 11 σ5 (some a0) fun v42 =>
if v42 = 0 then
b_X5_note_173 0 v41 σ5
else
b_X5_note_173 5 v41 σ5) (gR 7 12 σ (some a0) fun r46 =>
aI σ r46 p0 fun v47 =>
some (v47, σ))

noncomputable def f_X5_note (a0 : Nat) (p0 : Int32) (σ : Mem) : Option ((Int32) × Mem) := b_X5_note_0 a0 p0 σ
set_option maxRecDepth 100000 in
set_option maxHeartbeats 4000000 in
theorem t_X5_note_83 {C : Cxt} {G : Glb} (hC : CX C G RX5 cX5_note 3 (some .int) 2 0 0 34) (a0 : Nat) (y83_0 : Int32) (y83_1 : Int32) (σ : Mem) : Wo C G 3 (QP C G rvI 0 0) (b_X5_note_83  a0 y83_0 y83_1 σ) σ 0 0 83 [(0, va_rf (some a0))] [.int y83_0, .int y83_1] := by
  unfold b_X5_note_83
  refine r_iadd hC dX5_note_83 (fun v14 => ?_)
  refine r_aloadn hC 0 (r := (some a0)) rfl rfl dX5_note_84 ?_
  refine r_gI hC (k := 7) (r := (some a0)) cls_7 (by decide) rfl q_1109 (Or.inl rfl) dX5_note_85 (fun v15 => ?_)
  refine r_isub hC dX5_note_88 (fun v16 => ?_)
  refine call_SN hC (av := [.int v16]) (st := []) (ct_X8_held hC.hl G v16 σ) z_1266 q_1267 q_44 q_1268 yd_X8_held rfl ⟨Nat.le_of_ble_eq_true rfl, Nat.le_of_ble_eq_true rfl⟩ ⟨Nat.zero_le _, Nat.zero_le _⟩ rfl (Nat.le_of_ble_eq_true rfl) dX5_note_89 (fun v17 σ18 => ?_)
  show Wo _ _ _ _ _ _ _ _ _ _ [.int v17]
  exact e_I hC ⟨Nat.zero_le _, Nat.zero_le _⟩ dX5_note_92

set_option maxRecDepth 100000 in
set_option maxHeartbeats 4000000 in
theorem t_X5_note_122 {C : Cxt} {G : Glb} (hC : CX C G RX5 cX5_note 3 (some .int) 2 0 0 34) (a0 : Nat) (y122_0 : Int32) (y122_1 : Int32) (σ : Mem) : Wo C G 3 (QP C G rvI 0 0) (b_X5_note_122  a0 y122_0 y122_1 σ) σ 0 0 122 [(0, va_rf (some a0))] [.int y122_0, .int y122_1] := by
  unfold b_X5_note_122
  refine r_iadd hC dX5_note_122 (fun v26 => ?_)
  refine r_aloadn hC 0 (r := (some a0)) rfl rfl dX5_note_123 ?_
  refine r_gI hC (k := 8) (r := (some a0)) cls_7 (by decide) rfl q_1111 (Or.inl rfl) dX5_note_124 (fun v27 => ?_)
  refine r_iconst hC (4) rfl dX5_note_127 ?_
  refine r_idiv hC dX5_note_128 (fun v28 => ?_)
  refine r_isub hC dX5_note_129 (fun v29 => ?_)
  refine call_SN hC (av := [.int v29]) (st := []) (ct_X8_held hC.hl G v29 σ) z_1266 q_1267 q_44 q_1268 yd_X8_held rfl ⟨Nat.le_of_ble_eq_true rfl, Nat.le_of_ble_eq_true rfl⟩ ⟨Nat.zero_le _, Nat.zero_le _⟩ rfl (Nat.le_of_ble_eq_true rfl) dX5_note_130 (fun v30 σ31 => ?_)
  show Wo _ _ _ _ _ _ _ _ _ _ [.int v30]
  exact e_I hC ⟨Nat.zero_le _, Nat.zero_le _⟩ dX5_note_133

set_option maxRecDepth 100000 in
set_option maxHeartbeats 4000000 in
theorem t_X5_note_173 {C : Cxt} {G : Glb} (hC : CX C G RX5 cX5_note 3 (some .int) 2 0 0 34) (y173_0 : Int32) (y173_1 : Int32) (σ : Mem) : Wo C G 3 (QP C G rvI 0 0) (b_X5_note_173  y173_0 y173_1 σ) σ 0 0 173 [] [.int y173_0, .int y173_1] := by
  unfold b_X5_note_173
  refine r_isub hC dX5_note_173 (fun v43 => ?_)
  refine call_SN hC (av := [.int v43]) (st := []) (ct_X8_held hC.hl G v43 σ) z_1266 q_1267 q_44 q_1268 yd_X8_held rfl ⟨Nat.le_of_ble_eq_true rfl, Nat.le_of_ble_eq_true rfl⟩ ⟨Nat.zero_le _, Nat.zero_le _⟩ rfl (Nat.le_of_ble_eq_true rfl) dX5_note_174 (fun v44 σ45 => ?_)
  show Wo _ _ _ _ _ _ _ _ _ _ [.int v44]
  exact e_I hC ⟨Nat.zero_le _, Nat.zero_le _⟩ dX5_note_177

set_option maxRecDepth 100000 in
set_option maxHeartbeats 4000000 in
theorem t_X5_note_0 {C : Cxt} {G : Glb} (hC : CX C G RX5 cX5_note 3 (some .int) 2 0 0 34) (a0 : Nat) (p0 : Int32) (σ : Mem) : Wo C G 3 (QP C G rvI 0 0) (b_X5_note_0  a0 p0 σ) σ 0 0 0 [(0, va_rf (some a0)), (1, .int p0)] [] := by
  unfold b_X5_note_0
  refine r_aloadn hC 0 (r := (some a0)) rfl rfl dX5_note_0 ?_
  refine r_gR hC (k := 12) (r := (some a0)) cls_7 (by decide) rfl q_1119 (Or.inl rfl) dX5_note_1 (fun r1 => ?_)
  refine r_ifnull hC 14 dX5_note_4 (by decide) ?_ ?_
  · refine r_bipush hC (10) (by decide) dX5_note_14 ?_
    refine r_aloadn hC 0 (r := (some a0)) rfl rfl dX5_note_16 ?_
    refine r_gI hC (k := 2) (r := (some a0)) cls_7 (by decide) rfl q_1099 (Or.inl rfl) dX5_note_17 (fun v2 => ?_)
    refine r_imul hC dX5_note_20 (fun v3 => ?_)
    refine r_aloadn hC 0 (r := (some a0)) rfl rfl dX5_note_21 ?_
    refine call_V hC (av := []) (st := [.int v3]) (r := (some a0)) (ci := 7) rfl rfl (fun h9 => ct_X5_dry hC.hl G h9 σ) q_1189 q_1158 q_1159 q_63 q_1160 yd_X5_dry rfl ⟨Nat.le_of_ble_eq_true rfl, Nat.le_of_ble_eq_true rfl⟩ ⟨Nat.zero_le _, Nat.zero_le _⟩ rfl (by simp [cat_rf, cat_i, cat_j, cat_d, cat_a]) dX5_note_22 (fun v4 σ5 => ?_)
    show Wo _ _ _ _ _ _ _ _ _ _ [.int v4, .int v3]
    refine r_idiv hC dX5_note_25 (fun v7 => ?_)
    refine r_istoren hC [(2, .int v7), (0, va_rf (some a0)), (1, .int p0)] (i := 2) rfl (by decide) rfl dX5_note_26 ?_
    refine r_iloadn hC 2 rfl rfl dX5_note_27 ?_
    refine Wo.ite (fun h28_0 => ?_) (fun h28_0 => ?_)
    · refine r_look hC 56 (off := 28) dX5_note_28 (by decide) (by rw [h28_0]; decide) (by decide) ?_
      refine r_aloadn hC 1 (r := (some a0)) rfl rfl dX5_note_56 ?_
      refine r_gI hC (k := 6) (r := (some a0)) cls_7 (by decide) rfl q_1107 (Or.inl rfl) dX5_note_57 (fun v8 => ?_)
      refine r_bipush hC (8) (by decide) dX5_note_60 ?_
      refine r_idiv hC dX5_note_62 (fun v9 => ?_)
      refine r_aloadn hC 1 (r := (some a0)) rfl rfl dX5_note_63 ?_
      refine r_gI hC (k := 5) (r := (some a0)) cls_7 (by decide) rfl q_1105 (Or.inl rfl) dX5_note_64 (fun v10 => ?_)
      refine r_iconst hC (3) rfl dX5_note_67 ?_
      refine r_idiv hC dX5_note_68 (fun v11 => ?_)
      refine r_iadd hC dX5_note_69 (fun v12 => ?_)
      refine r_aloadn hC 1 (r := (some a0)) rfl rfl dX5_note_70 ?_
      refine r_gI hC (k := 9) (r := (some a0)) cls_7 (by decide) rfl q_1113 (Or.inl rfl) dX5_note_71 (fun v13 => ?_)
      refine r_iconst hC (2) rfl dX5_note_74 ?_
      refine r_icmp_ne hC 82 dX5_note_75 (by decide) ?_ ?_
      · refine r_iconst hC (0) rfl dX5_note_82 ?_
        refine Wo.sub [1] rfl ?_
        exact t_X5_note_83 hC a0 0 v12 σ5
      · refine r_iconst hC (2) rfl dX5_note_78 ?_
        refine r_goto hC 83 dX5_note_79 (by decide) ?_
        refine Wo.sub [1] rfl ?_
        exact t_X5_note_83 hC a0 2 v12 σ5
    refine Wo.ite (fun h28_1 => ?_) (fun h28_1 => ?_)
    · refine r_look hC 93 (off := 65) dX5_note_28 (by decide) (by rw [h28_1]; decide) (by decide) ?_
      refine r_iloadn hC 0 rfl rfl dX5_note_93 ?_
      refine r_iconst hC (2) rfl dX5_note_94 ?_
      refine r_idiv hC dX5_note_95 (fun v19 => ?_)
      refine r_aloadn hC 1 (r := (some a0)) rfl rfl dX5_note_96 ?_
      refine r_gI hC (k := 10) (r := (some a0)) cls_7 (by decide) rfl q_1115 (Or.inl rfl) dX5_note_97 (fun v20 => ?_)
      refine r_if_eq hC 107 dX5_note_100 (by decide) ?_ ?_
      · refine r_iconst hC (4) rfl dX5_note_107 ?_
        refine r_aloadn hC 1 (r := (some a0)) rfl rfl dX5_note_108 ?_
        refine r_gI hC (k := 6) (r := (some a0)) cls_7 (by decide) rfl q_1107 (Or.inl rfl) dX5_note_109 (fun v21 => ?_)
        refine r_bipush hC (30) (by decide) dX5_note_112 ?_
        refine r_isub hC dX5_note_114 (fun v22 => ?_)
        refine r_abs hC q_1270 q_293 q_56 q_294 (Nat.le_of_ble_eq_true rfl) (by simp [cat_rf, cat_i, cat_j, cat_d, cat_a]) ⟨Nat.zero_le _, Nat.zero_le _⟩ dX5_note_115 (fun v23 => ?_)
        refine r_bipush hC (8) (by decide) dX5_note_118 ?_
        refine r_idiv hC dX5_note_120 (fun v24 => ?_)
        refine r_isub hC dX5_note_121 (fun v25 => ?_)
        refine Wo.sub [1] rfl ?_
        exact t_X5_note_122 hC a0 v25 v19 σ5
      · refine r_iconst hC (3) rfl dX5_note_103 ?_
        refine r_goto hC 122 dX5_note_104 (by decide) ?_
        refine Wo.sub [1] rfl ?_
        exact t_X5_note_122 hC a0 3 v19 σ5
    refine r_look hC 134 (off := 106) dX5_note_28 (by decide) (look_d h28_0 h28_1) (by decide) ?_
    refine r_bipush hC (12) (by decide) dX5_note_134 ?_
    refine r_aloadn hC 1 (r := (some a0)) rfl rfl dX5_note_136 ?_
    refine r_gI hC (k := 4) (r := (some a0)) cls_7 (by decide) rfl q_1103 (Or.inl rfl) dX5_note_137 (fun v32 => ?_)
    refine r_min hC q_1271 q_283 q_56 q_284 (Nat.le_of_ble_eq_true rfl) (Nat.le_of_ble_eq_true rfl) ⟨Nat.zero_le _, Nat.zero_le _⟩ dX5_note_140 (fun v33 => ?_)
    refine r_iconst hC (2) rfl dX5_note_143 ?_
    refine r_idiv hC dX5_note_144 (fun v34 => ?_)
    refine r_iloadn hC 0 rfl rfl dX5_note_145 ?_
    refine r_iconst hC (3) rfl dX5_note_146 ?_
    refine r_idiv hC dX5_note_147 (fun v35 => ?_)
    refine r_iadd hC dX5_note_148 (fun v36 => ?_)
    refine r_aloadn hC 1 (r := (some a0)) rfl rfl dX5_note_149 ?_
    refine r_gI hC (k := 7) (r := (some a0)) cls_7 (by decide) rfl q_1109 (Or.inl rfl) dX5_note_150 (fun v37 => ?_)
    refine r_isub hC dX5_note_153 (fun v38 => ?_)
    refine r_aloadn hC 1 (r := (some a0)) rfl rfl dX5_note_154 ?_
    refine r_gI hC (k := 8) (r := (some a0)) cls_7 (by decide) rfl q_1111 (Or.inl rfl) dX5_note_155 (fun v39 => ?_)
    refine r_iconst hC (5) rfl dX5_note_158 ?_
    refine r_idiv hC dX5_note_159 (fun v40 => ?_)
    refine r_isub hC dX5_note_160 (fun v41 => ?_)
    refine r_aloadn hC 1 (r := (some a0)) rfl rfl dX5_note_161 ?_
    refine r_gI hC (k := 11) (r := (some a0)) cls_7 (by decide) rfl q_1117 (Or.inl rfl) dX5_note_162 (fun v42 => ?_)
    refine r_if_eq hC 172 dX5_note_165 (by decide) ?_ ?_
    · refine r_iconst hC (0) rfl dX5_note_172 ?_
      refine Wo.sub [] rfl ?_
      exact t_X5_note_173 hC 0 v41 σ5
    · refine r_iconst hC (5) rfl dX5_note_168 ?_
      refine r_goto hC 173 dX5_note_169 (by decide) ?_
      refine Wo.sub [] rfl ?_
      exact t_X5_note_173 hC 5 v41 σ5
  · refine r_aloadn hC 0 (r := (some a0)) rfl rfl dX5_note_7 ?_
    refine r_gR hC (k := 12) (r := (some a0)) cls_7 (by decide) rfl q_1119 (Or.inl rfl) dX5_note_8 (fun r46 => ?_)
    refine r_iloadn hC 1 rfl rfl dX5_note_11 ?_
    refine r_aI hC (r := r46) dX5_note_12 (fun v47 => ?_)
    exact e_I hC ⟨Nat.zero_le _, Nat.zero_le _⟩ dX5_note_13

set_option maxRecDepth 100000 in
set_option maxHeartbeats 4000000 in
theorem ct_X5_note {l : Launch} (hl : l.stackTraces = false) (G : Glb) (a0 : Nat) (p0 : Int32) (σ : Mem) : Ct rvI l yX5_note (Cond.code yX5_note cX5_note 3 (some .int) :: uW) { frames := 2, cells := 0, slots := 0, locals := 34 } 0 0 G [.ref a0, .int p0] σ (f_X5_note a0 p0 σ) := by
  refine Ct.of hl (by decide +kernel) (Nat.le_of_ble_eq_true rfl) (fun C hC hin => ?_)
  have e : lv_args 0 [.ref a0, .int p0] = [(0, .ref a0), (1, .int p0)] := rfl
  rw [e]
  exact t_X5_note_0 hC a0 p0 σ

noncomputable def b_X5_sum_0 (a0 : Nat) (σ : Mem) : Option ((Int32) × Mem) :=
ob 7 σ (some a0) fun h3 => cl1 (f_X5_note h3 0 σ) fun v1 σ2 =>
ob 7 σ2 (some a0) fun h6 => cl1 (f_X5_note h6 1 σ2) fun v4 σ5 =>
nm (v1 + v4) fun v7 =>
ob 7 σ5 (some a0) fun h10 => cl1 (f_X5_note h10 2 σ5) fun v8 σ9 =>
nm (v7 + v8) fun v11 =>
some (v11, σ9)

noncomputable def f_X5_sum (a0 : Nat) (σ : Mem) : Option ((Int32) × Mem) := b_X5_sum_0 a0 σ
set_option maxRecDepth 100000 in
set_option maxHeartbeats 4000000 in
theorem t_X5_sum_0 {C : Cxt} {G : Glb} (hC : CX C G RX5 cX5_sum 1 (some .int) 3 0 0 56) (a0 : Nat) (σ : Mem) : Wo C G 1 (QP C G rvI 0 0) (b_X5_sum_0  a0 σ) σ 0 0 0 [(0, va_rf (some a0))] [] := by
  unfold b_X5_sum_0
  refine r_aloadn hC 0 (r := (some a0)) rfl rfl dX5_sum_0 ?_
  refine r_iconst hC (0) rfl dX5_sum_1 ?_
  refine call_V hC (av := [.int 0]) (st := []) (r := (some a0)) (ci := 7) rfl rfl (fun h9 => ct_X5_note hC.hl G h9 0 σ) q_1402 q_1263 q_1264 q_63 q_1265 yd_X5_note rfl ⟨Nat.le_of_ble_eq_true rfl, Nat.le_of_ble_eq_true rfl⟩ ⟨Nat.zero_le _, Nat.zero_le _⟩ rfl (Nat.le_of_ble_eq_true rfl) dX5_sum_2 (fun v1 σ2 => ?_)
  show Wo _ _ _ _ _ _ _ _ _ _ [.int v1]
  refine r_aloadn hC 0 (r := (some a0)) rfl rfl dX5_sum_5 ?_
  refine r_iconst hC (1) rfl dX5_sum_6 ?_
  refine call_V hC (av := [.int 1]) (st := [.int v1]) (r := (some a0)) (ci := 7) rfl rfl (fun h9 => ct_X5_note hC.hl G h9 1 σ2) q_1402 q_1263 q_1264 q_63 q_1265 yd_X5_note rfl ⟨Nat.le_of_ble_eq_true rfl, Nat.le_of_ble_eq_true rfl⟩ ⟨Nat.zero_le _, Nat.zero_le _⟩ rfl (by simp [cat_rf, cat_i, cat_j, cat_d, cat_a]) dX5_sum_7 (fun v4 σ5 => ?_)
  show Wo _ _ _ _ _ _ _ _ _ _ [.int v4, .int v1]
  refine r_iadd hC dX5_sum_10 (fun v7 => ?_)
  refine r_aloadn hC 0 (r := (some a0)) rfl rfl dX5_sum_11 ?_
  refine r_iconst hC (2) rfl dX5_sum_12 ?_
  refine call_V hC (av := [.int 2]) (st := [.int v7]) (r := (some a0)) (ci := 7) rfl rfl (fun h9 => ct_X5_note hC.hl G h9 2 σ5) q_1402 q_1263 q_1264 q_63 q_1265 yd_X5_note rfl ⟨Nat.le_of_ble_eq_true rfl, Nat.le_of_ble_eq_true rfl⟩ ⟨Nat.zero_le _, Nat.zero_le _⟩ rfl (by simp [cat_rf, cat_i, cat_j, cat_d, cat_a]) dX5_sum_13 (fun v8 σ9 => ?_)
  show Wo _ _ _ _ _ _ _ _ _ _ [.int v8, .int v7]
  refine r_iadd hC dX5_sum_16 (fun v11 => ?_)
  exact e_I hC ⟨Nat.zero_le _, Nat.zero_le _⟩ dX5_sum_17

set_option maxRecDepth 100000 in
set_option maxHeartbeats 4000000 in
theorem ct_X5_sum {l : Launch} (hl : l.stackTraces = false) (G : Glb) (a0 : Nat) (σ : Mem) : Ct rvI l yX5_sum (Cond.code yX5_sum cX5_sum 1 (some .int) :: uW) { frames := 3, cells := 0, slots := 0, locals := 56 } 0 0 G [.ref a0] σ (f_X5_sum a0 σ) := by
  refine Ct.of hl (by decide +kernel) (Nat.le_of_ble_eq_true rfl) (fun C hC hin => ?_)
  have e : lv_args 0 [.ref a0] = [(0, .ref a0)] := rfl
  rw [e]
  exact t_X5_sum_0 hC a0 σ

noncomputable def b_X5_wither_0 (a0 : Nat) (p0 : Int32) (σ : Mem) : Option ((Unit) × Mem) :=
ob 7 σ (some a0) fun h3 => cl1 (f_X5_dry h3 σ) fun v1 σ2 =>
gI 7 3 σ2 (some a0) fun v4 =>
gI 7 3 σ2 (some a0) fun v5 =>
nm (v5 * p0) fun v6 =>
nm (v6 + 9) fun v7 =>
dv v7 10 fun v8 =>
nm (v4 - v8) fun v9 =>
nm (if v1 < v9 then v9 else v1) fun v10 =>
pI 7 3 σ2 (some a0) v10 fun σ11 =>
gI 7 4 σ11 (some a0) fun v12 =>
nm (v12 + 1) fun v13 =>
pI 7 4 σ11 (some a0) v13 fun σ14 =>
some ((), σ14)

noncomputable def f_X5_wither (a0 : Nat) (p0 : Int32) (σ : Mem) : Option ((Unit) × Mem) := b_X5_wither_0 a0 p0 σ
set_option maxRecDepth 100000 in
set_option maxHeartbeats 4000000 in
theorem t_X5_wither_0 {C : Cxt} {G : Glb} (hC : CX C G RX5 cX5_wither 2 none 1 0 0 25) (a0 : Nat) (p0 : Int32) (σ : Mem) : Wo C G 2 (QP C G rvU 0 0) (b_X5_wither_0  a0 p0 σ) σ 0 0 0 [(0, va_rf (some a0)), (1, .int p0)] [] := by
  unfold b_X5_wither_0
  refine r_aloadn hC 0 (r := (some a0)) rfl rfl dX5_wither_0 ?_
  refine r_aloadn hC 0 (r := (some a0)) rfl rfl dX5_wither_1 ?_
  refine call_V hC (av := []) (st := [va_rf (some a0)]) (r := (some a0)) (ci := 7) rfl rfl (fun h9 => ct_X5_dry hC.hl G h9 σ) q_1189 q_1158 q_1159 q_63 q_1160 yd_X5_dry rfl ⟨Nat.le_of_ble_eq_true rfl, Nat.le_of_ble_eq_true rfl⟩ ⟨Nat.zero_le _, Nat.zero_le _⟩ rfl (by simp [cat_rf, cat_i, cat_j, cat_d, cat_a]) dX5_wither_2 (fun v1 σ2 => ?_)
  show Wo _ _ _ _ _ _ _ _ _ _ [.int v1, va_rf (some a0)]
  refine r_aloadn hC 0 (r := (some a0)) rfl rfl dX5_wither_5 ?_
  refine r_gI hC (k := 3) (r := (some a0)) cls_7 (by decide) rfl q_1101 (Or.inl rfl) dX5_wither_6 (fun v4 => ?_)
  refine r_aloadn hC 0 (r := (some a0)) rfl rfl dX5_wither_9 ?_
  refine r_gI hC (k := 3) (r := (some a0)) cls_7 (by decide) rfl q_1101 (Or.inl rfl) dX5_wither_10 (fun v5 => ?_)
  refine r_iloadn hC 1 rfl rfl dX5_wither_13 ?_
  refine r_imul hC dX5_wither_14 (fun v6 => ?_)
  refine r_bipush hC (9) (by decide) dX5_wither_15 ?_
  refine r_iadd hC dX5_wither_17 (fun v7 => ?_)
  refine r_bipush hC (10) (by decide) dX5_wither_18 ?_
  refine r_idiv hC dX5_wither_20 (fun v8 => ?_)
  refine r_isub hC dX5_wither_21 (fun v9 => ?_)
  refine r_max hC q_1190 q_286 q_56 q_287 (Nat.le_of_ble_eq_true rfl) (by simp [cat_rf, cat_i, cat_j, cat_d, cat_a]) ⟨Nat.zero_le _, Nat.zero_le _⟩ dX5_wither_22 (fun v10 => ?_)
  refine r_pI hC (k := 3) (r := (some a0)) cls_7 (by decide) rfl q_1101 (Or.inl rfl) (Or.inl rfl) dX5_wither_25 (fun σ11 => ?_)
  refine r_aloadn hC 0 (r := (some a0)) rfl rfl dX5_wither_28 ?_
  refine r_dup hC (cat_rf _) dX5_wither_29 ?_
  refine r_gI hC (k := 4) (r := (some a0)) cls_7 (by decide) rfl q_1103 (Or.inl rfl) dX5_wither_30 (fun v12 => ?_)
  refine r_iconst hC (1) rfl dX5_wither_33 ?_
  refine r_iadd hC dX5_wither_34 (fun v13 => ?_)
  refine r_pI hC (k := 4) (r := (some a0)) cls_7 (by decide) rfl q_1103 (Or.inl rfl) (Or.inl rfl) dX5_wither_35 (fun σ14 => ?_)
  exact e_U hC ⟨Nat.zero_le _, Nat.zero_le _⟩ dX5_wither_38

set_option maxRecDepth 100000 in
set_option maxHeartbeats 4000000 in
theorem ct_X5_wither {l : Launch} (hl : l.stackTraces = false) (G : Glb) (a0 : Nat) (p0 : Int32) (σ : Mem) : Ct rvU l yX5_wither (Cond.code yX5_wither cX5_wither 2 none :: uW) { frames := 1, cells := 0, slots := 0, locals := 25 } 0 0 G [.ref a0, .int p0] σ (f_X5_wither a0 p0 σ) := by
  refine Ct.of hl (by decide +kernel) (Nat.le_of_ble_eq_true rfl) (fun C hC hin => ?_)
  have e : lv_args 0 [.ref a0, .int p0] = [(0, .ref a0), (1, .int p0)] := rfl
  rw [e]
  exact t_X5_wither_0 hC a0 p0 σ

noncomputable def b_X5_fire_52 (a0 : Nat) (x52_1 : Int32) (x52_2 : Int32) (σ : Mem) : Option ((Unit) × Mem) :=
gI 7 3 σ (some a0) fun v6 =>
nm (v6 - x52_1) fun v7 =>
dv x52_2 20 fun v8 =>
nm (v7 - v8) fun v9 =>
nm (if 0 < v9 then v9 else 0) fun v10 =>
pI 7 3 σ (some a0) v10 fun σ11 =>
some ((), σ11)

noncomputable def b_X5_fire_0 (a0 : Nat) (p0 : Int32) (σ : Mem) : Option ((Unit) × Mem) :=
ob 7 σ (some a0) fun h3 => cl1 (f_X5_dry h3 σ) fun v1 σ2 =>
gI 7 3 σ2 (some a0) fun v4 =>
nm (20 * v4) fun v5 =>
if v1 < v5 then
if p0 < 4 then
b_X5_fire_52 a0 p0 v1 σ2
else
gI 7 3 σ2 (some a0) fun v12 =>
if v12 ≤ v1 then
b_X5_fire_52 a0 p0 v1 σ2
else
gI 7 7 σ2 (some a0) fun v13 =>
nm (v13 + 1) fun v14 =>
pI 7 7 σ2 (some a0) v14 fun σ15 =>
b_X5_fire_52 a0 p0 v1 σ15
else
gI 7 8 σ2 (some a0) fun v16 =>
nm (v16 + p0) fun v17 =>
pI 7 8 σ2 (some a0) v17 fun σ18 =>
b_X5_fire_52 a0 p0 v1 σ18

noncomputable def f_X5_fire (a0 : Nat) (p0 : Int32) (σ : Mem) : Option ((Unit) × Mem) := b_X5_fire_0 a0 p0 σ
set_option maxRecDepth 100000 in
set_option maxHeartbeats 4000000 in
theorem t_X5_fire_52 {C : Cxt} {G : Glb} (hC : CX C G RX5 cX5_fire 3 none 1 0 0 25) (a0 : Nat) (x52_1 : Int32) (x52_2 : Int32) (σ : Mem) : Wo C G 3 (QP C G rvU 0 0) (b_X5_fire_52  a0 x52_1 x52_2 σ) σ 0 0 52 [(0, va_rf (some a0)), (1, .int x52_1), (2, .int x52_2)] [] := by
  unfold b_X5_fire_52
  refine r_aloadn hC 0 (r := (some a0)) rfl rfl dX5_fire_52 ?_
  refine r_iconst hC (0) rfl dX5_fire_53 ?_
  refine r_aloadn hC 0 (r := (some a0)) rfl rfl dX5_fire_54 ?_
  refine r_gI hC (k := 3) (r := (some a0)) cls_7 (by decide) rfl q_1101 (Or.inl rfl) dX5_fire_55 (fun v6 => ?_)
  refine r_iloadn hC 1 rfl rfl dX5_fire_58 ?_
  refine r_isub hC dX5_fire_59 (fun v7 => ?_)
  refine r_iloadn hC 2 rfl rfl dX5_fire_60 ?_
  refine r_bipush hC (20) (by decide) dX5_fire_61 ?_
  refine r_idiv hC dX5_fire_63 (fun v8 => ?_)
  refine r_isub hC dX5_fire_64 (fun v9 => ?_)
  refine r_max hC q_1190 q_286 q_56 q_287 (Nat.le_of_ble_eq_true rfl) (by simp [cat_rf, cat_i, cat_j, cat_d, cat_a]) ⟨Nat.zero_le _, Nat.zero_le _⟩ dX5_fire_65 (fun v10 => ?_)
  refine r_pI hC (k := 3) (r := (some a0)) cls_7 (by decide) rfl q_1101 (Or.inl rfl) (Or.inl rfl) dX5_fire_68 (fun σ11 => ?_)
  exact e_U hC ⟨Nat.zero_le _, Nat.zero_le _⟩ dX5_fire_71

set_option maxRecDepth 100000 in
set_option maxHeartbeats 4000000 in
theorem t_X5_fire_0 {C : Cxt} {G : Glb} (hC : CX C G RX5 cX5_fire 3 none 1 0 0 25) (a0 : Nat) (p0 : Int32) (σ : Mem) : Wo C G 3 (QP C G rvU 0 0) (b_X5_fire_0  a0 p0 σ) σ 0 0 0 [(0, va_rf (some a0)), (1, .int p0)] [] := by
  unfold b_X5_fire_0
  refine r_aloadn hC 0 (r := (some a0)) rfl rfl dX5_fire_0 ?_
  refine call_V hC (av := []) (st := []) (r := (some a0)) (ci := 7) rfl rfl (fun h9 => ct_X5_dry hC.hl G h9 σ) q_1189 q_1158 q_1159 q_63 q_1160 yd_X5_dry rfl ⟨Nat.le_of_ble_eq_true rfl, Nat.le_of_ble_eq_true rfl⟩ ⟨Nat.zero_le _, Nat.zero_le _⟩ rfl (Nat.le_of_ble_eq_true rfl) dX5_fire_1 (fun v1 σ2 => ?_)
  show Wo _ _ _ _ _ _ _ _ _ _ [.int v1]
  refine r_istoren hC [(2, .int v1), (0, va_rf (some a0)), (1, .int p0)] (i := 2) rfl (by decide) rfl dX5_fire_4 ?_
  refine r_bipush hC (20) (by decide) dX5_fire_5 ?_
  refine r_aloadn hC 1 (r := (some a0)) rfl rfl dX5_fire_7 ?_
  refine r_gI hC (k := 3) (r := (some a0)) cls_7 (by decide) rfl q_1101 (Or.inl rfl) dX5_fire_8 (fun v4 => ?_)
  refine r_imul hC dX5_fire_11 (fun v5 => ?_)
  refine r_iloadn hC 0 rfl rfl dX5_fire_12 ?_
  refine r_icmp_gt hC 29 dX5_fire_13 (by decide) ?_ ?_
  · refine r_iloadn hC 2 rfl rfl dX5_fire_29 ?_
    refine r_iconst hC (4) rfl dX5_fire_30 ?_
    refine r_icmp_lt hC 52 dX5_fire_31 (by decide) ?_ ?_
    · refine Wo.sub [1, 2, 0] rfl ?_
      exact t_X5_fire_52 hC a0 p0 v1 σ2
    · refine r_aloadn hC 1 (r := (some a0)) rfl rfl dX5_fire_34 ?_
      refine r_gI hC (k := 3) (r := (some a0)) cls_7 (by decide) rfl q_1101 (Or.inl rfl) dX5_fire_35 (fun v12 => ?_)
      refine r_iloadn hC 0 rfl rfl dX5_fire_38 ?_
      refine r_icmp_le hC 52 dX5_fire_39 (by decide) ?_ ?_
      · refine Wo.sub [1, 2, 0] rfl ?_
        exact t_X5_fire_52 hC a0 p0 v1 σ2
      · refine r_aloadn hC 1 (r := (some a0)) rfl rfl dX5_fire_42 ?_
        refine r_dup hC (cat_rf _) dX5_fire_43 ?_
        refine r_gI hC (k := 7) (r := (some a0)) cls_7 (by decide) rfl q_1109 (Or.inl rfl) dX5_fire_44 (fun v13 => ?_)
        refine r_iconst hC (1) rfl dX5_fire_47 ?_
        refine r_iadd hC dX5_fire_48 (fun v14 => ?_)
        refine r_pI hC (k := 7) (r := (some a0)) cls_7 (by decide) rfl q_1109 (Or.inl rfl) (Or.inl rfl) dX5_fire_49 (fun σ15 => ?_)
        refine Wo.sub [1, 2, 0] rfl ?_
        exact t_X5_fire_52 hC a0 p0 v1 σ15
  · refine r_aloadn hC 1 (r := (some a0)) rfl rfl dX5_fire_16 ?_
    refine r_dup hC (cat_rf _) dX5_fire_17 ?_
    refine r_gI hC (k := 8) (r := (some a0)) cls_7 (by decide) rfl q_1111 (Or.inl rfl) dX5_fire_18 (fun v16 => ?_)
    refine r_iloadn hC 2 rfl rfl dX5_fire_21 ?_
    refine r_iadd hC dX5_fire_22 (fun v17 => ?_)
    refine r_pI hC (k := 8) (r := (some a0)) cls_7 (by decide) rfl q_1111 (Or.inl rfl) (Or.inl rfl) dX5_fire_23 (fun σ18 => ?_)
    refine r_goto hC 52 dX5_fire_26 (by decide) ?_
    refine Wo.sub [1, 2, 0] rfl ?_
    exact t_X5_fire_52 hC a0 p0 v1 σ18

set_option maxRecDepth 100000 in
set_option maxHeartbeats 4000000 in
theorem ct_X5_fire {l : Launch} (hl : l.stackTraces = false) (G : Glb) (a0 : Nat) (p0 : Int32) (σ : Mem) : Ct rvU l yX5_fire (Cond.code yX5_fire cX5_fire 3 none :: uW) { frames := 1, cells := 0, slots := 0, locals := 25 } 0 0 G [.ref a0, .int p0] σ (f_X5_fire a0 p0 σ) := by
  refine Ct.of hl (by decide +kernel) (Nat.le_of_ble_eq_true rfl) (fun C hC hin => ?_)
  have e : lv_args 0 [.ref a0, .int p0] = [(0, .ref a0), (1, .int p0)] := rfl
  rw [e]
  exact t_X5_fire_0 hC a0 p0 σ

noncomputable def b_X5_settle_13 (y13_0 : Int32) (y13_1 : (Option Nat)) (σ : Mem) : Option ((Unit) × Mem) :=
pI 7 0 σ y13_1 y13_0 fun σ4 =>
some ((), σ4)

noncomputable def b_X5_settle_0 (a0 : Nat) (σ : Mem) : Option ((Unit) × Mem) :=
ob 7 σ (some a0) fun h3 => cl1 (f_X5_isDryEnough h3 σ) fun v1 σ2 =>
if v1 = 0 then
b_X5_settle_13 1 (some a0) σ2
else
b_X5_settle_13 2 (some a0) σ2

noncomputable def f_X5_settle (a0 : Nat) (σ : Mem) : Option ((Unit) × Mem) := b_X5_settle_0 a0 σ
set_option maxRecDepth 100000 in
set_option maxHeartbeats 4000000 in
theorem t_X5_settle_13 {C : Cxt} {G : Glb} (hC : CX C G RX5 cX5_settle 1 none 2 0 0 45) (y13_0 : Int32) (y13_1 : (Option Nat)) (σ : Mem) : Wo C G 1 (QP C G rvU 0 0) (b_X5_settle_13  y13_0 y13_1 σ) σ 0 0 13 [] [.int y13_0, va_rf y13_1] := by
  unfold b_X5_settle_13
  refine r_pI hC (k := 0) (r := y13_1) cls_7 (by decide) rfl q_1095 (Or.inl rfl) (Or.inl rfl) dX5_settle_13 (fun σ4 => ?_)
  exact e_U hC ⟨Nat.zero_le _, Nat.zero_le _⟩ dX5_settle_16

set_option maxRecDepth 100000 in
set_option maxHeartbeats 4000000 in
theorem t_X5_settle_0 {C : Cxt} {G : Glb} (hC : CX C G RX5 cX5_settle 1 none 2 0 0 45) (a0 : Nat) (σ : Mem) : Wo C G 1 (QP C G rvU 0 0) (b_X5_settle_0  a0 σ) σ 0 0 0 [(0, va_rf (some a0))] [] := by
  unfold b_X5_settle_0
  refine r_aloadn hC 0 (r := (some a0)) rfl rfl dX5_settle_0 ?_
  refine r_aloadn hC 0 (r := (some a0)) rfl rfl dX5_settle_1 ?_
  refine call_V hC (av := []) (st := [va_rf (some a0)]) (r := (some a0)) (ci := 7) rfl rfl (fun h9 => ct_X5_isDryEnough hC.hl G h9 σ) q_1215 q_1216 q_1217 q_63 q_1218 yd_X5_isDryEnough rfl ⟨Nat.le_of_ble_eq_true rfl, Nat.le_of_ble_eq_true rfl⟩ ⟨Nat.zero_le _, Nat.zero_le _⟩ rfl (by simp [cat_rf, cat_i, cat_j, cat_d, cat_a]) dX5_settle_2 (fun v1 σ2 => ?_)
  show Wo _ _ _ _ _ _ _ _ _ _ [.int v1, va_rf (some a0)]
  refine r_if_eq hC 12 dX5_settle_5 (by decide) ?_ ?_
  · refine r_iconst hC (1) rfl dX5_settle_12 ?_
    refine Wo.sub [] rfl ?_
    exact t_X5_settle_13 hC 1 (some a0) σ2
  · refine r_iconst hC (2) rfl dX5_settle_8 ?_
    refine r_goto hC 13 dX5_settle_9 (by decide) ?_
    refine Wo.sub [] rfl ?_
    exact t_X5_settle_13 hC 2 (some a0) σ2

set_option maxRecDepth 100000 in
set_option maxHeartbeats 4000000 in
theorem ct_X5_settle {l : Launch} (hl : l.stackTraces = false) (G : Glb) (a0 : Nat) (σ : Mem) : Ct rvU l yX5_settle (Cond.code yX5_settle cX5_settle 1 none :: uW) { frames := 2, cells := 0, slots := 0, locals := 45 } 0 0 G [.ref a0] σ (f_X5_settle a0 σ) := by
  refine Ct.of hl (by decide +kernel) (Nat.le_of_ble_eq_true rfl) (fun C hC hin => ?_)
  have e : lv_args 0 [.ref a0] = [(0, .ref a0)] := rfl
  rw [e]
  exact t_X5_settle_0 hC a0 σ
