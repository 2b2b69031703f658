noncomputable def b_X6_init_0 (a0 : Nat) (p0 : Int32) (p1 : Int32) (σ : Mem) : Option ((Unit) × Mem) :=
ob 8 σ (some a0) fun _ =>
nA 0 5 σ 5 fun σ1 r2 =>
pR 8 6 σ1 (some a0) r2 fun σ3 =>
pI 8 0 σ3 (some a0) p0 fun σ4 =>
pI 8 1 σ4 (some a0) p1 fun σ5 =>
some ((), σ5)

noncomputable def f_X6_init (a0 : Nat) (p0 : Int32) (p1 : Int32) (σ : Mem) : Option ((Unit) × Mem) := b_X6_init_0 a0 p0 p1 σ
set_option maxRecDepth 100000 in
set_option maxHeartbeats 4000000 in
theorem t_X6_init_0 {C : Cxt} {G : Glb} (hC : CX C G RX6 cX6_init 3 none 1 1 5 12) (hin : (cF C).name = "<init>") (a0 : Nat) (p0 : Int32) (p1 : Int32) (σ : Mem) (kc ks : Nat) (hN : kc + 1 ≤ 1 ∧ ks + 5 ≤ 5) : Wo C G 3 (QP C G rvU 1 5) (b_X6_init_0  a0 p0 p1 σ) σ kc ks 0 [(0, va_rf (some a0)), (1, .int p0), (2, .int p1)] [] := by
  unfold b_X6_init_0
  refine r_aloadn hC 0 (r := (some a0)) rfl rfl dX6_init_0 ?_
  refine call_O hC (r := (some a0)) q_899 q_70 q_71 (Nat.le_of_ble_eq_true rfl) (Nat.le_of_ble_eq_true rfl) dX6_init_1 ?_
  refine r_aloadn hC 0 (r := (some a0)) rfl rfl dX6_init_4 ?_
  refine r_iconst hC (5) rfl dX6_init_5 ?_
  refine r_nA hC (t := 0) (b := 5) (ty := .int) rfl rfl rfl (fun _ h => va_nm_int h) q_102 (Nat.le_of_ble_eq_true rfl) ⟨by omega, by omega⟩ dX6_init_6 (fun σ1 r2 => ?_)
  refine r_pR hC (k := 6) (r := (some a0)) (v := r2) cls_8 (by decide) rfl (Or.inr ⟨_, rfl⟩) q_912 (Or.inl rfl) (Or.inr ⟨rfl, hin, rfl⟩) dX6_init_8 (fun σ3 => ?_)
  refine r_aloadn hC 0 (r := (some a0)) rfl rfl dX6_init_11 ?_
  refine r_iloadn hC 1 rfl rfl dX6_init_12 ?_
  refine r_pI hC (k := 0) (r := (some a0)) cls_8 (by decide) rfl q_900 (Or.inl rfl) (Or.inr ⟨rfl, hin, rfl⟩) dX6_init_13 (fun σ4 => ?_)
  refine r_aloadn hC 0 (r := (some a0)) rfl rfl dX6_init_16 ?_
  refine r_iloadn hC 2 rfl rfl dX6_init_17 ?_
  refine r_pI hC (k := 1) (r := (some a0)) cls_8 (by decide) rfl q_902 (Or.inl rfl) (Or.inr ⟨rfl, hin, rfl⟩) dX6_init_18 (fun σ5 => ?_)
  exact e_U hC ⟨by omega, by omega⟩ dX6_init_21

set_option maxRecDepth 100000 in
set_option maxHeartbeats 4000000 in
theorem ct_X6_init {l : Launch} (hl : l.stackTraces = false) (G : Glb) (a0 : Nat) (p0 : Int32) (p1 : Int32) (σ : Mem) : Ct rvU l yX6_init (Cond.code yX6_init cX6_init 3 none :: uW) { frames := 1, cells := 1, slots := 5, locals := 12 } 1 5 G [.ref a0, .int p0, .int p1] σ (f_X6_init a0 p0 p1 σ) := by
  refine Ct.of hl (by decide +kernel) (Nat.le_of_ble_eq_true rfl) (fun C hC hin => ?_)
  have e : lv_args 0 [.ref a0, .int p0, .int p1] = [(0, .ref a0), (1, .int p0), (2, .int p1)] := rfl
  rw [e]
  exact t_X6_init_0 hC hin a0 p0 p1 σ 0 0 ⟨Nat.le_of_ble_eq_true rfl, Nat.le_of_ble_eq_true rfl⟩

noncomputable def b_X6_copy_0 (a0 : Nat) (σ : Mem) : Option ((Option Nat) × Mem) :=
nO 8 σ fun σ1 r2 =>
gI 8 0 σ1 (some a0) fun v3 =>
gI 8 1 σ1 (some a0) fun v4 =>
ob 8 σ1 r2 fun h7 => cl1 (f_X6_init h7 v3 v4 σ1) fun _ σ6 =>
gI 8 2 σ6 (some a0) fun v8 =>
pI 8 2 σ6 r2 v8 fun σ9 =>
gI 8 3 σ9 (some a0) fun v10 =>
pI 8 3 σ9 r2 v10 fun σ11 =>
gI 8 4 σ11 (some a0) fun v12 =>
pI 8 4 σ11 r2 v12 fun σ13 =>
gI 8 5 σ13 (some a0) fun v14 =>
pI 8 5 σ13 r2 v14 fun σ15 =>
gR 8 6 σ15 (some a0) fun r16 =>
gR 8 6 σ15 r2 fun r17 =>
gR 8 6 σ15 (some a0) fun r18 =>
aL σ15 r18 fun v19 =>
cpI σ15 r16 0 r17 0 v19 fun σ20 =>
some (r2, σ20)

noncomputable def f_X6_copy (a0 : Nat) (σ : Mem) : Option ((Option Nat) × Mem) := b_X6_copy_0 a0 σ
set_option maxRecDepth 100000 in
set_option maxHeartbeats 4000000 in
theorem t_X6_copy_0 {C : Cxt} {G : Glb} (hC : CX C G RX6 cX6_copy 2 (some (.object "FlushGardenModel$Section")) 2 2 12 34) (a0 : Nat) (σ : Mem) (kc ks : Nat) (hN : kc + 2 ≤ 2 ∧ ks + 12 ≤ 12) : Wo C G 2 (QP C G rvR 2 12) (b_X6_copy_0  a0 σ) σ kc ks 0 [(0, va_rf (some a0))] [] := by
  unfold b_X6_copy_0
  refine r_nO hC cls_8 q_1415 q_895 q_54 ⟨by omega, by omega⟩ dX6_copy_0 (fun σ1 r2 => ?_)
  refine r_dup hC (cat_rf _) dX6_copy_3 ?_
  refine r_aloadn hC 0 (r := (some a0)) rfl rfl dX6_copy_4 ?_
  refine r_gI hC (k := 0) (r := (some a0)) cls_8 (by decide) rfl q_900 (Or.inl rfl) dX6_copy_5 (fun v3 => ?_)
  refine r_aloadn hC 0 (r := (some a0)) rfl rfl dX6_copy_8 ?_
  refine r_gI hC (k := 1) (r := (some a0)) cls_8 (by decide) rfl q_902 (Or.inl rfl) dX6_copy_9 (fun v4 => ?_)
  refine call_I hC (av := [.int v3, .int v4]) (st := [va_rf r2]) (r := r2) (ci := 8) (fun h9 => ct_X6_init hC.hl G h9 v3 v4 σ1) q_1416 q_897 q_54 q_898 rfl yd_X6_init rfl ⟨Nat.le_of_ble_eq_true rfl, Nat.le_of_ble_eq_true rfl⟩ ⟨by omega, by omega⟩ rfl (by simp [cat_rf, cat_i, cat_j, cat_d, cat_a]) dX6_copy_12 (fun σ6 => ?_)
  refine r_astoren hC [(1, va_rf r2), (0, va_rf (some a0))] (r := r2) (i := 1) rfl (by decide) rfl dX6_copy_15 ?_
  refine r_aloadn hC 0 (r := r2) rfl rfl dX6_copy_16 ?_
  refine r_aloadn hC 1 (r := (some a0)) rfl rfl dX6_copy_17 ?_
  refine r_gI hC (k := 2) (r := (some a0)) cls_8 (by decide) rfl q_904 (Or.inl rfl) dX6_copy_18 (fun v8 => ?_)
  refine r_pI hC (k := 2) (r := r2) cls_8 (by decide) rfl q_904 (Or.inl rfl) (Or.inl rfl) dX6_copy_21 (fun σ9 => ?_)
  refine r_aloadn hC 0 (r := r2) rfl rfl dX6_copy_24 ?_
  refine r_aloadn hC 1 (r := (some a0)) rfl rfl dX6_copy_25 ?_
  refine r_gI hC (k := 3) (r := (some a0)) cls_8 (by decide) rfl q_906 (Or.inl rfl) dX6_copy_26 (fun v10 => ?_)
  refine r_pI hC (k := 3) (r := r2) cls_8 (by decide) rfl q_906 (Or.inl rfl) (Or.inl rfl) dX6_copy_29 (fun σ11 => ?_)
  refine r_aloadn hC 0 (r := r2) rfl rfl dX6_copy_32 ?_
  refine r_aloadn hC 1 (r := (some a0)) rfl rfl dX6_copy_33 ?_
  refine r_gI hC (k := 4) (r := (some a0)) cls_8 (by decide) rfl q_908 (Or.inl rfl) dX6_copy_34 (fun v12 => ?_)
  refine r_pI hC (k := 4) (r := r2) cls_8 (by decide) rfl q_908 (Or.inl rfl) (Or.inl rfl) dX6_copy_37 (fun σ13 => ?_)
  refine r_aloadn hC 0 (r := r2) rfl rfl dX6_copy_40 ?_
  refine r_aloadn hC 1 (r := (some a0)) rfl rfl dX6_copy_41 ?_
  refine r_gI hC (k := 5) (r := (some a0)) cls_8 (by decide) rfl q_910 (Or.inl rfl) dX6_copy_42 (fun v14 => ?_)
  refine r_pI hC (k := 5) (r := r2) cls_8 (by decide) rfl q_910 (Or.inl rfl) (Or.inl rfl) dX6_copy_45 (fun σ15 => ?_)
  refine r_aloadn hC 1 (r := (some a0)) rfl rfl dX6_copy_48 ?_
  refine r_gR hC (k := 6) (r := (some a0)) cls_8 (by decide) rfl q_912 (Or.inl rfl) dX6_copy_49 (fun r16 => ?_)
  refine r_iconst hC (0) rfl dX6_copy_52 ?_
  refine r_aloadn hC 0 (r := r2) rfl rfl dX6_copy_53 ?_
  refine r_gR hC (k := 6) (r := r2) cls_8 (by decide) rfl q_912 (Or.inl rfl) dX6_copy_54 (fun r17 => ?_)
  refine r_iconst hC (0) rfl dX6_copy_57 ?_
  refine r_aloadn hC 1 (r := (some a0)) rfl rfl dX6_copy_58 ?_
  refine r_gR hC (k := 6) (r := (some a0)) cls_8 (by decide) rfl q_912 (Or.inl rfl) dX6_copy_59 (fun r18 => ?_)
  refine r_aL hC (r := r18) dX6_copy_62 (fun v19 => ?_)
  refine r_cpI hC (r := r16) (q := r17) q_1417 q_983 q_982 q_58 (Nat.le_of_ble_eq_true rfl) (Nat.le_of_ble_eq_true rfl) dX6_copy_63 (fun σ20 => ?_)
  refine r_aloadn hC 0 (r := r2) rfl rfl dX6_copy_66 ?_
  exact e_R hC (Or.inl ⟨_, rfl⟩) ⟨by omega, by omega⟩ dX6_copy_67

set_option maxRecDepth 100000 in
set_option maxHeartbeats 4000000 in
theorem ct_X6_copy {l : Launch} (hl : l.stackTraces = false) (G : Glb) (a0 : Nat) (σ : Mem) : Ct rvR l yX6_copy (Cond.code yX6_copy cX6_copy 2 (some (.object "FlushGardenModel$Section")) :: uW) { frames := 2, cells := 2, slots := 12, locals := 34 } 2 12 G [.ref a0] σ (f_X6_copy a0 σ) := by
  refine Ct.of hl (by decide +kernel) (Nat.le_of_ble_eq_true rfl) (fun C hC hin => ?_)
  have e : lv_args 0 [.ref a0] = [(0, .ref a0)] := rfl
  rw [e]
  exact t_X6_copy_0 hC a0 σ 0 0 ⟨Nat.le_of_ble_eq_true rfl, Nat.le_of_ble_eq_true rfl⟩

noncomputable def b_X6_flush_77 (y77_0 : Int32) (y77_1 : Int32) (y77_2 : (Option Nat)) (σ : Mem) : Option ((Unit) × Mem) :=
wI σ y77_2 y77_1 y77_0 fun σ14 =>
some ((), σ14)

noncomputable def b_X6_flush_27 (k27 : Nat → Int32 → Mem → Option ((Unit) × Mem)) (a0 : Nat) (x27_1 : Int32) (σ : Mem) : Option ((Unit) × Mem) :=
if x27_1 ≤ 0 then
gR 8 6 σ (some a0) fun r10 =>
gI 8 4 σ (some a0) fun v11 =>
if v11 < 3 then
gI 8 0 σ (some a0) fun v12 =>
nm (2 * v12) fun v13 =>
b_X6_flush_77 v13 0 r10 σ
else
gI 8 0 σ (some a0) fun v15 =>
b_X6_flush_77 v15 0 r10 σ
else
gR 8 6 σ (some a0) fun r16 =>
gR 8 6 σ (some a0) fun r17 =>
nm (x27_1 - 1) fun v18 =>
aI σ r17 v18 fun v19 =>
wI σ r16 x27_1 v19 fun σ20 =>
nm (x27_1 + (-1)) fun v21 =>
k27 a0 v21 σ20

noncomputable def l_X6_flush_27 (n : Nat) : Nat → Int32 → Mem → Option ((Unit) × Mem) := itr (fun _ _ _ => none) (fun k => b_X6_flush_27  k) n

noncomputable def b_X6_flush_0 (a0 : Nat) (σ : Mem) : Option ((Unit) × Mem) :=
gI 8 2 σ (some a0) fun v1 =>
nm (v1 - 5) fun v2 =>
pI 8 2 σ (some a0) v2 fun σ3 =>
gR 8 6 σ3 (some a0) fun r4 =>
aI σ3 r4 4 fun v5 =>
gR 8 6 σ3 (some a0) fun r6 =>
aI σ3 r6 3 fun v7 =>
nm (v5 + v7) fun v8 =>
wI σ3 r4 4 v8 fun σ9 =>
l_X6_flush_27 40 a0 3 σ9

noncomputable def f_X6_flush (a0 : Nat) (σ : Mem) : Option ((Unit) × Mem) := b_X6_flush_0 a0 σ
set_option maxRecDepth 100000 in
set_option maxHeartbeats 4000000 in
theorem t_X6_flush_77 {C : Cxt} {G : Glb} (hC : CX C G RX6 cX6_flush 2 none 0 0 0 0) (y77_0 : Int32) (y77_1 : Int32) (y77_2 : (Option Nat)) (σ : Mem) : Wo C G 2 (QP C G rvU 0 0) (b_X6_flush_77  y77_0 y77_1 y77_2 σ) σ 0 0 77 [] [.int y77_0, .int y77_1, va_rf y77_2] := by
  unfold b_X6_flush_77
  refine r_wI hC (r := y77_2) dX6_flush_77 (fun σ14 => ?_)
  exact e_U hC ⟨Nat.zero_le _, Nat.zero_le _⟩ dX6_flush_78

set_option maxRecDepth 100000 in
set_option maxHeartbeats 4000000 in
theorem t_X6_flush_27 {C : Cxt} {G : Glb} (hC : CX C G RX6 cX6_flush 2 none 0 0 0 0) (k27 : Nat → Int32 → Mem → Option ((Unit) × Mem)) (hk27 : ∀ (a0 : Nat) (x27_1 : Int32) (σ : Mem), Wo C G 2 (QP C G rvU 0 0) (k27 a0 x27_1 σ) σ 0 0 27 [(0, va_rf (some a0)), (1, .int x27_1)] []) (a0 : Nat) (x27_1 : Int32) (σ : Mem) : Wo C G 2 (QP C G rvU 0 0) (b_X6_flush_27 k27 a0 x27_1 σ) σ 0 0 27 [(0, va_rf (some a0)), (1, .int x27_1)] [] := by
  unfold b_X6_flush_27
  refine r_iloadn hC 1 rfl rfl dX6_flush_27 ?_
  refine r_if_le hC 51 dX6_flush_28 (by decide) ?_ ?_
  · refine r_aloadn hC 0 (r := (some a0)) rfl rfl dX6_flush_51 ?_
    refine r_gR hC (k := 6) (r := (some a0)) cls_8 (by decide) rfl q_912 (Or.inl rfl) dX6_flush_52 (fun r10 => ?_)
    refine r_iconst hC (0) rfl dX6_flush_55 ?_
    refine r_aloadn hC 0 (r := (some a0)) rfl rfl dX6_flush_56 ?_
    refine r_gI hC (k := 4) (r := (some a0)) cls_8 (by decide) rfl q_908 (Or.inl rfl) dX6_flush_57 (fun v11 => ?_)
    refine r_iconst hC (3) rfl dX6_flush_60 ?_
    refine r_icmp_lt hC 71 dX6_flush_61 (by decide) ?_ ?_
    · refine r_iconst hC (2) rfl dX6_flush_71 ?_
      refine r_aloadn hC 0 (r := (some a0)) rfl rfl dX6_flush_72 ?_
      refine r_gI hC (k := 0) (r := (some a0)) cls_8 (by decide) rfl q_900 (Or.inl rfl) dX6_flush_73 (fun v12 => ?_)
      refine r_imul hC dX6_flush_76 (fun v13 => ?_)
      refine Wo.sub [] rfl ?_
      exact t_X6_flush_77 hC v13 0 r10 σ
    · refine r_aloadn hC 0 (r := (some a0)) rfl rfl dX6_flush_64 ?_
      refine r_gI hC (k := 0) (r := (some a0)) cls_8 (by decide) rfl q_900 (Or.inl rfl) dX6_flush_65 (fun v15 => ?_)
      refine r_goto hC 77 dX6_flush_68 (by decide) ?_
      refine Wo.sub [] rfl ?_
      exact t_X6_flush_77 hC v15 0 r10 σ
  · refine r_aloadn hC 0 (r := (some a0)) rfl rfl dX6_flush_31 ?_
    refine r_gR hC (k := 6) (r := (some a0)) cls_8 (by decide) rfl q_912 (Or.inl rfl) dX6_flush_32 (fun r16 => ?_)
    refine r_iloadn hC 1 rfl rfl dX6_flush_35 ?_
    refine r_aloadn hC 0 (r := (some a0)) rfl rfl dX6_flush_36 ?_
    refine r_gR hC (k := 6) (r := (some a0)) cls_8 (by decide) rfl q_912 (Or.inl rfl) dX6_flush_37 (fun r17 => ?_)
    refine r_iloadn hC 1 rfl rfl dX6_flush_40 ?_
    refine r_iconst hC (1) rfl dX6_flush_41 ?_
    refine r_isub hC dX6_flush_42 (fun v18 => ?_)
    refine r_aI hC (r := r17) dX6_flush_43 (fun v19 => ?_)
    refine r_wI hC (r := r16) dX6_flush_44 (fun σ20 => ?_)
    refine r_iinc hC 1 (fun w => [(1, .int w), (0, va_rf (some a0))]) (-1) rfl (by decide) rfl (fun w => rfl) dX6_flush_45 (fun v21 => ?_)
    refine r_goto hC 27 dX6_flush_48 (by decide) ?_
    refine Wo.sub [1, 0] rfl ?_
    exact hk27 a0 v21 σ20

set_option maxRecDepth 100000 in
set_option maxHeartbeats 4000000 in
theorem u_X6_flush_27 {C : Cxt} {G : Glb} (hC : CX C G RX6 cX6_flush 2 none 0 0 0 0) : ∀ (n : Nat) (a0 : Nat) (x27_1 : Int32) (σ : Mem), Wo C G 2 (QP C G rvU 0 0) (l_X6_flush_27  n a0 x27_1 σ) σ 0 0 27 [(0, va_rf (some a0)), (1, .int x27_1)] [] := by
  intro n
  induction n with
  | zero => intro a0 x27_1 σ; exact Wo.none
  | succ n ih => intro a0 x27_1 σ; exact t_X6_flush_27 hC (l_X6_flush_27  n) ih a0 x27_1 σ

set_option maxRecDepth 100000 in
set_option maxHeartbeats 4000000 in
theorem t_X6_flush_0 {C : Cxt} {G : Glb} (hC : CX C G RX6 cX6_flush 2 none 0 0 0 0) (a0 : Nat) (σ : Mem) : Wo C G 2 (QP C G rvU 0 0) (b_X6_flush_0  a0 σ) σ 0 0 0 [(0, va_rf (some a0))] [] := by
  unfold b_X6_flush_0
  refine r_aloadn hC 0 (r := (some a0)) rfl rfl dX6_flush_0 ?_
  refine r_dup hC (cat_rf _) dX6_flush_1 ?_
  refine r_gI hC (k := 2) (r := (some a0)) cls_8 (by decide) rfl q_904 (Or.inl rfl) dX6_flush_2 (fun v1 => ?_)
  refine r_iconst hC (5) rfl dX6_flush_5 ?_
  refine r_isub hC dX6_flush_6 (fun v2 => ?_)
  refine r_pI hC (k := 2) (r := (some a0)) cls_8 (by decide) rfl q_904 (Or.inl rfl) (Or.inl rfl) dX6_flush_7 (fun σ3 => ?_)
  refine r_aloadn hC 0 (r := (some a0)) rfl rfl dX6_flush_10 ?_
  refine r_gR hC (k := 6) (r := (some a0)) cls_8 (by decide) rfl q_912 (Or.inl rfl) dX6_flush_11 (fun r4 => ?_)
  refine r_iconst hC (4) rfl dX6_flush_14 ?_
  refine r_dup2 hC rfl (cat_rf _) dX6_flush_15 ?_
  refine r_aI hC (r := r4) dX6_flush_16 (fun v5 => ?_)
  refine r_aloadn hC 0 (r := (some a0)) rfl rfl dX6_flush_17 ?_
  refine r_gR hC (k := 6) (r := (some a0)) cls_8 (by decide) rfl q_912 (Or.inl rfl) dX6_flush_18 (fun r6 => ?_)
  refine r_iconst hC (3) rfl dX6_flush_21 ?_
  refine r_aI hC (r := r6) dX6_flush_22 (fun v7 => ?_)
  refine r_iadd hC dX6_flush_23 (fun v8 => ?_)
  refine r_wI hC (r := r4) dX6_flush_24 (fun σ9 => ?_)
  refine r_iconst hC (3) rfl dX6_flush_25 ?_
  refine r_istoren hC [(1, .int 3), (0, va_rf (some a0))] (i := 1) rfl (by decide) rfl dX6_flush_26 ?_
  refine Wo.sub [1, 0] rfl ?_
  exact u_X6_flush_27 hC 40 a0 3 σ9

set_option maxRecDepth 100000 in
set_option maxHeartbeats 4000000 in
theorem ct_X6_flush {l : Launch} (hl : l.stackTraces = false) (G : Glb) (a0 : Nat) (σ : Mem) : Ct rvU l yX6_flush (Cond.code yX6_flush cX6_flush 2 none :: uW) { frames := 0, cells := 0, slots := 0, locals := 0 } 0 0 G [.ref a0] σ (f_X6_flush a0 σ) := by
  refine Ct.of hl (by decide +kernel) (Nat.le_of_ble_eq_true rfl) (fun C hC hin => ?_)
  have e : lv_args 0 [.ref a0] = [(0, .ref a0)] := rfl
  rw [e]
  exact t_X6_flush_0 hC a0 σ

noncomputable def b_X6_day_96 (k96 : Nat → Int32 → Mem → Option ((Int32) × Mem)) (a0 : Nat) (x96_3 : Int32) (σ : Mem) : Option ((Int32) × Mem) :=
gI 8 2 σ (some a0) fun v17 =>
if v17 < 5 then
some (x96_3, σ)
else
ob 8 σ (some a0) fun h20 => cl1 (f_X6_flush h20 σ) fun u18 σ19 =>
nm (x96_3 + 1) fun v21 =>
k96 a0 v21 σ19

noncomputable def l_X6_day_96 (n : Nat) : Nat → Int32 → Mem → Option ((Int32) × Mem) := itr (fun _ _ _ => none) (fun k => b_X6_day_96  k) n

noncomputable def b_X6_day_66 (a0 : Nat) (x66_1 : Int32) (x66_2 : Int32) (y66_0 : Int32) (y66_1 : (Option Nat)) (σ : Mem) : Option ((Int32) × Mem) :=
pI 8 4 σ y66_1 y66_0 fun σ8 =>
gI 8 2 σ8 (some a0) fun v9 =>
gI 8 1 σ8 (some a0) fun v10 =>
nm (x66_1 - v10) fun v11 =>
nm (if 0 < v11 then v11 else 0) fun v12 =>
nm (if x66_2 < 3 then x66_2 else 3) fun v13 =>
nm (v12 + v13) fun v14 =>
nm (v9 + v14) fun v15 =>
pI 8 2 σ8 (some a0) v15 fun σ16 =>
l_X6_day_96 40 a0 0 σ16

noncomputable def b_X6_day_17 (a0 : Nat) (x17_1 : Int32) (x17_2 : Int32) (σ : Mem) : Option ((Int32) × Mem) :=
gI 8 3 σ (some a0) fun v2 =>
if v2 ≤ 0 then
gI 8 1 σ (some a0) fun v3 =>
nm (x17_2 + v3) fun v4 =>
if v4 < 5 then
gI 8 4 σ (some a0) fun v5 =>
nm (v5 - 1) fun v6 =>
nm (if 0 < v6 then v6 else 0) fun v7 =>
b_X6_day_66 a0 x17_1 x17_2 v7 (some a0) σ
else
gI 8 4 σ (some a0) fun v22 =>
nm (v22 + 1) fun v23 =>
b_X6_day_66 a0 x17_1 x17_2 v23 (some a0) σ
else
gI 8 3 σ (some a0) fun v24 =>
nm (v24 - 1) fun v25 =>
pI 8 3 σ (some a0) v25 fun σ26 =>
some (0, σ26)

noncomputable def b_X6_day_0 (a0 : Nat) (p0 : Int32) (p1 : Int32) (σ : Mem) : Option ((Int32) × Mem) :=
gI 8 5 σ (some a0) fun v1 =>
if v1 ≤ 0 then
b_X6_day_17 a0 p0 p1 σ
else
gI 8 5 σ (some a0) fun v27 =>
nm (v27 - 1) fun v28 =>
pI 8 5 σ (some a0) v28 fun σ29 =>
b_X6_day_17 a0 p0 p1 σ29

noncomputable def f_X6_day (a0 : Nat) (p0 : Int32) (p1 : Int32) (σ : Mem) : Option ((Int32) × Mem) := b_X6_day_0 a0 p0 p1 σ
set_option maxRecDepth 100000 in
set_option maxHeartbeats 4000000 in
theorem t_X6_day_96 {C : Cxt} {G : Glb} (hC : CX C G RX6 cX6_day 4 (some .int) 1 0 0 21) (k96 : Nat → Int32 → Mem → Option ((Int32) × Mem)) (hk96 : ∀ (a0 : Nat) (x96_3 : Int32) (σ : Mem), Wo C G 4 (QP C G rvI 0 0) (k96 a0 x96_3 σ) σ 0 0 96 [(0, va_rf (some a0)), (3, .int x96_3)] []) (a0 : Nat) (x96_3 : Int32) (σ : Mem) : Wo C G 4 (QP C G rvI 0 0) (b_X6_day_96 k96 a0 x96_3 σ) σ 0 0 96 [(0, va_rf (some a0)), (3, .int x96_3)] [] := by
  unfold b_X6_day_96
  refine r_aloadn hC 0 (r := (some a0)) rfl rfl dX6_day_96 ?_
  refine r_gI hC (k := 2) (r := (some a0)) cls_8 (by decide) rfl q_904 (Or.inl rfl) dX6_day_97 (fun v17 => ?_)
  refine r_iconst hC (5) rfl dX6_day_100 ?_
  refine r_icmp_lt hC 114 dX6_day_101 (by decide) ?_ ?_
  · refine r_iloadn hC 1 rfl rfl dX6_day_114 ?_
    exact e_I hC ⟨Nat.zero_le _, Nat.zero_le _⟩ dX6_day_115
  · refine r_aloadn hC 0 (r := (some a0)) rfl rfl dX6_day_104 ?_
    refine call_V hC (av := []) (st := []) (r := (some a0)) (ci := 8) rfl rfl (fun h9 => ct_X6_flush hC.hl G h9 σ) q_1045 q_1047 q_17 q_54 q_1048 yd_X6_flush rfl ⟨Nat.le_of_ble_eq_true rfl, Nat.le_of_ble_eq_true rfl⟩ ⟨Nat.zero_le _, Nat.zero_le _⟩ rfl (Nat.le_of_ble_eq_true rfl) dX6_day_105 (fun u18 σ19 => ?_)
    show Wo _ _ _ _ _ _ _ _ _ _ []
    refine r_iinc hC 1 (fun w => [(3, .int w), (0, va_rf (some a0))]) 1 rfl (by decide) rfl (fun w => rfl) dX6_day_108 (fun v21 => ?_)
    refine r_goto hC 96 dX6_day_111 (by decide) ?_
    refine Wo.sub [1, 0] rfl ?_
    exact hk96 a0 v21 σ19

set_option maxRecDepth 100000 in
set_option maxHeartbeats 4000000 in
theorem u_X6_day_96 {C : Cxt} {G : Glb} (hC : CX C G RX6 cX6_day 4 (some .int) 1 0 0 21) : ∀ (n : Nat) (a0 : Nat) (x96_3 : Int32) (σ : Mem), Wo C G 4 (QP C G rvI 0 0) (l_X6_day_96  n a0 x96_3 σ) σ 0 0 96 [(0, va_rf (some a0)), (3, .int x96_3)] [] := by
  intro n
  induction n with
  | zero => intro a0 x96_3 σ; exact Wo.none
  | succ n ih => intro a0 x96_3 σ; exact t_X6_day_96 hC (l_X6_day_96  n) ih a0 x96_3 σ

set_option maxRecDepth 100000 in
set_option maxHeartbeats 4000000 in
theorem t_X6_day_66 {C : Cxt} {G : Glb} (hC : CX C G RX6 cX6_day 4 (some .int) 1 0 0 21) (a0 : Nat) (x66_1 : Int32) (x66_2 : Int32) (y66_0 : Int32) (y66_1 : (Option Nat)) (σ : Mem) : Wo C G 4 (QP C G rvI 0 0) (b_X6_day_66  a0 x66_1 x66_2 y66_0 y66_1 σ) σ 0 0 66 [(0, va_rf (some a0)), (1, .int x66_1), (2, .int x66_2)] [.int y66_0, va_rf y66_1] := by
  unfold b_X6_day_66
  refine r_pI hC (k := 4) (r := y66_1) cls_8 (by decide) rfl q_908 (Or.inl rfl) (Or.inl rfl) dX6_day_66 (fun σ8 => ?_)
  refine r_aloadn hC 0 (r := (some a0)) rfl rfl dX6_day_69 ?_
  refine r_dup hC (cat_rf _) dX6_day_70 ?_
  refine r_gI hC (k := 2) (r := (some a0)) cls_8 (by decide) rfl q_904 (Or.inl rfl) dX6_day_71 (fun v9 => ?_)
  refine r_iconst hC (0) rfl dX6_day_74 ?_
  refine r_iloadn hC 1 rfl rfl dX6_day_75 ?_
  refine r_aloadn hC 0 (r := (some a0)) rfl rfl dX6_day_76 ?_
  refine r_gI hC (k := 1) (r := (some a0)) cls_8 (by decide) rfl q_902 (Or.inl rfl) dX6_day_77 (fun v10 => ?_)
  refine r_isub hC dX6_day_80 (fun v11 => ?_)
  refine r_max hC q_1043 q_286 q_56 q_287 (Nat.le_of_ble_eq_true rfl) (by simp [cat_rf, cat_i, cat_j, cat_d, cat_a]) ⟨Nat.zero_le _, Nat.zero_le _⟩ dX6_day_81 (fun v12 => ?_)
  refine r_iconst hC (3) rfl dX6_day_84 ?_
  refine r_iloadn hC 2 rfl rfl dX6_day_85 ?_
  refine r_min hC q_1044 q_283 q_56 q_284 (Nat.le_of_ble_eq_true rfl) (by simp [cat_rf, cat_i, cat_j, cat_d, cat_a]) ⟨Nat.zero_le _, Nat.zero_le _⟩ dX6_day_86 (fun v13 => ?_)
  refine r_iadd hC dX6_day_89 (fun v14 => ?_)
  refine r_iadd hC dX6_day_90 (fun v15 => ?_)
  refine r_pI hC (k := 2) (r := (some a0)) cls_8 (by decide) rfl q_904 (Or.inl rfl) (Or.inl rfl) dX6_day_91 (fun σ16 => ?_)
  refine r_iconst hC (0) rfl dX6_day_94 ?_
  refine r_istoren hC [(3, .int 0), (0, va_rf (some a0)), (1, .int x66_1), (2, .int x66_2)] (i := 3) rfl (by decide) rfl dX6_day_95 ?_
  refine Wo.sub [1, 0] rfl ?_
  exact u_X6_day_96 hC 40 a0 0 σ16

set_option maxRecDepth 100000 in
set_option maxHeartbeats 4000000 in
theorem t_X6_day_17 {C : Cxt} {G : Glb} (hC : CX C G RX6 cX6_day 4 (some .int) 1 0 0 21) (a0 : Nat) (x17_1 : Int32) (x17_2 : Int32) (σ : Mem) : Wo C G 4 (QP C G rvI 0 0) (b_X6_day_17  a0 x17_1 x17_2 σ) σ 0 0 17 [(0, va_rf (some a0)), (1, .int x17_1), (2, .int x17_2)] [] := by
  unfold b_X6_day_17
  refine r_aloadn hC 0 (r := (some a0)) rfl rfl dX6_day_17 ?_
  refine r_gI hC (k := 3) (r := (some a0)) cls_8 (by decide) rfl q_906 (Or.inl rfl) dX6_day_18 (fun v2 => ?_)
  refine r_if_le hC 36 dX6_day_21 (by decide) ?_ ?_
  · refine r_aloadn hC 0 (r := (some a0)) rfl rfl dX6_day_36 ?_
    refine r_iloadn hC 2 rfl rfl dX6_day_37 ?_
    refine r_aloadn hC 0 (r := (some a0)) rfl rfl dX6_day_38 ?_
    refine r_gI hC (k := 1) (r := (some a0)) cls_8 (by decide) rfl q_902 (Or.inl rfl) dX6_day_39 (fun v3 => ?_)
    refine r_iadd hC dX6_day_42 (fun v4 => ?_)
    refine r_iconst hC (5) rfl dX6_day_43 ?_
    refine r_icmp_lt hC 56 dX6_day_44 (by decide) ?_ ?_
    · refine r_iconst hC (0) rfl dX6_day_56 ?_
      refine r_aloadn hC 0 (r := (some a0)) rfl rfl dX6_day_57 ?_
      refine r_gI hC (k := 4) (r := (some a0)) cls_8 (by decide) rfl q_908 (Or.inl rfl) dX6_day_58 (fun v5 => ?_)
      refine r_iconst hC (1) rfl dX6_day_61 ?_
      refine r_isub hC dX6_day_62 (fun v6 => ?_)
      refine r_max hC q_1043 q_286 q_56 q_287 (Nat.le_of_ble_eq_true rfl) (by simp [cat_rf, cat_i, cat_j, cat_d, cat_a]) ⟨Nat.zero_le _, Nat.zero_le _⟩ dX6_day_63 (fun v7 => ?_)
      exact t_X6_day_66 hC a0 x17_1 x17_2 v7 (some a0) σ
    · refine r_aloadn hC 0 (r := (some a0)) rfl rfl dX6_day_47 ?_
      refine r_gI hC (k := 4) (r := (some a0)) cls_8 (by decide) rfl q_908 (Or.inl rfl) dX6_day_48 (fun v22 => ?_)
      refine r_iconst hC (1) rfl dX6_day_51 ?_
      refine r_iadd hC dX6_day_52 (fun v23 => ?_)
      refine r_goto hC 66 dX6_day_53 (by decide) ?_
      exact t_X6_day_66 hC a0 x17_1 x17_2 v23 (some a0) σ
  · refine r_aloadn hC 0 (r := (some a0)) rfl rfl dX6_day_24 ?_
    refine r_dup hC (cat_rf _) dX6_day_25 ?_
    refine r_gI hC (k := 3) (r := (some a0)) cls_8 (by decide) rfl q_906 (Or.inl rfl) dX6_day_26 (fun v24 => ?_)
    refine r_iconst hC (1) rfl dX6_day_29 ?_
    refine r_isub hC dX6_day_30 (fun v25 => ?_)
    refine r_pI hC (k := 3) (r := (some a0)) cls_8 (by decide) rfl q_906 (Or.inl rfl) (Or.inl rfl) dX6_day_31 (fun σ26 => ?_)
    refine r_iconst hC (0) rfl dX6_day_34 ?_
    exact e_I hC ⟨Nat.zero_le _, Nat.zero_le _⟩ dX6_day_35

set_option maxRecDepth 100000 in
set_option maxHeartbeats 4000000 in
theorem t_X6_day_0 {C : Cxt} {G : Glb} (hC : CX C G RX6 cX6_day 4 (some .int) 1 0 0 21) (a0 : Nat) (p0 : Int32) (p1 : Int32) (σ : Mem) : Wo C G 4 (QP C G rvI 0 0) (b_X6_day_0  a0 p0 p1 σ) σ 0 0 0 [(0, va_rf (some a0)), (1, .int p0), (2, .int p1)] [] := by
  unfold b_X6_day_0
  refine r_aloadn hC 0 (r := (some a0)) rfl rfl dX6_day_0 ?_
  refine r_gI hC (k := 5) (r := (some a0)) cls_8 (by decide) rfl q_910 (Or.inl rfl) dX6_day_1 (fun v1 => ?_)
  refine r_if_le hC 17 dX6_day_4 (by decide) ?_ ?_
  · exact t_X6_day_17 hC a0 p0 p1 σ
  · refine r_aloadn hC 0 (r := (some a0)) rfl rfl dX6_day_7 ?_
    refine r_dup hC (cat_rf _) dX6_day_8 ?_
    refine r_gI hC (k := 5) (r := (some a0)) cls_8 (by decide) rfl q_910 (Or.inl rfl) dX6_day_9 (fun v27 => ?_)
    refine r_iconst hC (1) rfl dX6_day_12 ?_
    refine r_isub hC dX6_day_13 (fun v28 => ?_)
    refine r_pI hC (k := 5) (r := (some a0)) cls_8 (by decide) rfl q_910 (Or.inl rfl) (Or.inl rfl) dX6_day_14 (fun σ29 => ?_)
    exact t_X6_day_17 hC a0 p0 p1 σ29

set_option maxRecDepth 100000 in
set_option maxHeartbeats 4000000 in
theorem ct_X6_day {l : Launch} (hl : l.stackTraces = false) (G : Glb) (a0 : Nat) (p0 : Int32) (p1 : Int32) (σ : Mem) : Ct rvI l yX6_day (Cond.code yX6_day cX6_day 4 (some .int) :: uW) { frames := 1, cells := 0, slots := 0, locals := 21 } 0 0 G [.ref a0, .int p0, .int p1] σ (f_X6_day a0 p0 p1 σ) := by
  refine Ct.of hl (by decide +kernel) (Nat.le_of_ble_eq_true rfl) (fun C hC hin => ?_)
  have e : lv_args 0 [.ref a0, .int p0, .int p1] = [(0, .ref a0), (1, .int p0), (2, .int p1)] := rfl
  rw [e]
  exact t_X6_day_0 hC a0 p0 p1 σ

noncomputable def b_X6_prune_4 (k4 : Nat → Int32 → Int32 → Mem → Option ((Int32) × Mem)) (a0 : Nat) (x4_1 : Int32) (x4_2 : Int32) (σ : Mem) : Option ((Int32) × Mem) :=
if 4 < x4_2 then
pI 8 2 σ (some a0) 0 fun σ1 =>
pI 8 4 σ1 (some a0) 0 fun σ2 =>
pI 8 3 σ2 (some a0) 4 fun σ3 =>
some (x4_1, σ3)
else
gR 8 6 σ (some a0) fun r4 =>
aI σ r4 x4_2 fun v5 =>
nm (x4_1 + v5) fun v6 =>
gR 8 6 σ (some a0) fun r7 =>
wI σ r7 x4_2 0 fun σ8 =>
nm (x4_2 + 1) fun v9 =>
k4 a0 v6 v9 σ8

noncomputable def l_X6_prune_4 (n : Nat) : Nat → Int32 → Int32 → Mem → Option ((Int32) × Mem) := itr (fun _ _ _ _ => none) (fun k => b_X6_prune_4  k) n

noncomputable def b_X6_prune_0 (a0 : Nat) (σ : Mem) : Option ((Int32) × Mem) :=
l_X6_prune_4 40 a0 0 0 σ

noncomputable def f_X6_prune (a0 : Nat) (σ : Mem) : Option ((Int32) × Mem) := b_X6_prune_0 a0 σ
set_option maxRecDepth 100000 in
set_option maxHeartbeats 4000000 in
theorem t_X6_prune_4 {C : Cxt} {G : Glb} (hC : CX C G RX6 cX6_prune 3 (some .int) 0 0 0 0) (k4 : Nat → Int32 → Int32 → Mem → Option ((Int32) × Mem)) (hk4 : ∀ (a0 : Nat) (x4_1 : Int32) (x4_2 : Int32) (σ : Mem), Wo C G 3 (QP C G rvI 0 0) (k4 a0 x4_1 x4_2 σ) σ 0 0 4 [(0, va_rf (some a0)), (1, .int x4_1), (2, .int x4_2)] []) (a0 : Nat) (x4_1 : Int32) (x4_2 : Int32) (σ : Mem) : Wo C G 3 (QP C G rvI 0 0) (b_X6_prune_4 k4 a0 x4_1 x4_2 σ) σ 0 0 4 [(0, va_rf (some a0)), (1, .int x4_1), (2, .int x4_2)] [] := by
  unfold b_X6_prune_4
  refine r_iloadn hC 2 rfl rfl dX6_prune_4 ?_
  refine r_iconst hC (4) rfl dX6_prune_5 ?_
  refine r_icmp_gt hC 31 dX6_prune_6 (by decide) ?_ ?_
  · refine r_aloadn hC 0 (r := (some a0)) rfl rfl dX6_prune_31 ?_
    refine r_iconst hC (0) rfl dX6_prune_32 ?_
    refine r_pI hC (k := 2) (r := (some a0)) cls_8 (by decide) rfl q_904 (Or.inl rfl) (Or.inl rfl) dX6_prune_33 (fun σ1 => ?_)
    refine r_aloadn hC 0 (r := (some a0)) rfl rfl dX6_prune_36 ?_
    refine r_iconst hC (0) rfl dX6_prune_37 ?_
    refine r_pI hC (k := 4) (r := (some a0)) cls_8 (by decide) rfl q_908 (Or.inl rfl) (Or.inl rfl) dX6_prune_38 (fun σ2 => ?_)
    refine r_aloadn hC 0 (r := (some a0)) rfl rfl dX6_prune_41 ?_
    refine r_iconst hC (4) rfl dX6_prune_42 ?_
    refine r_pI hC (k := 3) (r := (some a0)) cls_8 (by decide) rfl q_906 (Or.inl rfl) (Or.inl rfl) dX6_prune_43 (fun σ3 => ?_)
    refine r_iloadn hC 1 rfl rfl dX6_prune_46 ?_
    exact e_I hC ⟨Nat.zero_le _, Nat.zero_le _⟩ dX6_prune_47
  · refine r_iloadn hC 1 rfl rfl dX6_prune_9 ?_
    refine r_aloadn hC 0 (r := (some a0)) rfl rfl dX6_prune_10 ?_
    refine r_gR hC (k := 6) (r := (some a0)) cls_8 (by decide) rfl q_912 (Or.inl rfl) dX6_prune_11 (fun r4 => ?_)
    refine r_iloadn hC 2 rfl rfl dX6_prune_14 ?_
    refine r_aI hC (r := r4) dX6_prune_15 (fun v5 => ?_)
    refine r_iadd hC dX6_prune_16 (fun v6 => ?_)
    refine r_istoren hC [(1, .int v6), (0, va_rf (some a0)), (2, .int x4_2)] (i := 1) rfl (by decide) rfl dX6_prune_17 ?_
    refine r_aloadn hC 1 (r := (some a0)) rfl rfl dX6_prune_18 ?_
    refine r_gR hC (k := 6) (r := (some a0)) cls_8 (by decide) rfl q_912 (Or.inl rfl) dX6_prune_19 (fun r7 => ?_)
    refine r_iloadn hC 2 rfl rfl dX6_prune_22 ?_
    refine r_iconst hC (0) rfl dX6_prune_23 ?_
    refine r_wI hC (r := r7) dX6_prune_24 (fun σ8 => ?_)
    refine r_iinc hC 2 (fun w => [(2, .int w), (1, .int v6), (0, va_rf (some a0))]) 1 rfl (by decide) rfl (fun w => rfl) dX6_prune_25 (fun v9 => ?_)
    refine r_goto hC 4 dX6_prune_28 (by decide) ?_
    refine Wo.sub [2, 1, 0] rfl ?_
    exact hk4 a0 v6 v9 σ8

set_option maxRecDepth 100000 in
set_option maxHeartbeats 4000000 in
theorem u_X6_prune_4 {C : Cxt} {G : Glb} (hC : CX C G RX6 cX6_prune 3 (some .int) 0 0 0 0) : ∀ (n : Nat) (a0 : Nat) (x4_1 : Int32) (x4_2 : Int32) (σ : Mem), Wo C G 3 (QP C G rvI 0 0) (l_X6_prune_4  n a0 x4_1 x4_2 σ) σ 0 0 4 [(0, va_rf (some a0)), (1, .int x4_1), (2, .int x4_2)] [] := by
  intro n
  induction n with
  | zero => intro a0 x4_1 x4_2 σ; exact Wo.none
  | succ n ih => intro a0 x4_1 x4_2 σ; exact t_X6_prune_4 hC (l_X6_prune_4  n) ih a0 x4_1 x4_2 σ

set_option maxRecDepth 100000 in
set_option maxHeartbeats 4000000 in
theorem t_X6_prune_0 {C : Cxt} {G : Glb} (hC : CX C G RX6 cX6_prune 3 (some .int) 0 0 0 0) (a0 : Nat) (σ : Mem) : Wo C G 3 (QP C G rvI 0 0) (b_X6_prune_0  a0 σ) σ 0 0 0 [(0, va_rf (some a0))] [] := by
  unfold b_X6_prune_0
  refine r_iconst hC (0) rfl dX6_prune_0 ?_
  refine r_istoren hC [(1, .int 0), (0, va_rf (some a0))] (i := 1) rfl (by decide) rfl dX6_prune_1 ?_
  refine r_iconst hC (0) rfl dX6_prune_2 ?_
  refine r_istoren hC [(2, .int 0), (1, .int 0), (0, va_rf (some a0))] (i := 2) rfl (by decide) rfl dX6_prune_3 ?_
  refine Wo.sub [2, 1, 0] rfl ?_
  exact u_X6_prune_4 hC 40 a0 0 0 σ

set_option maxRecDepth 100000 in
set_option maxHeartbeats 4000000 in
theorem ct_X6_prune {l : Launch} (hl : l.stackTraces = false) (G : Glb) (a0 : Nat) (σ : Mem) : Ct rvI l yX6_prune (Cond.code yX6_prune cX6_prune 3 (some .int) :: uW) { frames := 0, cells := 0, slots := 0, locals := 0 } 0 0 G [.ref a0] σ (f_X6_prune a0 σ) := by
  refine Ct.of hl (by decide +kernel) (Nat.le_of_ble_eq_true rfl) (fun C hC hin => ?_)
  have e : lv_args 0 [.ref a0] = [(0, .ref a0)] := rfl
  rw [e]
  exact t_X6_prune_0 hC a0 σ

noncomputable def b_X6_mayTake_4 (k4 : Nat → Int32 → Int32 → Int32 → Mem → Option ((Int32) × Mem)) (a0 : Nat) (x4_1 : Int32) (x4_2 : Int32) (x4_3 : Int32) (σ : Mem) : Option ((Int32) × Mem) :=
nm (x4_1 + 1) fun v1 =>
if v1 < x4_3 then
some (x4_2, σ)
else
gR 8 6 σ (some a0) fun r2 =>
aI σ r2 x4_3 fun v3 =>
nm (x4_2 + v3) fun v4 =>
nm (x4_3 + 1) fun v5 =>
k4 a0 x4_1 v4 v5 σ

noncomputable def l_X6_mayTake_4 (n : Nat) : Nat → Int32 → Int32 → Int32 → Mem → Option ((Int32) × Mem) := itr (fun _ _ _ _ _ => none) (fun k => b_X6_mayTake_4  k) n

noncomputable def b_X6_mayTake_0 (a0 : Nat) (p0 : Int32) (σ : Mem) : Option ((Int32) × Mem) :=
l_X6_mayTake_4 40 a0 p0 0 2 σ

noncomputable def f_X6_mayTake (a0 : Nat) (p0 : Int32) (σ : Mem) : Option ((Int32) × Mem) := b_X6_mayTake_0 a0 p0 σ
set_option maxRecDepth 100000 in
set_option maxHeartbeats 4000000 in
theorem t_X6_mayTake_4 {C : Cxt} {G : Glb} (hC : CX C G RX6 cX6_mayTake 4 (some .int) 0 0 0 0) (k4 : Nat → Int32 → Int32 → Int32 → Mem → Option ((Int32) × Mem)) (hk4 : ∀ (a0 : Nat) (x4_1 : Int32) (x4_2 : Int32) (x4_3 : Int32) (σ : Mem), Wo C G 4 (QP C G rvI 0 0) (k4 a0 x4_1 x4_2 x4_3 σ) σ 0 0 4 [(0, va_rf (some a0)), (1, .int x4_1), (2, .int x4_2), (3, .int x4_3)] []) (a0 : Nat) (x4_1 : Int32) (x4_2 : Int32) (x4_3 : Int32) (σ : Mem) : Wo C G 4 (QP C G rvI 0 0) (b_X6_mayTake_4 k4 a0 x4_1 x4_2 x4_3 σ) σ 0 0 4 [(0, va_rf (some a0)), (1, .int x4_1), (2, .int x4_2), (3, .int x4_3)] [] := by
  unfold b_X6_mayTake_4
  refine r_iloadn hC 3 rfl rfl dX6_mayTake_4 ?_
  refine r_iloadn hC 1 rfl rfl dX6_mayTake_5 ?_
  refine r_iconst hC (1) rfl dX6_mayTake_6 ?_
  refine r_iadd hC dX6_mayTake_7 (fun v1 => ?_)
  refine r_icmp_gt hC 26 dX6_mayTake_8 (by decide) ?_ ?_
  · refine r_iloadn hC 2 rfl rfl dX6_mayTake_26 ?_
    exact e_I hC ⟨Nat.zero_le _, Nat.zero_le _⟩ dX6_mayTake_27
  · refine r_iloadn hC 2 rfl rfl dX6_mayTake_11 ?_
    refine r_aloadn hC 0 (r := (some a0)) rfl rfl dX6_mayTake_12 ?_
    refine r_gR hC (k := 6) (r := (some a0)) cls_8 (by decide) rfl q_912 (Or.inl rfl) dX6_mayTake_13 (fun r2 => ?_)
    refine r_iloadn hC 3 rfl rfl dX6_mayTake_16 ?_
    refine r_aI hC (r := r2) dX6_mayTake_17 (fun v3 => ?_)
    refine r_iadd hC dX6_mayTake_18 (fun v4 => ?_)
    refine r_istoren hC [(2, .int v4), (0, va_rf (some a0)), (1, .int x4_1), (3, .int x4_3)] (i := 2) rfl (by decide) rfl dX6_mayTake_19 ?_
    refine r_iinc hC 3 (fun w => [(3, .int w), (2, .int v4), (0, va_rf (some a0)), (1, .int x4_1)]) 1 rfl (by decide) rfl (fun w => rfl) dX6_mayTake_20 (fun v5 => ?_)
    refine r_goto hC 4 dX6_mayTake_23 (by decide) ?_
    refine Wo.sub [2, 3, 1, 0] rfl ?_
    exact hk4 a0 x4_1 v4 v5 σ

set_option maxRecDepth 100000 in
set_option maxHeartbeats 4000000 in
theorem u_X6_mayTake_4 {C : Cxt} {G : Glb} (hC : CX C G RX6 cX6_mayTake 4 (some .int) 0 0 0 0) : ∀ (n : Nat) (a0 : Nat) (x4_1 : Int32) (x4_2 : Int32) (x4_3 : Int32) (σ : Mem), Wo C G 4 (QP C G rvI 0 0) (l_X6_mayTake_4  n a0 x4_1 x4_2 x4_3 σ) σ 0 0 4 [(0, va_rf (some a0)), (1, .int x4_1), (2, .int x4_2), (3, .int x4_3)] [] := by
  intro n
  induction n with
  | zero => intro a0 x4_1 x4_2 x4_3 σ; exact Wo.none
  | succ n ih => intro a0 x4_1 x4_2 x4_3 σ; exact t_X6_mayTake_4 hC (l_X6_mayTake_4  n) ih a0 x4_1 x4_2 x4_3 σ

set_option maxRecDepth 100000 in
set_option maxHeartbeats 4000000 in
theorem t_X6_mayTake_0 {C : Cxt} {G : Glb} (hC : CX C G RX6 cX6_mayTake 4 (some .int) 0 0 0 0) (a0 : Nat) (p0 : Int32) (σ : Mem) : Wo C G 4 (QP C G rvI 0 0) (b_X6_mayTake_0  a0 p0 σ) σ 0 0 0 [(0, va_rf (some a0)), (1, .int p0)] [] := by
  unfold b_X6_mayTake_0
  refine r_iconst hC (0) rfl dX6_mayTake_0 ?_
  refine r_istoren hC [(2, .int 0), (0, va_rf (some a0)), (1, .int p0)] (i := 2) rfl (by decide) rfl dX6_mayTake_1 ?_
  refine r_iconst hC (2) rfl dX6_mayTake_2 ?_
  refine r_istoren hC [(3, .int 2), (2, .int 0), (0, va_rf (some a0)), (1, .int p0)] (i := 3) rfl (by decide) rfl dX6_mayTake_3 ?_
  refine Wo.sub [2, 3, 1, 0] rfl ?_
  exact u_X6_mayTake_4 hC 40 a0 p0 0 2 σ

set_option maxRecDepth 100000 in
set_option maxHeartbeats 4000000 in
theorem ct_X6_mayTake {l : Launch} (hl : l.stackTraces = false) (G : Glb) (a0 : Nat) (p0 : Int32) (σ : Mem) : Ct rvI l yX6_mayTake (Cond.code yX6_mayTake cX6_mayTake 4 (some .int) :: uW) { frames := 0, cells := 0, slots := 0, locals := 0 } 0 0 G [.ref a0, .int p0] σ (f_X6_mayTake a0 p0 σ) := by
  refine Ct.of hl (by decide +kernel) (Nat.le_of_ble_eq_true rfl) (fun C hC hin => ?_)
  have e : lv_args 0 [.ref a0, .int p0] = [(0, .ref a0), (1, .int p0)] := rfl
  rw [e]
  exact t_X6_mayTake_0 hC a0 p0 σ

noncomputable def b_X7_init_0 (a0 : Nat) (σ : Mem) : Option ((Unit) × Mem) :=
ob 9 σ (some a0) fun _ =>
some ((), σ)

noncomputable def f_X7_init (a0 : Nat) (σ : Mem) : Option ((Unit) × Mem) := b_X7_init_0 a0 σ
set_option maxRecDepth 100000 in
set_option maxHeartbeats 4000000 in
theorem t_X7_init_0 {C : Cxt} {G : Glb} (hC : CX C G RX7 cX7_init 1 none 1 0 0 12) (a0 : Nat) (σ : Mem) : Wo C G 1 (QP C G rvU 0 0) (b_X7_init_0  a0 σ) σ 0 0 0 [(0, va_rf (some a0))] [] := by
  unfold b_X7_init_0
  refine r_aloadn hC 0 (r := (some a0)) rfl rfl dX7_init_0 ?_
  refine call_O hC (r := (some a0)) q_826 q_70 q_71 (Nat.le_of_ble_eq_true rfl) (Nat.le_of_ble_eq_true rfl) dX7_init_1 ?_
  exact e_U hC ⟨Nat.zero_le _, Nat.zero_le _⟩ dX7_init_4

set_option maxRecDepth 100000 in
set_option maxHeartbeats 4000000 in
theorem ct_X7_init {l : Launch} (hl : l.stackTraces = false) (G : Glb) (a0 : Nat) (σ : Mem) : Ct rvU l yX7_init (Cond.code yX7_init cX7_init 1 none :: uW) { frames := 1, cells := 0, slots := 0, locals := 12 } 0 0 G [.ref a0] σ (f_X7_init a0 σ) := by
  refine Ct.of hl (by decide +kernel) (Nat.le_of_ble_eq_true rfl) (fun C hC hin => ?_)
  have e : lv_args 0 [.ref a0] = [(0, .ref a0)] := rfl
  rw [e]
  exact t_X7_init_0 hC a0 σ

noncomputable def b_X7_tells_0 (a0 : Nat) (p0 : Int32) (σ : Mem) : Option ((Int32) × Mem) :=
gI 9 0 σ (some a0) fun v1 =>
nm (p0 + v1) fun v2 =>
cl1 (f_X8_held v2 σ) fun v3 σ4 =>
some (v3, σ4)

noncomputable def f_X7_tells (a0 : Nat) (p0 : Int32) (σ : Mem) : Option ((Int32) × Mem) := b_X7_tells_0 a0 p0 σ
set_option maxRecDepth 100000 in
set_option maxHeartbeats 4000000 in
theorem t_X7_tells_0 {C : Cxt} {G : Glb} (hC : CX C G RX7 cX7_tells 2 (some .int) 2 0 0 34) (a0 : Nat) (p0 : Int32) (σ : Mem) : Wo C G 2 (QP C G rvI 0 0) (b_X7_tells_0  a0 p0 σ) σ 0 0 0 [(0, va_rf (some a0)), (1, .int p0)] [] := by
  unfold b_X7_tells_0
  refine r_iloadn hC 1 rfl rfl dX7_tells_0 ?_
  refine r_aloadn hC 0 (r := (some a0)) rfl rfl dX7_tells_1 ?_
  refine r_gI hC (k := 0) (r := (some a0)) cls_9 (by decide) rfl q_827 (Or.inl rfl) dX7_tells_2 (fun v1 => ?_)
  refine r_iadd hC dX7_tells_5 (fun v2 => ?_)
  refine call_SN hC (av := [.int v2]) (st := []) (ct_X8_held hC.hl G v2 σ) z_1290 q_1267 q_44 q_1268 yd_X8_held rfl ⟨Nat.le_of_ble_eq_true rfl, Nat.le_of_ble_eq_true rfl⟩ ⟨Nat.zero_le _, Nat.zero_le _⟩ rfl (Nat.le_of_ble_eq_true rfl) dX7_tells_6 (fun v3 σ4 => ?_)
  show Wo _ _ _ _ _ _ _ _ _ _ [.int v3]
  exact e_I hC ⟨Nat.zero_le _, Nat.zero_le _⟩ dX7_tells_9

set_option maxRecDepth 100000 in
set_option maxHeartbeats 4000000 in
theorem ct_X7_tells {l : Launch} (hl : l.stackTraces = false) (G : Glb) (a0 : Nat) (p0 : Int32) (σ : Mem) : Ct rvI l yX7_tells (Cond.code yX7_tells cX7_tells 2 (some .int) :: uW) { frames := 2, cells := 0, slots := 0, locals := 34 } 0 0 G [.ref a0, .int p0] σ (f_X7_tells a0 p0 σ) := by
  refine Ct.of hl (by decide +kernel) (Nat.le_of_ble_eq_true rfl) (fun C hC hin => ?_)
  have e : lv_args 0 [.ref a0, .int p0] = [(0, .ref a0), (1, .int p0)] := rfl
  rw [e]
  exact t_X7_tells_0 hC a0 p0 σ

noncomputable def b_X7_guess_42 (y42_0 : Int32) (σ : Mem) : Option ((Int32) × Mem) :=
some (y42_0, σ)

noncomputable def b_X7_guess_0 (a0 : Nat) (σ : Mem) : Option ((Int32) × Mem) :=
gI 9 2 σ (some a0) fun v1 =>
nm (3 * v1) fun v2 =>
if v2 = 0 then
some (0, σ)
else
gI 9 1 σ (some a0) fun v3 =>
nm (if 0 ≤ v3 then v3 else 0 - v3) fun v4 =>
nm (2 * v4) fun v5 =>
nm (v5 + v2) fun v6 =>
nm (2 * v2) fun v7 =>
dv v6 v7 fun v8 =>
gI 9 1 σ (some a0) fun v9 =>
if 0 ≤ v9 then
b_X7_guess_42 v8 σ
else
nm (-v8) fun v10 =>
b_X7_guess_42 v10 σ

noncomputable def f_X7_guess (a0 : Nat) (σ : Mem) : Option ((Int32) × Mem) := b_X7_guess_0 a0 σ
set_option maxRecDepth 100000 in
set_option maxHeartbeats 4000000 in
theorem t_X7_guess_42 {C : Cxt} {G : Glb} (hC : CX C G RX7 cX7_guess 3 (some .int) 1 0 0 14) (y42_0 : Int32) (σ : Mem) : Wo C G 3 (QP C G rvI 0 0) (b_X7_guess_42  y42_0 σ) σ 0 0 42 [] [.int y42_0] := by
  unfold b_X7_guess_42
  exact e_I hC ⟨Nat.zero_le _, Nat.zero_le _⟩ dX7_guess_42

set_option maxRecDepth 100000 in
set_option maxHeartbeats 4000000 in
theorem t_X7_guess_0 {C : Cxt} {G : Glb} (hC : CX C G RX7 cX7_guess 3 (some .int) 1 0 0 14) (a0 : Nat) (σ : Mem) : Wo C G 3 (QP C G rvI 0 0) (b_X7_guess_0  a0 σ) σ 0 0 0 [(0, va_rf (some a0))] [] := by
  unfold b_X7_guess_0
  refine r_iconst hC (3) rfl dX7_guess_0 ?_
  refine r_aloadn hC 0 (r := (some a0)) rfl rfl dX7_guess_1 ?_
  refine r_gI hC (k := 2) (r := (some a0)) cls_9 (by decide) rfl q_831 (Or.inl rfl) dX7_guess_2 (fun v1 => ?_)
  refine r_imul hC dX7_guess_5 (fun v2 => ?_)
  refine r_istoren hC [(1, .int v2), (0, va_rf (some a0))] (i := 1) rfl (by decide) rfl dX7_guess_6 ?_
  refine r_iloadn hC 0 rfl rfl dX7_guess_7 ?_
  refine r_if_ne hC 13 dX7_guess_8 (by decide) ?_ ?_
  · refine r_iconst hC (2) rfl dX7_guess_13 ?_
    refine r_aloadn hC 1 (r := (some a0)) rfl rfl dX7_guess_14 ?_
    refine r_gI hC (k := 1) (r := (some a0)) cls_9 (by decide) rfl q_829 (Or.inl rfl) dX7_guess_15 (fun v3 => ?_)
    refine r_abs hC q_1295 q_293 q_56 q_294 (Nat.le_of_ble_eq_true rfl) (by simp [cat_rf, cat_i, cat_j, cat_d, cat_a]) ⟨Nat.zero_le _, Nat.zero_le _⟩ dX7_guess_18 (fun v4 => ?_)
    refine r_imul hC dX7_guess_21 (fun v5 => ?_)
    refine r_iloadn hC 0 rfl rfl dX7_guess_22 ?_
    refine r_iadd hC dX7_guess_23 (fun v6 => ?_)
    refine r_iconst hC (2) rfl dX7_guess_24 ?_
    refine r_iloadn hC 0 rfl rfl dX7_guess_25 ?_
    refine r_imul hC dX7_guess_26 (fun v7 => ?_)
    refine r_idiv hC dX7_guess_27 (fun v8 => ?_)
    refine r_istoren hC [(2, .int v8), (1, .int v2), (0, va_rf (some a0))] (i := 2) rfl (by decide) rfl dX7_guess_28 ?_
    refine r_aloadn hC 2 (r := (some a0)) rfl rfl dX7_guess_29 ?_
    refine r_gI hC (k := 1) (r := (some a0)) cls_9 (by decide) rfl q_829 (Or.inl rfl) dX7_guess_30 (fun v9 => ?_)
    refine r_if_ge hC 41 dX7_guess_33 (by decide) ?_ ?_
    · refine r_iloadn hC 0 rfl rfl dX7_guess_41 ?_
      refine Wo.sub [] rfl ?_
      exact t_X7_guess_42 hC v8 σ
    · refine r_iloadn hC 0 rfl rfl dX7_guess_36 ?_
      refine r_ineg hC dX7_guess_37 (fun v10 => ?_)
      refine r_goto hC 42 dX7_guess_38 (by decide) ?_
      refine Wo.sub [] rfl ?_
      exact t_X7_guess_42 hC v10 σ
  · refine r_iconst hC (0) rfl dX7_guess_11 ?_
    exact e_I hC ⟨Nat.zero_le _, Nat.zero_le _⟩ dX7_guess_12

set_option maxRecDepth 100000 in
set_option maxHeartbeats 4000000 in
theorem ct_X7_guess {l : Launch} (hl : l.stackTraces = false) (G : Glb) (a0 : Nat) (σ : Mem) : Ct rvI l yX7_guess (Cond.code yX7_guess cX7_guess 3 (some .int) :: uW) { frames := 1, cells := 0, slots := 0, locals := 14 } 0 0 G [.ref a0] σ (f_X7_guess a0 σ) := by
  refine Ct.of hl (by decide +kernel) (Nat.le_of_ble_eq_true rfl) (fun C hC hin => ?_)
  have e : lv_args 0 [.ref a0] = [(0, .ref a0)] := rfl
  rw [e]
  exact t_X7_guess_0 hC a0 σ
