noncomputable def b_X4_init_144 (k144 : Nat → Int32 → Mem → Option ((Unit) × Mem)) (a0 : Nat) (x144_1 : Int32) (σ : Mem) : Option ((Unit) × Mem) :=
gR 4 6 σ (some a0) fun r30 =>
aL σ r30 fun v31 =>
if v31 ≤ x144_1 then
some ((), σ)
else
gR 4 6 σ (some a0) fun r32 =>
nO 3 σ fun σ33 r34 =>
ob 3 σ33 r34 fun h37 => cl1 (f_X3_init h37 σ33) fun _ σ36 =>
wR 3 σ36 r32 x144_1 r34 fun σ38 =>
nm (x144_1 + 1) fun v39 =>
k144 a0 v39 σ38

noncomputable def l_X4_init_144 (n : Nat) : Nat → Int32 → Mem → Option ((Unit) × Mem) := itr (fun _ _ _ => none) (fun k => b_X4_init_144  k) n

noncomputable def b_X4_init_114 (k114 : Nat → Int32 → Mem → Option ((Unit) × Mem)) (a0 : Nat) (x114_1 : Int32) (σ : Mem) : Option ((Unit) × Mem) :=
gR 4 3 σ (some a0) fun r28 =>
aL σ r28 fun v29 =>
if v29 ≤ x114_1 then
l_X4_init_144 4 a0 0 σ
else
gR 4 3 σ (some a0) fun r40 =>
nO 1 σ fun σ41 r42 =>
ob 1 σ41 r42 fun h45 => cl1 (f_X1_init h45 σ41) fun _ σ44 =>
wR 1 σ44 r40 x114_1 r42 fun σ46 =>
nm (x114_1 + 1) fun v47 =>
k114 a0 v47 σ46

noncomputable def l_X4_init_114 (n : Nat) : Nat → Int32 → Mem → Option ((Unit) × Mem) := itr (fun _ _ _ => none) (fun k => b_X4_init_114  k) n

noncomputable def b_X4_init_84 (k84 : Nat → Int32 → Mem → Option ((Unit) × Mem)) (a0 : Nat) (x84_1 : Int32) (σ : Mem) : Option ((Unit) × Mem) :=
gR 4 0 σ (some a0) fun r26 =>
aL σ r26 fun v27 =>
if v27 ≤ x84_1 then
l_X4_init_114 17 a0 0 σ
else
gR 4 0 σ (some a0) fun r48 =>
nO 2 σ fun σ49 r50 =>
ob 2 σ49 r50 fun h53 => cl1 (f_X2_init h53 σ49) fun _ σ52 =>
wR 2 σ52 r48 x84_1 r50 fun σ54 =>
nm (x84_1 + 1) fun v55 =>
k84 a0 v55 σ54

noncomputable def l_X4_init_84 (n : Nat) : Nat → Int32 → Mem → Option ((Unit) × Mem) := itr (fun _ _ _ => none) (fun k => b_X4_init_84  k) n

noncomputable def b_X4_init_0 (a0 : Nat) (σ : Mem) : Option ((Unit) × Mem) :=
ob 4 σ (some a0) fun _ =>
nA 2 4 σ 4 fun σ1 r2 =>
pR 4 0 σ1 (some a0) r2 fun σ3 =>
pI 4 1 σ3 (some a0) 0 fun σ4 =>
pI 4 2 σ4 (some a0) 0 fun σ5 =>
nA 1 16 σ5 16 fun σ6 r7 =>
pR 4 3 σ6 (some a0) r7 fun σ8 =>
pI 4 4 σ8 (some a0) 0 fun σ9 =>
nO 1 σ9 fun σ10 r11 =>
ob 1 σ10 r11 fun h14 => cl1 (f_X1_init h14 σ10) fun _ σ13 =>
pR 4 5 σ13 (some a0) r11 fun σ15 =>
nA 3 3 σ15 3 fun σ16 r17 =>
pR 4 6 σ16 (some a0) r17 fun σ18 =>
nA 0 4 σ18 4 fun σ19 r20 =>
pR 4 7 σ19 (some a0) r20 fun σ21 =>
pI 4 8 σ21 (some a0) 0 fun σ22 =>
pI 4 9 σ22 (some a0) 0 fun σ23 =>
pI 4 10 σ23 (some a0) 0 fun σ24 =>
pI 4 11 σ24 (some a0) 0 fun σ25 =>
l_X4_init_84 5 a0 0 σ25

noncomputable def f_X4_init (a0 : Nat) (σ : Mem) : Option ((Unit) × Mem) := b_X4_init_0 a0 σ
set_option maxRecDepth 100000 in
set_option maxHeartbeats 4000000 in
theorem t_X4_init_144 {C : Cxt} {G : Glb} (hC : CX C G RX4 cX4_init 2 none 3 120 705 52) (hin : (cF C).name = "<init>") (P144 : Nat → Nat → Prop) (hm144 : ∀ a b a2 b2 : Nat, a ≤ a2 → b ≤ b2 → P144 a2 b2 → P144 a b) (k144 : Nat → Int32 → Mem → Option ((Unit) × Mem)) (hk144 : ∀ (a0 : Nat) (x144_1 : Int32) (σ : Mem) (kc ks : Nat), P144 kc ks → Wo C G 2 (QP C G rvU 120 705) (k144 a0 x144_1 σ) σ kc ks 144 [(0, va_rf (some a0)), (1, .int x144_1)] []) (a0 : Nat) (x144_1 : Int32) (σ : Mem) (kc ks : Nat) (hN : kc + 1 ≤ 120 ∧ ks + 3 ≤ 705) (hP144 : P144 (kc + 1) (ks + 3)) : Wo C G 2 (QP C G rvU 120 705) (b_X4_init_144 k144 a0 x144_1 σ) σ kc ks 144 [(0, va_rf (some a0)), (1, .int x144_1)] [] := by
  unfold b_X4_init_144
  refine r_iloadn hC 1 rfl rfl dX4_init_144 ?_
  refine r_aloadn hC 0 (r := (some a0)) rfl rfl dX4_init_145 ?_
  refine r_gR hC (k := 6) (r := (some a0)) cls_4 (by decide) rfl q_193 (Or.inl rfl) dX4_init_146 (fun r30 => ?_)
  refine r_aL hC (r := r30) dX4_init_149 (fun v31 => ?_)
  refine r_icmp_ge hC 172 dX4_init_150 (by decide) ?_ ?_
  · exact e_U hC ⟨by omega, by omega⟩ dX4_init_172
  · refine r_aloadn hC 0 (r := (some a0)) rfl rfl dX4_init_153 ?_
    refine r_gR hC (k := 6) (r := (some a0)) cls_4 (by decide) rfl q_193 (Or.inl rfl) dX4_init_154 (fun r32 => ?_)
    refine r_iloadn hC 1 rfl rfl dX4_init_157 ?_
    refine r_nO hC cls_3 q_129 q_169 q_17 ⟨by omega, by omega⟩ dX4_init_158 (fun σ33 r34 => ?_)
    refine r_dup hC (cat_rf _) dX4_init_161 ?_
    refine call_IN hC (av := []) (st := [va_rf r34, .int x144_1, va_rf r32]) (r := r34) (ci := 3) (fun h9 => ct_X3_init hC.hl G h9 σ33) z_170 q_171 q_17 q_172 rfl yd_X3_init rfl ⟨Nat.le_of_ble_eq_true rfl, Nat.le_of_ble_eq_true rfl⟩ ⟨by omega, by omega⟩ rfl (by simp [cat_rf, cat_i, cat_j, cat_d, cat_a]) dX4_init_162 (fun σ36 => ?_)
    refine r_wR hC (t := 3) (r := r32) (v := r34) rfl rfl dX4_init_165 (fun σ38 => ?_)
    refine r_iinc hC 1 (fun w => [(1, .int w), (0, va_rf (some a0))]) 1 rfl (by decide) rfl (fun w => rfl) dX4_init_166 (fun v39 => ?_)
    refine r_goto hC 144 dX4_init_169 (by decide) ?_
    refine Wo.sub [1, 0] rfl ?_
    exact hk144 a0 v39 σ38 _ _ (hm144 _ _ _ _ (by omega) (by omega) hP144)

set_option maxRecDepth 100000 in
set_option maxHeartbeats 4000000 in
theorem u_X4_init_144 {C : Cxt} {G : Glb} (hC : CX C G RX4 cX4_init 2 none 3 120 705 52) (hin : (cF C).name = "<init>") : ∀ (n : Nat) (a0 : Nat) (x144_1 : Int32) (σ : Mem) (kc ks : Nat), (∀ m, n = m + 1 → (kc + m * 1 + 1 ≤ 120 ∧ ks + m * 3 + 3 ≤ 705)) → Wo C G 2 (QP C G rvU 120 705) (l_X4_init_144  n a0 x144_1 σ) σ kc ks 144 [(0, va_rf (some a0)), (1, .int x144_1)] [] := by
  intro n
  induction n with
  | zero => intro a0 x144_1 σ kc ks h0; exact Wo.none
  | succ n ih =>
    intro a0 x144_1 σ kc ks h0
    exact t_X4_init_144 hC hin (fun kc ks => (∀ m, n = m + 1 → (kc + m * 1 + 1 ≤ 120 ∧ ks + m * 3 + 3 ≤ 705))) (fun a b a2 b2 h1 h2 h m e => ⟨by have := (h m e).1; omega, by have := (h m e).2; omega⟩) (l_X4_init_144  n) ih a0 x144_1 σ kc ks ⟨by have := (h0 n rfl).1; omega, by have := (h0 n rfl).2; omega⟩ (fun m e => by
      subst e
      exact ⟨by have := (h0 _ rfl).1; omega, by have := (h0 _ rfl).2; omega⟩)

set_option maxRecDepth 100000 in
set_option maxHeartbeats 4000000 in
theorem t_X4_init_114 {C : Cxt} {G : Glb} (hC : CX C G RX4 cX4_init 2 none 3 120 705 52) (hin : (cF C).name = "<init>") (P114 : Nat → Nat → Prop) (hm114 : ∀ a b a2 b2 : Nat, a ≤ a2 → b ≤ b2 → P114 a2 b2 → P114 a b) (k114 : Nat → Int32 → Mem → Option ((Unit) × Mem)) (hk114 : ∀ (a0 : Nat) (x114_1 : Int32) (σ : Mem) (kc ks : Nat), P114 kc ks → Wo C G 2 (QP C G rvU 120 705) (k114 a0 x114_1 σ) σ kc ks 114 [(0, va_rf (some a0)), (1, .int x114_1)] []) (a0 : Nat) (x114_1 : Int32) (σ : Mem) (kc ks : Nat) (hN : kc + 6 ≤ 120 ∧ ks + 35 ≤ 705) (hP114 : P114 (kc + 6) (ks + 35)) : Wo C G 2 (QP C G rvU 120 705) (b_X4_init_114 k114 a0 x114_1 σ) σ kc ks 114 [(0, va_rf (some a0)), (1, .int x114_1)] [] := by
  unfold b_X4_init_114
  refine r_iloadn hC 1 rfl rfl dX4_init_114 ?_
  refine r_aloadn hC 0 (r := (some a0)) rfl rfl dX4_init_115 ?_
  refine r_gR hC (k := 3) (r := (some a0)) cls_4 (by decide) rfl q_190 (Or.inl rfl) dX4_init_116 (fun r28 => ?_)
  refine r_aL hC (r := r28) dX4_init_119 (fun v29 => ?_)
  refine r_icmp_ge hC 142 dX4_init_120 (by decide) ?_ ?_
  · refine r_iconst hC (0) rfl dX4_init_142 ?_
    refine r_istoren hC [(1, .int 0), (0, va_rf (some a0))] (i := 1) rfl (by decide) rfl dX4_init_143 ?_
    refine Wo.sub [1, 0] rfl ?_
    exact u_X4_init_144 hC hin 4 a0 0 σ _ _ (fun m e => by cases e; exact ⟨by omega, by omega⟩)
  · refine r_aloadn hC 0 (r := (some a0)) rfl rfl dX4_init_123 ?_
    refine r_gR hC (k := 3) (r := (some a0)) cls_4 (by decide) rfl q_190 (Or.inl rfl) dX4_init_124 (fun r40 => ?_)
    refine r_iloadn hC 1 rfl rfl dX4_init_127 ?_
    refine r_nO hC cls_1 q_35 q_37 q_14 ⟨by omega, by omega⟩ dX4_init_128 (fun σ41 r42 => ?_)
    refine r_dup hC (cat_rf _) dX4_init_131 ?_
    refine call_IN hC (av := []) (st := [va_rf r42, .int x114_1, va_rf r40]) (r := r42) (ci := 1) (fun h9 => ct_X1_init hC.hl G h9 σ41) z_38 q_39 q_14 q_40 rfl yd_X1_init rfl ⟨Nat.le_of_ble_eq_true rfl, Nat.le_of_ble_eq_true rfl⟩ ⟨by omega, by omega⟩ rfl (by simp [cat_rf, cat_i, cat_j, cat_d, cat_a]) dX4_init_132 (fun σ44 => ?_)
    refine r_wR hC (t := 1) (r := r40) (v := r42) rfl rfl dX4_init_135 (fun σ46 => ?_)
    refine r_iinc hC 1 (fun w => [(1, .int w), (0, va_rf (some a0))]) 1 rfl (by decide) rfl (fun w => rfl) dX4_init_136 (fun v47 => ?_)
    refine r_goto hC 114 dX4_init_139 (by decide) ?_
    refine Wo.sub [1, 0] rfl ?_
    exact hk114 a0 v47 σ46 _ _ (hm114 _ _ _ _ (by omega) (by omega) hP114)

set_option maxRecDepth 100000 in
set_option maxHeartbeats 4000000 in
theorem u_X4_init_114 {C : Cxt} {G : Glb} (hC : CX C G RX4 cX4_init 2 none 3 120 705 52) (hin : (cF C).name = "<init>") : ∀ (n : Nat) (a0 : Nat) (x114_1 : Int32) (σ : Mem) (kc ks : Nat), (∀ m, n = m + 1 → (kc + m * 6 + 6 ≤ 120 ∧ ks + m * 35 + 35 ≤ 705)) → Wo C G 2 (QP C G rvU 120 705) (l_X4_init_114  n a0 x114_1 σ) σ kc ks 114 [(0, va_rf (some a0)), (1, .int x114_1)] [] := by
  intro n
  induction n with
  | zero => intro a0 x114_1 σ kc ks h0; exact Wo.none
  | succ n ih =>
    intro a0 x114_1 σ kc ks h0
    exact t_X4_init_114 hC hin (fun kc ks => (∀ m, n = m + 1 → (kc + m * 6 + 6 ≤ 120 ∧ ks + m * 35 + 35 ≤ 705))) (fun a b a2 b2 h1 h2 h m e => ⟨by have := (h m e).1; omega, by have := (h m e).2; omega⟩) (l_X4_init_114  n) ih a0 x114_1 σ kc ks ⟨by have := (h0 n rfl).1; omega, by have := (h0 n rfl).2; omega⟩ (fun m e => by
      subst e
      exact ⟨by have := (h0 _ rfl).1; omega, by have := (h0 _ rfl).2; omega⟩)

set_option maxRecDepth 100000 in
set_option maxHeartbeats 4000000 in
theorem t_X4_init_84 {C : Cxt} {G : Glb} (hC : CX C G RX4 cX4_init 2 none 3 120 705 52) (hin : (cF C).name = "<init>") (P84 : Nat → Nat → Prop) (hm84 : ∀ a b a2 b2 : Nat, a ≤ a2 → b ≤ b2 → P84 a2 b2 → P84 a b) (k84 : Nat → Int32 → Mem → Option ((Unit) × Mem)) (hk84 : ∀ (a0 : Nat) (x84_1 : Int32) (σ : Mem) (kc ks : Nat), P84 kc ks → Wo C G 2 (QP C G rvU 120 705) (k84 a0 x84_1 σ) σ kc ks 84 [(0, va_rf (some a0)), (1, .int x84_1)] []) (a0 : Nat) (x84_1 : Int32) (σ : Mem) (kc ks : Nat) (hN : kc + 102 ≤ 120 ∧ ks + 595 ≤ 705) (hP84 : P84 (kc + 2) (ks + 12)) : Wo C G 2 (QP C G rvU 120 705) (b_X4_init_84 k84 a0 x84_1 σ) σ kc ks 84 [(0, va_rf (some a0)), (1, .int x84_1)] [] := by
  unfold b_X4_init_84
  refine r_iloadn hC 1 rfl rfl dX4_init_84 ?_
  refine r_aloadn hC 0 (r := (some a0)) rfl rfl dX4_init_85 ?_
  refine r_gR hC (k := 0) (r := (some a0)) cls_4 (by decide) rfl q_187 (Or.inl rfl) dX4_init_86 (fun r26 => ?_)
  refine r_aL hC (r := r26) dX4_init_89 (fun v27 => ?_)
  refine r_icmp_ge hC 112 dX4_init_90 (by decide) ?_ ?_
  · refine r_iconst hC (0) rfl dX4_init_112 ?_
    refine r_istoren hC [(1, .int 0), (0, va_rf (some a0))] (i := 1) rfl (by decide) rfl dX4_init_113 ?_
    refine Wo.sub [1, 0] rfl ?_
    exact u_X4_init_114 hC hin 17 a0 0 σ _ _ (fun m e => by cases e; exact ⟨by omega, by omega⟩)
  · refine r_aloadn hC 0 (r := (some a0)) rfl rfl dX4_init_93 ?_
    refine r_gR hC (k := 0) (r := (some a0)) cls_4 (by decide) rfl q_187 (Or.inl rfl) dX4_init_94 (fun r48 => ?_)
    refine r_iloadn hC 1 rfl rfl dX4_init_97 ?_
    refine r_nO hC cls_2 q_33 q_131 q_16 ⟨by omega, by omega⟩ dX4_init_98 (fun σ49 r50 => ?_)
    refine r_dup hC (cat_rf _) dX4_init_101 ?_
    refine call_IN hC (av := []) (st := [va_rf r50, .int x84_1, va_rf r48]) (r := r50) (ci := 2) (fun h9 => ct_X2_init hC.hl G h9 σ49) z_132 q_133 q_16 q_134 rfl yd_X2_init rfl ⟨Nat.le_of_ble_eq_true rfl, Nat.le_of_ble_eq_true rfl⟩ ⟨by omega, by omega⟩ rfl (by simp [cat_rf, cat_i, cat_j, cat_d, cat_a]) dX4_init_102 (fun σ52 => ?_)
    refine r_wR hC (t := 2) (r := r48) (v := r50) rfl rfl dX4_init_105 (fun σ54 => ?_)
    refine r_iinc hC 1 (fun w => [(1, .int w), (0, va_rf (some a0))]) 1 rfl (by decide) rfl (fun w => rfl) dX4_init_106 (fun v55 => ?_)
    refine r_goto hC 84 dX4_init_109 (by decide) ?_
    refine Wo.sub [1, 0] rfl ?_
    exact hk84 a0 v55 σ54 _ _ (hm84 _ _ _ _ (by omega) (by omega) hP84)

set_option maxRecDepth 100000 in
set_option maxHeartbeats 4000000 in
theorem u_X4_init_84 {C : Cxt} {G : Glb} (hC : CX C G RX4 cX4_init 2 none 3 120 705 52) (hin : (cF C).name = "<init>") : ∀ (n : Nat) (a0 : Nat) (x84_1 : Int32) (σ : Mem) (kc ks : Nat), (∀ m, n = m + 1 → (kc + m * 2 + 102 ≤ 120 ∧ ks + m * 12 + 595 ≤ 705)) → Wo C G 2 (QP C G rvU 120 705) (l_X4_init_84  n a0 x84_1 σ) σ kc ks 84 [(0, va_rf (some a0)), (1, .int x84_1)] [] := by
  intro n
  induction n with
  | zero => intro a0 x84_1 σ kc ks h0; exact Wo.none
  | succ n ih =>
    intro a0 x84_1 σ kc ks h0
    exact t_X4_init_84 hC hin (fun kc ks => (∀ m, n = m + 1 → (kc + m * 2 + 102 ≤ 120 ∧ ks + m * 12 + 595 ≤ 705))) (fun a b a2 b2 h1 h2 h m e => ⟨by have := (h m e).1; omega, by have := (h m e).2; omega⟩) (l_X4_init_84  n) ih a0 x84_1 σ kc ks ⟨by have := (h0 n rfl).1; omega, by have := (h0 n rfl).2; omega⟩ (fun m e => by
      subst e
      exact ⟨by have := (h0 _ rfl).1; omega, by have := (h0 _ rfl).2; omega⟩)

set_option maxRecDepth 100000 in
set_option maxHeartbeats 4000000 in
theorem t_X4_init_0 {C : Cxt} {G : Glb} (hC : CX C G RX4 cX4_init 2 none 3 120 705 52) (hin : (cF C).name = "<init>") (a0 : Nat) (σ : Mem) (kc ks : Nat) (hN : kc + 120 ≤ 120 ∧ ks + 705 ≤ 705) : Wo C G 2 (QP C G rvU 120 705) (b_X4_init_0  a0 σ) σ kc ks 0 [(0, va_rf (some a0))] [] := by
  unfold b_X4_init_0
  refine r_aloadn hC 0 (r := (some a0)) rfl rfl dX4_init_0 ?_
  refine call_O hC (r := (some a0)) q_30 q_31 q_32 (Nat.le_of_ble_eq_true rfl) (Nat.le_of_ble_eq_true rfl) dX4_init_1 ?_
  refine r_aloadn hC 0 (r := (some a0)) rfl rfl dX4_init_4 ?_
  refine r_iconst hC (4) rfl dX4_init_5 ?_
  refine r_nQ hC (t := 2) (b := 4) rfl rfl q_33 hC.hK.1.2.2.2.1 (Nat.le_of_ble_eq_true rfl) ⟨by omega, by omega⟩ dX4_init_6 (fun σ1 r2 => ?_)
  refine r_pR hC (k := 0) (r := (some a0)) (v := r2) cls_4 (by decide) rfl (Or.inr ⟨_, rfl⟩) q_187 (Or.inl rfl) (Or.inr ⟨rfl, hin, rfl⟩) dX4_init_9 (fun σ3 => ?_)
  refine r_aloadn hC 0 (r := (some a0)) rfl rfl dX4_init_12 ?_
  refine r_iconst hC (0) rfl dX4_init_13 ?_
  refine r_pI hC (k := 1) (r := (some a0)) cls_4 (by decide) rfl q_188 (Or.inl rfl) (Or.inl rfl) dX4_init_14 (fun σ4 => ?_)
  refine r_aloadn hC 0 (r := (some a0)) rfl rfl dX4_init_17 ?_
  refine r_iconst hC (0) rfl dX4_init_18 ?_
  refine r_pI hC (k := 2) (r := (some a0)) cls_4 (by decide) rfl q_189 (Or.inl rfl) (Or.inl rfl) dX4_init_19 (fun σ5 => ?_)
  refine r_aloadn hC 0 (r := (some a0)) rfl rfl dX4_init_22 ?_
  refine r_bipush hC (16) (by decide) dX4_init_23 ?_
  refine r_nQ hC (t := 1) (b := 16) rfl rfl q_35 hC.hK.1.2.2.1 (Nat.le_of_ble_eq_true rfl) ⟨by omega, by omega⟩ dX4_init_25 (fun σ6 r7 => ?_)
  refine r_pR hC (k := 3) (r := (some a0)) (v := r7) cls_4 (by decide) rfl (Or.inr ⟨_, rfl⟩) q_190 (Or.inl rfl) (Or.inr ⟨rfl, hin, rfl⟩) dX4_init_28 (fun σ8 => ?_)
  refine r_aloadn hC 0 (r := (some a0)) rfl rfl dX4_init_31 ?_
  refine r_iconst hC (0) rfl dX4_init_32 ?_
  refine r_pI hC (k := 4) (r := (some a0)) cls_4 (by decide) rfl q_191 (Or.inl rfl) (Or.inl rfl) dX4_init_33 (fun σ9 => ?_)
  refine r_aloadn hC 0 (r := (some a0)) rfl rfl dX4_init_36 ?_
  refine r_nO hC cls_1 q_35 q_37 q_14 ⟨by omega, by omega⟩ dX4_init_37 (fun σ10 r11 => ?_)
  refine r_dup hC (cat_rf _) dX4_init_40 ?_
  refine call_IN hC (av := []) (st := [va_rf r11, va_rf (some a0)]) (r := r11) (ci := 1) (fun h9 => ct_X1_init hC.hl G h9 σ10) z_38 q_39 q_14 q_40 rfl yd_X1_init rfl ⟨Nat.le_of_ble_eq_true rfl, Nat.le_of_ble_eq_true rfl⟩ ⟨by omega, by omega⟩ rfl (by simp [cat_rf, cat_i, cat_j, cat_d, cat_a]) dX4_init_41 (fun σ13 => ?_)
  refine r_pR hC (k := 5) (r := (some a0)) (v := r11) cls_4 (by decide) rfl (Or.inl ⟨_, rfl⟩) q_192 (Or.inl rfl) (Or.inr ⟨rfl, hin, rfl⟩) dX4_init_44 (fun σ15 => ?_)
  refine r_aloadn hC 0 (r := (some a0)) rfl rfl dX4_init_47 ?_
  refine r_iconst hC (3) rfl dX4_init_48 ?_
  refine r_nQ hC (t := 3) (b := 3) rfl rfl q_129 hC.hK.1.2.2.2.2 (Nat.le_of_ble_eq_true rfl) ⟨by omega, by omega⟩ dX4_init_49 (fun σ16 r17 => ?_)
  refine r_pR hC (k := 6) (r := (some a0)) (v := r17) cls_4 (by decide) rfl (Or.inr ⟨_, rfl⟩) q_193 (Or.inl rfl) (Or.inr ⟨rfl, hin, rfl⟩) dX4_init_52 (fun σ18 => ?_)
  refine r_aloadn hC 0 (r := (some a0)) rfl rfl dX4_init_55 ?_
  refine r_iconst hC (4) rfl dX4_init_56 ?_
  refine r_nA hC (t := 0) (b := 4) (ty := .int) rfl rfl rfl (fun _ h => va_nm_int h) q_63 (Nat.le_of_ble_eq_true rfl) ⟨by omega, by omega⟩ dX4_init_57 (fun σ19 r20 => ?_)
  refine r_pR hC (k := 7) (r := (some a0)) (v := r20) cls_4 (by decide) rfl (Or.inr ⟨_, rfl⟩) q_194 (Or.inl rfl) (Or.inr ⟨rfl, hin, rfl⟩) dX4_init_59 (fun σ21 => ?_)
  refine r_aloadn hC 0 (r := (some a0)) rfl rfl dX4_init_62 ?_
  refine r_iconst hC (0) rfl dX4_init_63 ?_
  refine r_pI hC (k := 8) (r := (some a0)) cls_4 (by decide) rfl q_195 (Or.inl rfl) (Or.inl rfl) dX4_init_64 (fun σ22 => ?_)
  refine r_aloadn hC 0 (r := (some a0)) rfl rfl dX4_init_67 ?_
  refine r_iconst hC (0) rfl dX4_init_68 ?_
  refine r_pI hC (k := 9) (r := (some a0)) cls_4 (by decide) rfl q_196 (Or.inl rfl) (Or.inl rfl) dX4_init_69 (fun σ23 => ?_)
  refine r_aloadn hC 0 (r := (some a0)) rfl rfl dX4_init_72 ?_
  refine r_iconst hC (0) rfl dX4_init_73 ?_
  refine r_pI hC (k := 10) (r := (some a0)) cls_4 (by decide) rfl q_197 (Or.inl rfl) (Or.inl rfl) dX4_init_74 (fun σ24 => ?_)
  refine r_aloadn hC 0 (r := (some a0)) rfl rfl dX4_init_77 ?_
  refine r_iconst hC (0) rfl dX4_init_78 ?_
  refine r_pI hC (k := 11) (r := (some a0)) cls_4 (by decide) rfl q_198 (Or.inl rfl) (Or.inl rfl) dX4_init_79 (fun σ25 => ?_)
  refine r_iconst hC (0) rfl dX4_init_82 ?_
  refine r_istoren hC [(1, .int 0), (0, va_rf (some a0))] (i := 1) rfl (by decide) rfl dX4_init_83 ?_
  refine Wo.sub [1, 0] rfl ?_
  exact u_X4_init_84 hC hin 5 a0 0 σ25 _ _ (fun m e => by cases e; exact ⟨by omega, by omega⟩)

set_option maxRecDepth 100000 in
set_option maxHeartbeats 4000000 in
theorem ct_X4_init {l : Launch} (hl : l.stackTraces = false) (G : Glb) (a0 : Nat) (σ : Mem) : Ct rvU l yX4_init (Cond.code yX4_init cX4_init 2 none :: uW) { frames := 3, cells := 120, slots := 705, locals := 52 } 120 705 G [.ref a0] σ (f_X4_init a0 σ) := by
  refine Ct.of hl (by decide +kernel) (Nat.le_of_ble_eq_true rfl) (fun C hC hin => ?_)
  have e : lv_args 0 [.ref a0] = [(0, .ref a0)] := rfl
  rw [e]
  exact t_X4_init_0 hC hin a0 σ 0 0 ⟨Nat.le_of_ble_eq_true rfl, Nat.le_of_ble_eq_true rfl⟩

noncomputable def b_X4_requireArgument_10 (σ : Mem) : Option ((Unit) × Mem) :=
none

noncomputable def b_X4_requireArgument_0 (p0 : Int32) (p1 : Int32) (p2 : Int32) (σ : Mem) : Option ((Unit) × Mem) :=
if p0 < p1 then
b_X4_requireArgument_10 σ
else
if p0 ≤ p2 then
some ((), σ)
else
b_X4_requireArgument_10 σ

noncomputable def f_X4_requireArgument (p0 : Int32) (p1 : Int32) (p2 : Int32) (σ : Mem) : Option ((Unit) × Mem) := b_X4_requireArgument_0 p0 p1 p2 σ
set_option maxRecDepth 100000 in
set_option maxHeartbeats 4000000 in
theorem t_X4_requireArgument_10 {C : Cxt} {G : Glb} (hC : CX C G RX4 cX4_requireArgument 3 none 0 0 0 0) (σ : Mem) : Wo C G 3 (QP C G rvU 0 0) (b_X4_requireArgument_10   σ) σ 0 0 10 [] [] := by
  unfold b_X4_requireArgument_10
  exact Wo.none

set_option maxRecDepth 100000 in
set_option maxHeartbeats 4000000 in
theorem t_X4_requireArgument_0 {C : Cxt} {G : Glb} (hC : CX C G RX4 cX4_requireArgument 3 none 0 0 0 0) (p0 : Int32) (p1 : Int32) (p2 : Int32) (σ : Mem) : Wo C G 3 (QP C G rvU 0 0) (b_X4_requireArgument_0  p0 p1 p2 σ) σ 0 0 0 [(0, .int p0), (1, .int p1), (2, .int p2)] [] := by
  unfold b_X4_requireArgument_0
  refine r_iloadn hC 0 rfl rfl dX4_requireArgument_0 ?_
  refine r_iloadn hC 1 rfl rfl dX4_requireArgument_1 ?_
  refine r_icmp_lt hC 10 dX4_requireArgument_2 (by decide) ?_ ?_
  · refine Wo.sub [] rfl ?_
    exact t_X4_requireArgument_10 hC  σ
  · refine r_iloadn hC 0 rfl rfl dX4_requireArgument_5 ?_
    refine r_iloadn hC 2 rfl rfl dX4_requireArgument_6 ?_
    refine r_icmp_le hC 18 dX4_requireArgument_7 (by decide) ?_ ?_
    · exact e_U hC ⟨Nat.zero_le _, Nat.zero_le _⟩ dX4_requireArgument_18
    · refine Wo.sub [] rfl ?_
      exact t_X4_requireArgument_10 hC  σ

set_option maxRecDepth 100000 in
set_option maxHeartbeats 4000000 in
theorem ct_X4_requireArgument {l : Launch} (hl : l.stackTraces = false) (G : Glb) (p0 : Int32) (p1 : Int32) (p2 : Int32) (σ : Mem) : Ct rvU l yX4_requireArgument (Cond.code yX4_requireArgument cX4_requireArgument 3 none :: uW) { frames := 0, cells := 0, slots := 0, locals := 0 } 0 0 G [.int p0, .int p1, .int p2] σ (f_X4_requireArgument p0 p1 p2 σ) := by
  refine Ct.of hl (by decide +kernel) (Nat.le_of_ble_eq_true rfl) (fun C hC hin => ?_)
  have e : lv_args 0 [.int p0, .int p1, .int p2] = [(0, .int p0), (1, .int p1), (2, .int p2)] := rfl
  rw [e]
  exact t_X4_requireArgument_0 hC p0 p1 p2 σ

noncomputable def b_X4_requireState_0 (p0 : Int32) (σ : Mem) : Option ((Unit) × Mem) :=
if p0 = 0 then
none
else
some ((), σ)

noncomputable def f_X4_requireState (p0 : Int32) (σ : Mem) : Option ((Unit) × Mem) := b_X4_requireState_0 p0 σ
set_option maxRecDepth 100000 in
set_option maxHeartbeats 4000000 in
theorem t_X4_requireState_0 {C : Cxt} {G : Glb} (hC : CX C G RX4 cX4_requireState 1 none 0 0 0 0) (p0 : Int32) (σ : Mem) : Wo C G 1 (QP C G rvU 0 0) (b_X4_requireState_0  p0 σ) σ 0 0 0 [(0, .int p0)] [] := by
  unfold b_X4_requireState_0
  refine r_iloadn hC 0 rfl rfl dX4_requireState_0 ?_
  refine r_if_ne hC 12 dX4_requireState_1 (by decide) ?_ ?_
  · exact e_U hC ⟨Nat.zero_le _, Nat.zero_le _⟩ dX4_requireState_12
  · exact Wo.none

set_option maxRecDepth 100000 in
set_option maxHeartbeats 4000000 in
theorem ct_X4_requireState {l : Launch} (hl : l.stackTraces = false) (G : Glb) (p0 : Int32) (σ : Mem) : Ct rvU l yX4_requireState (Cond.code yX4_requireState cX4_requireState 1 none :: uW) { frames := 0, cells := 0, slots := 0, locals := 0 } 0 0 G [.int p0] σ (f_X4_requireState p0 σ) := by
  refine Ct.of hl (by decide +kernel) (Nat.le_of_ble_eq_true rfl) (fun C hC hin => ?_)
  have e : lv_args 0 [.int p0] = [(0, .int p0)] := rfl
  rw [e]
  exact t_X4_requireState_0 hC p0 σ

noncomputable def b_X4_section_26 (a0 : Nat) (x26_1 : Int32) (x26_2 : Int32) (y26_0 : Int32) (σ : Mem) : Option ((Int32) × Mem) :=
cl1 (f_X4_requireState y26_0 σ) fun u6 σ7 =>
gR 4 0 σ7 (some a0) fun r8 =>
gI 4 1 σ7 (some a0) fun v9 =>
aR 2 σ7 r8 v9 fun r10 =>
pI 2 0 σ7 r10 x26_1 fun σ11 =>
pI 2 1 σ11 r10 x26_2 fun σ12 =>
gI 4 1 σ12 (some a0) fun v13 =>
nm (v13 + 1) fun v14 =>
pI 4 1 σ12 (some a0) v14 fun σ15 =>
gI 4 1 σ15 (some a0) fun v16 =>
nm (v16 - 1) fun v17 =>
some (v17, σ15)

noncomputable def b_X4_section_0 (a0 : Nat) (p0 : Int32) (p1 : Int32) (σ : Mem) : Option ((Int32) × Mem) :=
cl1 (f_X4_requireArgument p0 1 9 σ) fun u1 σ2 =>
cl1 (f_X4_requireArgument p1 0 2 σ2) fun u3 σ4 =>
gI 4 1 σ4 (some a0) fun v5 =>
if 4 ≤ v5 then
b_X4_section_26 a0 p0 p1 0 σ4
else
b_X4_section_26 a0 p0 p1 1 σ4

noncomputable def f_X4_section (a0 : Nat) (p0 : Int32) (p1 : Int32) (σ : Mem) : Option ((Int32) × Mem) := b_X4_section_0 a0 p0 p1 σ
set_option maxRecDepth 100000 in
set_option maxHeartbeats 4000000 in
theorem t_X4_section_26 {C : Cxt} {G : Glb} (hC : CX C G RX4 cX4_section 4 (some .int) 1 0 0 22) (a0 : Nat) (x26_1 : Int32) (x26_2 : Int32) (y26_0 : Int32) (σ : Mem) : Wo C G 4 (QP C G rvI 0 0) (b_X4_section_26  a0 x26_1 x26_2 y26_0 σ) σ 0 0 26 [(0, va_rf (some a0)), (1, .int x26_1), (2, .int x26_2)] [.int y26_0] := by
  unfold b_X4_section_26
  refine call_S hC (av := [.int y26_0]) (st := []) (ct_X4_requireState hC.hl G y26_0 σ) q_294 q_295 q_13 q_296 yd_X4_requireState rfl ⟨Nat.le_of_ble_eq_true rfl, Nat.le_of_ble_eq_true rfl⟩ ⟨Nat.zero_le _, Nat.zero_le _⟩ rfl (Nat.le_of_ble_eq_true rfl) dX4_section_26 (fun u6 σ7 => ?_)
  show Wo _ _ _ _ _ _ _ _ _ _ []
  refine r_aloadn hC 0 (r := (some a0)) rfl rfl dX4_section_29 ?_
  refine r_gR hC (k := 0) (r := (some a0)) cls_4 (by decide) rfl q_187 (Or.inl rfl) dX4_section_30 (fun r8 => ?_)
  refine r_aloadn hC 0 (r := (some a0)) rfl rfl dX4_section_33 ?_
  refine r_gI hC (k := 1) (r := (some a0)) cls_4 (by decide) rfl q_188 (Or.inl rfl) dX4_section_34 (fun v9 => ?_)
  refine r_aR hC (t := 2) (r := r8) rfl rfl dX4_section_37 (fun r10 => ?_)
  refine r_astoren hC [(3, va_rf r10), (0, va_rf (some a0)), (1, .int x26_1), (2, .int x26_2)] (r := r10) (i := 3) rfl (by decide) rfl dX4_section_38 ?_
  refine r_aloadn hC 0 (r := r10) rfl rfl dX4_section_39 ?_
  refine r_iloadn hC 2 rfl rfl dX4_section_40 ?_
  refine r_pI hC (k := 0) (r := r10) cls_2 (by decide) rfl q_137 (Or.inl rfl) (Or.inl rfl) dX4_section_41 (fun σ11 => ?_)
  refine r_aloadn hC 0 (r := r10) rfl rfl dX4_section_44 ?_
  refine r_iloadn hC 3 rfl rfl dX4_section_45 ?_
  refine r_pI hC (k := 1) (r := r10) cls_2 (by decide) rfl q_139 (Or.inl rfl) (Or.inl rfl) dX4_section_46 (fun σ12 => ?_)
  refine r_aloadn hC 1 (r := (some a0)) rfl rfl dX4_section_49 ?_
  refine r_dup hC (cat_rf _) dX4_section_50 ?_
  refine r_gI hC (k := 1) (r := (some a0)) cls_4 (by decide) rfl q_188 (Or.inl rfl) dX4_section_51 (fun v13 => ?_)
  refine r_iconst hC (1) rfl dX4_section_54 ?_
  refine r_iadd hC dX4_section_55 (fun v14 => ?_)
  refine r_pI hC (k := 1) (r := (some a0)) cls_4 (by decide) rfl q_188 (Or.inl rfl) (Or.inl rfl) dX4_section_56 (fun σ15 => ?_)
  refine r_aloadn hC 1 (r := (some a0)) rfl rfl dX4_section_59 ?_
  refine r_gI hC (k := 1) (r := (some a0)) cls_4 (by decide) rfl q_188 (Or.inl rfl) dX4_section_60 (fun v16 => ?_)
  refine r_iconst hC (1) rfl dX4_section_63 ?_
  refine r_isub hC dX4_section_64 (fun v17 => ?_)
  exact e_I hC ⟨Nat.zero_le _, Nat.zero_le _⟩ dX4_section_65

set_option maxRecDepth 100000 in
set_option maxHeartbeats 4000000 in
theorem t_X4_section_0 {C : Cxt} {G : Glb} (hC : CX C G RX4 cX4_section 4 (some .int) 1 0 0 22) (a0 : Nat) (p0 : Int32) (p1 : Int32) (σ : Mem) : Wo C G 4 (QP C G rvI 0 0) (b_X4_section_0  a0 p0 p1 σ) σ 0 0 0 [(0, va_rf (some a0)), (1, .int p0), (2, .int p1)] [] := by
  unfold b_X4_section_0
  refine r_iloadn hC 1 rfl rfl dX4_section_0 ?_
  refine r_iconst hC (1) rfl dX4_section_1 ?_
  refine r_bipush hC (9) (by decide) dX4_section_2 ?_
  refine call_S hC (av := [.int p0, .int 1, .int 9]) (st := []) (ct_X4_requireArgument hC.hl G p0 1 9 σ) q_228 q_229 q_13 q_230 yd_X4_requireArgument rfl ⟨Nat.le_of_ble_eq_true rfl, Nat.le_of_ble_eq_true rfl⟩ ⟨Nat.zero_le _, Nat.zero_le _⟩ rfl (Nat.le_of_ble_eq_true rfl) dX4_section_4 (fun u1 σ2 => ?_)
  show Wo _ _ _ _ _ _ _ _ _ _ []
  refine r_iloadn hC 2 rfl rfl dX4_section_7 ?_
  refine r_iconst hC (0) rfl dX4_section_8 ?_
  refine r_iconst hC (2) rfl dX4_section_9 ?_
  refine call_S hC (av := [.int p1, .int 0, .int 2]) (st := []) (ct_X4_requireArgument hC.hl G p1 0 2 σ2) q_228 q_229 q_13 q_230 yd_X4_requireArgument rfl ⟨Nat.le_of_ble_eq_true rfl, Nat.le_of_ble_eq_true rfl⟩ ⟨Nat.zero_le _, Nat.zero_le _⟩ rfl (Nat.le_of_ble_eq_true rfl) dX4_section_10 (fun u3 σ4 => ?_)
  show Wo _ _ _ _ _ _ _ _ _ _ []
  refine r_aloadn hC 0 (r := (some a0)) rfl rfl dX4_section_13 ?_
  refine r_gI hC (k := 1) (r := (some a0)) cls_4 (by decide) rfl q_188 (Or.inl rfl) dX4_section_14 (fun v5 => ?_)
  refine r_iconst hC (4) rfl dX4_section_17 ?_
  refine r_icmp_ge hC 25 dX4_section_18 (by decide) ?_ ?_
  · refine r_iconst hC (0) rfl dX4_section_25 ?_
    exact t_X4_section_26 hC a0 p0 p1 0 σ4
  · refine r_iconst hC (1) rfl dX4_section_21 ?_
    refine r_goto hC 26 dX4_section_22 (by decide) ?_
    exact t_X4_section_26 hC a0 p0 p1 1 σ4

set_option maxRecDepth 100000 in
set_option maxHeartbeats 4000000 in
theorem ct_X4_section {l : Launch} (hl : l.stackTraces = false) (G : Glb) (a0 : Nat) (p0 : Int32) (p1 : Int32) (σ : Mem) : Ct rvI l yX4_section (Cond.code yX4_section cX4_section 4 (some .int) :: uW) { frames := 1, cells := 0, slots := 0, locals := 22 } 0 0 G [.ref a0, .int p0, .int p1] σ (f_X4_section a0 p0 p1 σ) := by
  refine Ct.of hl (by decide +kernel) (Nat.le_of_ble_eq_true rfl) (fun C hC hin => ?_)
  have e : lv_args 0 [.ref a0, .int p0, .int p1] = [(0, .ref a0), (1, .int p0), (2, .int p1)] := rfl
  rw [e]
  exact t_X4_section_0 hC a0 p0 p1 σ

noncomputable def b_X4_pass_46 (k27 : Nat → Int32 → Int32 → Int32 → Int32 → Int32 → Mem → Option ((Int32) × Mem)) (k46 : Nat → Int32 → Int32 → Int32 → Int32 → Int32 → Int32 → Mem → Option ((Int32) × Mem)) (a0 : Nat) (x46_1 : Int32) (x46_2 : Int32) (x46_3 : Int32) (x46_4 : Int32) (x46_5 : Int32) (x46_6 : Int32) (σ : Mem) : Option ((Int32) × Mem) :=
gI 4 1 σ (some a0) fun v10 =>
if v10 ≤ x46_6 then
nm (x46_5 + 1) fun v11 =>
k27 a0 x46_1 x46_2 x46_3 x46_4 v11 σ
else
gR 4 0 σ (some a0) fun r12 =>
aR 2 σ r12 x46_6 fun r13 =>
ob 2 σ r13 fun h16 => cl1 (f_X2_growDay h16 x46_1 x46_2 σ) fun v14 σ15 =>
nm (x46_4 + v14) fun v17 =>
nm (x46_6 + 1) fun v18 =>
k46 a0 x46_1 x46_2 x46_3 v17 x46_5 v18 σ15

noncomputable def l_X4_pass_46 (k27 : Nat → Int32 → Int32 → Int32 → Int32 → Int32 → Mem → Option ((Int32) × Mem)) (n : Nat) : Nat → Int32 → Int32 → Int32 → Int32 → Int32 → Int32 → Mem → Option ((Int32) × Mem) := itr (fun _ _ _ _ _ _ _ _ => none) (fun k => b_X4_pass_46 k27 k) n

noncomputable def b_X4_pass_27 (k27 : Nat → Int32 → Int32 → Int32 → Int32 → Int32 → Mem → Option ((Int32) × Mem)) (a0 : Nat) (x27_1 : Int32) (x27_2 : Int32) (x27_3 : Int32) (x27_4 : Int32) (x27_5 : Int32) (σ : Mem) : Option ((Int32) × Mem) :=
if x27_3 ≤ x27_5 then
some (x27_4, σ)
else
gI 4 2 σ (some a0) fun v7 =>
nm (v7 + 1) fun v8 =>
pI 4 2 σ (some a0) v8 fun σ9 =>
l_X4_pass_46 k27 40 a0 x27_1 x27_2 x27_3 x27_4 x27_5 0 σ9

noncomputable def l_X4_pass_27 (n : Nat) : Nat → Int32 → Int32 → Int32 → Int32 → Int32 → Mem → Option ((Int32) × Mem) := itr (fun _ _ _ _ _ _ _ => none) (fun k => b_X4_pass_27  k) n

noncomputable def b_X4_pass_0 (a0 : Nat) (p0 : Int32) (p1 : Int32) (p2 : Int32) (σ : Mem) : Option ((Int32) × Mem) :=
cl1 (f_X4_requireArgument p0 0 6 σ) fun u1 σ2 =>
cl1 (f_X4_requireArgument p1 0 6 σ2) fun u3 σ4 =>
cl1 (f_X4_requireArgument p2 1 30 σ4) fun u5 σ6 =>
l_X4_pass_27 40 a0 p0 p1 p2 0 0 σ6

noncomputable def f_X4_pass (a0 : Nat) (p0 : Int32) (p1 : Int32) (p2 : Int32) (σ : Mem) : Option ((Int32) × Mem) := b_X4_pass_0 a0 p0 p1 p2 σ
set_option maxRecDepth 100000 in
set_option maxHeartbeats 4000000 in
theorem t_X4_pass_46 {C : Cxt} {G : Glb} (hC : CX C G RX4 cX4_pass 7 (some .int) 3 0 0 60) (k27 : Nat → Int32 → Int32 → Int32 → Int32 → Int32 → Mem → Option ((Int32) × Mem)) (hk27 : ∀ (a0 : Nat) (x27_1 : Int32) (x27_2 : Int32) (x27_3 : Int32) (x27_4 : Int32) (x27_5 : Int32) (σ : Mem), Wo C G 7 (QP C G rvI 0 0) (k27 a0 x27_1 x27_2 x27_3 x27_4 x27_5 σ) σ 0 0 27 [(0, va_rf (some a0)), (1, .int x27_1), (2, .int x27_2), (3, .int x27_3), (4, .int x27_4), (5, .int x27_5)] []) (k46 : Nat → Int32 → Int32 → Int32 → Int32 → Int32 → Int32 → Mem → Option ((Int32) × Mem)) (hk46 : ∀ (a0 : Nat) (x46_1 : Int32) (x46_2 : Int32) (x46_3 : Int32) (x46_4 : Int32) (x46_5 : Int32) (x46_6 : Int32) (σ : Mem), Wo C G 7 (QP C G rvI 0 0) (k46 a0 x46_1 x46_2 x46_3 x46_4 x46_5 x46_6 σ) σ 0 0 46 [(0, va_rf (some a0)), (1, .int x46_1), (2, .int x46_2), (3, .int x46_3), (4, .int x46_4), (5, .int x46_5), (6, .int x46_6)] []) (a0 : Nat) (x46_1 : Int32) (x46_2 : Int32) (x46_3 : Int32) (x46_4 : Int32) (x46_5 : Int32) (x46_6 : Int32) (σ : Mem) : Wo C G 7 (QP C G rvI 0 0) (b_X4_pass_46 k27 k46 a0 x46_1 x46_2 x46_3 x46_4 x46_5 x46_6 σ) σ 0 0 46 [(0, va_rf (some a0)), (1, .int x46_1), (2, .int x46_2), (3, .int x46_3), (4, .int x46_4), (5, .int x46_5), (6, .int x46_6)] [] := by
  unfold b_X4_pass_46
  refine r_iload hC 6 rfl dX4_pass_46 ?_
  refine r_aloadn hC 0 (r := (some a0)) rfl rfl dX4_pass_48 ?_
  refine r_gI hC (k := 1) (r := (some a0)) cls_4 (by decide) rfl q_188 (Or.inl rfl) dX4_pass_49 (fun v10 => ?_)
  refine r_icmp_ge hC 78 dX4_pass_52 (by decide) ?_ ?_
  · refine r_iinc hC 5 (fun w => [(5, .int w), (0, va_rf (some a0)), (1, .int x46_1), (2, .int x46_2), (3, .int x46_3), (4, .int x46_4), (6, .int x46_6)]) 1 rfl (by decide) rfl (fun w => rfl) dX4_pass_78 (fun v11 => ?_)
    refine r_goto hC 27 dX4_pass_81 (by decide) ?_
    refine Wo.sub [1, 2, 3, 4, 5, 0] rfl ?_
    exact hk27 a0 x46_1 x46_2 x46_3 x46_4 v11 σ
  · refine r_iload hC 4 rfl dX4_pass_55 ?_
    refine r_aloadn hC 0 (r := (some a0)) rfl rfl dX4_pass_57 ?_
    refine r_gR hC (k := 0) (r := (some a0)) cls_4 (by decide) rfl q_187 (Or.inl rfl) dX4_pass_58 (fun r12 => ?_)
    refine r_iload hC 6 rfl dX4_pass_61 ?_
    refine r_aR hC (t := 2) (r := r12) rfl rfl dX4_pass_63 (fun r13 => ?_)
    refine r_iloadn hC 1 rfl rfl dX4_pass_64 ?_
    refine r_iloadn hC 2 rfl rfl dX4_pass_65 ?_
    refine call_V hC (av := [.int x46_1, .int x46_2]) (st := [.int x46_4]) (r := r13) (ci := 2) rfl rfl (fun h9 => ct_X2_growDay hC.hl G h9 x46_1 x46_2 σ) q_564 q_565 q_566 q_16 q_567 yd_X2_growDay rfl ⟨Nat.le_of_ble_eq_true rfl, Nat.le_of_ble_eq_true rfl⟩ ⟨Nat.zero_le _, Nat.zero_le _⟩ rfl (by simp [cat_rf, cat_i, cat_j, cat_d, cat_a]) dX4_pass_66 (fun v14 σ15 => ?_)
    show Wo _ _ _ _ _ _ _ _ _ _ [.int v14, .int x46_4]
    refine r_iadd hC dX4_pass_69 (fun v17 => ?_)
    refine r_istore hC [(4, .int v17), (0, va_rf (some a0)), (1, .int x46_1), (2, .int x46_2), (3, .int x46_3), (5, .int x46_5), (6, .int x46_6)] (i := 4) (by decide) rfl dX4_pass_70 ?_
    refine r_iinc hC 6 (fun w => [(6, .int w), (4, .int v17), (0, va_rf (some a0)), (1, .int x46_1), (2, .int x46_2), (3, .int x46_3), (5, .int x46_5)]) 1 rfl (by decide) rfl (fun w => rfl) dX4_pass_72 (fun v18 => ?_)
    refine r_goto hC 46 dX4_pass_75 (by decide) ?_
    refine Wo.sub [2, 3, 4, 5, 1, 6, 0] rfl ?_
    exact hk46 a0 x46_1 x46_2 x46_3 v17 x46_5 v18 σ15

set_option maxRecDepth 100000 in
set_option maxHeartbeats 4000000 in
theorem u_X4_pass_46 {C : Cxt} {G : Glb} (hC : CX C G RX4 cX4_pass 7 (some .int) 3 0 0 60) (k27 : Nat → Int32 → Int32 → Int32 → Int32 → Int32 → Mem → Option ((Int32) × Mem)) (hk27 : ∀ (a0 : Nat) (x27_1 : Int32) (x27_2 : Int32) (x27_3 : Int32) (x27_4 : Int32) (x27_5 : Int32) (σ : Mem), Wo C G 7 (QP C G rvI 0 0) (k27 a0 x27_1 x27_2 x27_3 x27_4 x27_5 σ) σ 0 0 27 [(0, va_rf (some a0)), (1, .int x27_1), (2, .int x27_2), (3, .int x27_3), (4, .int x27_4), (5, .int x27_5)] []) : ∀ (n : Nat) (a0 : Nat) (x46_1 : Int32) (x46_2 : Int32) (x46_3 : Int32) (x46_4 : Int32) (x46_5 : Int32) (x46_6 : Int32) (σ : Mem), Wo C G 7 (QP C G rvI 0 0) (l_X4_pass_46 k27 n a0 x46_1 x46_2 x46_3 x46_4 x46_5 x46_6 σ) σ 0 0 46 [(0, va_rf (some a0)), (1, .int x46_1), (2, .int x46_2), (3, .int x46_3), (4, .int x46_4), (5, .int x46_5), (6, .int x46_6)] [] := by
  intro n
  induction n with
  | zero => intro a0 x46_1 x46_2 x46_3 x46_4 x46_5 x46_6 σ; exact Wo.none
  | succ n ih => intro a0 x46_1 x46_2 x46_3 x46_4 x46_5 x46_6 σ; exact t_X4_pass_46 hC k27 hk27 (l_X4_pass_46 k27 n) ih a0 x46_1 x46_2 x46_3 x46_4 x46_5 x46_6 σ

set_option maxRecDepth 100000 in
set_option maxHeartbeats 4000000 in
theorem t_X4_pass_27 {C : Cxt} {G : Glb} (hC : CX C G RX4 cX4_pass 7 (some .int) 3 0 0 60) (k27 : Nat → Int32 → Int32 → Int32 → Int32 → Int32 → Mem → Option ((Int32) × Mem)) (hk27 : ∀ (a0 : Nat) (x27_1 : Int32) (x27_2 : Int32) (x27_3 : Int32) (x27_4 : Int32) (x27_5 : Int32) (σ : Mem), Wo C G 7 (QP C G rvI 0 0) (k27 a0 x27_1 x27_2 x27_3 x27_4 x27_5 σ) σ 0 0 27 [(0, va_rf (some a0)), (1, .int x27_1), (2, .int x27_2), (3, .int x27_3), (4, .int x27_4), (5, .int x27_5)] []) (a0 : Nat) (x27_1 : Int32) (x27_2 : Int32) (x27_3 : Int32) (x27_4 : Int32) (x27_5 : Int32) (σ : Mem) : Wo C G 7 (QP C G rvI 0 0) (b_X4_pass_27 k27 a0 x27_1 x27_2 x27_3 x27_4 x27_5 σ) σ 0 0 27 [(0, va_rf (some a0)), (1, .int x27_1), (2, .int x27_2), (3, .int x27_3), (4, .int x27_4), (5, .int x27_5)] [] := by
  unfold b_X4_pass_27
  refine r_iload hC 5 rfl dX4_pass_27 ?_
  refine r_iloadn hC 3 rfl rfl dX4_pass_29 ?_
  refine r_icmp_ge hC 84 dX4_pass_30 (by decide) ?_ ?_
  · refine r_iload hC 4 rfl dX4_pass_84 ?_
    exact e_I hC ⟨Nat.zero_le _, Nat.zero_le _⟩ dX4_pass_86
  · refine r_aloadn hC 0 (r := (some a0)) rfl rfl dX4_pass_33 ?_
    refine r_dup hC (cat_rf _) dX4_pass_34 ?_
    refine r_gI hC (k := 2) (r := (some a0)) cls_4 (by decide) rfl q_189 (Or.inl rfl) dX4_pass_35 (fun v7 => ?_)
    refine r_iconst hC (1) rfl dX4_pass_38 ?_
    refine r_iadd hC dX4_pass_39 (fun v8 => ?_)
    refine r_pI hC (k := 2) (r := (some a0)) cls_4 (by decide) rfl q_189 (Or.inl rfl) (Or.inl rfl) dX4_pass_40 (fun σ9 => ?_)
    refine r_iconst hC (0) rfl dX4_pass_43 ?_
    refine r_istore hC [(6, .int 0), (0, va_rf (some a0)), (1, .int x27_1), (2, .int x27_2), (3, .int x27_3), (4, .int x27_4), (5, .int x27_5)] (i := 6) (by decide) rfl dX4_pass_44 ?_
    refine Wo.sub [1, 2, 3, 4, 5, 6, 0] rfl ?_
    exact u_X4_pass_46 hC k27 hk27 40 a0 x27_1 x27_2 x27_3 x27_4 x27_5 0 σ9

set_option maxRecDepth 100000 in
set_option maxHeartbeats 4000000 in
theorem u_X4_pass_27 {C : Cxt} {G : Glb} (hC : CX C G RX4 cX4_pass 7 (some .int) 3 0 0 60) : ∀ (n : Nat) (a0 : Nat) (x27_1 : Int32) (x27_2 : Int32) (x27_3 : Int32) (x27_4 : Int32) (x27_5 : Int32) (σ : Mem), Wo C G 7 (QP C G rvI 0 0) (l_X4_pass_27  n a0 x27_1 x27_2 x27_3 x27_4 x27_5 σ) σ 0 0 27 [(0, va_rf (some a0)), (1, .int x27_1), (2, .int x27_2), (3, .int x27_3), (4, .int x27_4), (5, .int x27_5)] [] := by
  intro n
  induction n with
  | zero => intro a0 x27_1 x27_2 x27_3 x27_4 x27_5 σ; exact Wo.none
  | succ n ih => intro a0 x27_1 x27_2 x27_3 x27_4 x27_5 σ; exact t_X4_pass_27 hC (l_X4_pass_27  n) ih a0 x27_1 x27_2 x27_3 x27_4 x27_5 σ

set_option maxRecDepth 100000 in
set_option maxHeartbeats 4000000 in
theorem t_X4_pass_0 {C : Cxt} {G : Glb} (hC : CX C G RX4 cX4_pass 7 (some .int) 3 0 0 60) (a0 : Nat) (p0 : Int32) (p1 : Int32) (p2 : Int32) (σ : Mem) : Wo C G 7 (QP C G rvI 0 0) (b_X4_pass_0  a0 p0 p1 p2 σ) σ 0 0 0 [(0, va_rf (some a0)), (1, .int p0), (2, .int p1), (3, .int p2)] [] := by
  unfold b_X4_pass_0
  refine r_iloadn hC 1 rfl rfl dX4_pass_0 ?_
  refine r_iconst hC (0) rfl dX4_pass_1 ?_
  refine r_bipush hC (6) (by decide) dX4_pass_2 ?_
  refine call_S hC (av := [.int p0, .int 0, .int 6]) (st := []) (ct_X4_requireArgument hC.hl G p0 0 6 σ) q_228 q_229 q_13 q_230 yd_X4_requireArgument rfl ⟨Nat.le_of_ble_eq_true rfl, Nat.le_of_ble_eq_true rfl⟩ ⟨Nat.zero_le _, Nat.zero_le _⟩ rfl (Nat.le_of_ble_eq_true rfl) dX4_pass_4 (fun u1 σ2 => ?_)
  show Wo _ _ _ _ _ _ _ _ _ _ []
  refine r_iloadn hC 2 rfl rfl dX4_pass_7 ?_
  refine r_iconst hC (0) rfl dX4_pass_8 ?_
  refine r_bipush hC (6) (by decide) dX4_pass_9 ?_
  refine call_S hC (av := [.int p1, .int 0, .int 6]) (st := []) (ct_X4_requireArgument hC.hl G p1 0 6 σ2) q_228 q_229 q_13 q_230 yd_X4_requireArgument rfl ⟨Nat.le_of_ble_eq_true rfl, Nat.le_of_ble_eq_true rfl⟩ ⟨Nat.zero_le _, Nat.zero_le _⟩ rfl (Nat.le_of_ble_eq_true rfl) dX4_pass_11 (fun u3 σ4 => ?_)
  show Wo _ _ _ _ _ _ _ _ _ _ []
  refine r_iloadn hC 3 rfl rfl dX4_pass_14 ?_
  refine r_iconst hC (1) rfl dX4_pass_15 ?_
  refine r_bipush hC (30) (by decide) dX4_pass_16 ?_
  refine call_S hC (av := [.int p2, .int 1, .int 30]) (st := []) (ct_X4_requireArgument hC.hl G p2 1 30 σ4) q_228 q_229 q_13 q_230 yd_X4_requireArgument rfl ⟨Nat.le_of_ble_eq_true rfl, Nat.le_of_ble_eq_true rfl⟩ ⟨Nat.zero_le _, Nat.zero_le _⟩ rfl (Nat.le_of_ble_eq_true rfl) dX4_pass_18 (fun u5 σ6 => ?_)
  show Wo _ _ _ _ _ _ _ _ _ _ []
  refine r_iconst hC (0) rfl dX4_pass_21 ?_
  refine r_istore hC [(4, .int 0), (0, va_rf (some a0)), (1, .int p0), (2, .int p1), (3, .int p2)] (i := 4) (by decide) rfl dX4_pass_22 ?_
  refine r_iconst hC (0) rfl dX4_pass_24 ?_
  refine r_istore hC [(5, .int 0), (4, .int 0), (0, va_rf (some a0)), (1, .int p0), (2, .int p1), (3, .int p2)] (i := 5) (by decide) rfl dX4_pass_25 ?_
  refine Wo.sub [2, 3, 4, 5, 1, 0] rfl ?_
  exact u_X4_pass_27 hC 40 a0 p0 p1 p2 0 0 σ6

set_option maxRecDepth 100000 in
set_option maxHeartbeats 4000000 in
theorem ct_X4_pass {l : Launch} (hl : l.stackTraces = false) (G : Glb) (a0 : Nat) (p0 : Int32) (p1 : Int32) (p2 : Int32) (σ : Mem) : Ct rvI l yX4_pass (Cond.code yX4_pass cX4_pass 7 (some .int) :: uW) { frames := 3, cells := 0, slots := 0, locals := 60 } 0 0 G [.ref a0, .int p0, .int p1, .int p2] σ (f_X4_pass a0 p0 p1 p2 σ) := by
  refine Ct.of hl (by decide +kernel) (Nat.le_of_ble_eq_true rfl) (fun C hC hin => ?_)
  have e : lv_args 0 [.ref a0, .int p0, .int p1, .int p2] = [(0, .ref a0), (1, .int p0), (2, .int p1), (3, .int p2)] := rfl
  rw [e]
  exact t_X4_pass_0 hC a0 p0 p1 p2 σ

noncomputable def b_X4_requireIndex_9 (σ : Mem) : Option ((Unit) × Mem) :=
none

noncomputable def b_X4_requireIndex_0 (p0 : Int32) (p1 : Int32) (σ : Mem) : Option ((Unit) × Mem) :=
if p0 < 0 then
b_X4_requireIndex_9 σ
else
if p0 < p1 then
some ((), σ)
else
b_X4_requireIndex_9 σ

noncomputable def f_X4_requireIndex (p0 : Int32) (p1 : Int32) (σ : Mem) : Option ((Unit) × Mem) := b_X4_requireIndex_0 p0 p1 σ
set_option maxRecDepth 100000 in
set_option maxHeartbeats 4000000 in
theorem t_X4_requireIndex_9 {C : Cxt} {G : Glb} (hC : CX C G RX4 cX4_requireIndex 2 none 0 0 0 0) (σ : Mem) : Wo C G 2 (QP C G rvU 0 0) (b_X4_requireIndex_9   σ) σ 0 0 9 [] [] := by
  unfold b_X4_requireIndex_9
  exact Wo.none

set_option maxRecDepth 100000 in
set_option maxHeartbeats 4000000 in
theorem t_X4_requireIndex_0 {C : Cxt} {G : Glb} (hC : CX C G RX4 cX4_requireIndex 2 none 0 0 0 0) (p0 : Int32) (p1 : Int32) (σ : Mem) : Wo C G 2 (QP C G rvU 0 0) (b_X4_requireIndex_0  p0 p1 σ) σ 0 0 0 [(0, .int p0), (1, .int p1)] [] := by
  unfold b_X4_requireIndex_0
  refine r_iloadn hC 0 rfl rfl dX4_requireIndex_0 ?_
  refine r_if_lt hC 9 dX4_requireIndex_1 (by decide) ?_ ?_
  · refine Wo.sub [] rfl ?_
    exact t_X4_requireIndex_9 hC  σ
  · refine r_iloadn hC 0 rfl rfl dX4_requireIndex_4 ?_
    refine r_iloadn hC 1 rfl rfl dX4_requireIndex_5 ?_
    refine r_icmp_lt hC 17 dX4_requireIndex_6 (by decide) ?_ ?_
    · exact e_U hC ⟨Nat.zero_le _, Nat.zero_le _⟩ dX4_requireIndex_17
    · refine Wo.sub [] rfl ?_
      exact t_X4_requireIndex_9 hC  σ

set_option maxRecDepth 100000 in
set_option maxHeartbeats 4000000 in
theorem ct_X4_requireIndex {l : Launch} (hl : l.stackTraces = false) (G : Glb) (p0 : Int32) (p1 : Int32) (σ : Mem) : Ct rvU l yX4_requireIndex (Cond.code yX4_requireIndex cX4_requireIndex 2 none :: uW) { frames := 0, cells := 0, slots := 0, locals := 0 } 0 0 G [.int p0, .int p1] σ (f_X4_requireIndex p0 p1 σ) := by
  refine Ct.of hl (by decide +kernel) (Nat.le_of_ble_eq_true rfl) (fun C hC hin => ?_)
  have e : lv_args 0 [.int p0, .int p1] = [(0, .int p0), (1, .int p1)] := rfl
  rw [e]
  exact t_X4_requireIndex_0 hC p0 p1 σ

noncomputable def b_X4_sectionAt_0 (a0 : Nat) (p0 : Int32) (σ : Mem) : Option ((Option Nat) × Mem) :=
gI 4 1 σ (some a0) fun v1 =>
cl1 (f_X4_requireIndex p0 v1 σ) fun u2 σ3 =>
gR 4 0 σ3 (some a0) fun r4 =>
aR 2 σ3 r4 p0 fun r5 =>
some (r5, σ3)

noncomputable def f_X4_sectionAt (a0 : Nat) (p0 : Int32) (σ : Mem) : Option ((Option Nat) × Mem) := b_X4_sectionAt_0 a0 p0 σ
set_option maxRecDepth 100000 in
set_option maxHeartbeats 4000000 in
theorem t_X4_sectionAt_0 {C : Cxt} {G : Glb} (hC : CX C G RX4 cX4_sectionAt 2 (some (.object "FlushGarden$Section")) 1 0 0 21) (a0 : Nat) (p0 : Int32) (σ : Mem) : Wo C G 2 (QP C G rvR 0 0) (b_X4_sectionAt_0  a0 p0 σ) σ 0 0 0 [(0, va_rf (some a0)), (1, .int p0)] [] := by
  unfold b_X4_sectionAt_0
  refine r_iloadn hC 1 rfl rfl dX4_sectionAt_0 ?_
  refine r_aloadn hC 0 (r := (some a0)) rfl rfl dX4_sectionAt_1 ?_
  refine r_gI hC (k := 1) (r := (some a0)) cls_4 (by decide) rfl q_188 (Or.inl rfl) dX4_sectionAt_2 (fun v1 => ?_)
  refine call_S hC (av := [.int p0, .int v1]) (st := []) (ct_X4_requireIndex hC.hl G p0 v1 σ) q_320 q_321 q_13 q_322 yd_X4_requireIndex rfl ⟨Nat.le_of_ble_eq_true rfl, Nat.le_of_ble_eq_true rfl⟩ ⟨Nat.zero_le _, Nat.zero_le _⟩ rfl (Nat.le_of_ble_eq_true rfl) dX4_sectionAt_5 (fun u2 σ3 => ?_)
  show Wo _ _ _ _ _ _ _ _ _ _ []
  refine r_aloadn hC 0 (r := (some a0)) rfl rfl dX4_sectionAt_8 ?_
  refine r_gR hC (k := 0) (r := (some a0)) cls_4 (by decide) rfl q_187 (Or.inl rfl) dX4_sectionAt_9 (fun r4 => ?_)
  refine r_iloadn hC 1 rfl rfl dX4_sectionAt_12 ?_
  refine r_aR hC (t := 2) (r := r4) rfl rfl dX4_sectionAt_13 (fun r5 => ?_)
  exact e_R hC (Or.inl ⟨_, rfl⟩) ⟨Nat.zero_le _, Nat.zero_le _⟩ dX4_sectionAt_14

set_option maxRecDepth 100000 in
set_option maxHeartbeats 4000000 in
theorem ct_X4_sectionAt {l : Launch} (hl : l.stackTraces = false) (G : Glb) (a0 : Nat) (p0 : Int32) (σ : Mem) : Ct rvR l yX4_sectionAt (Cond.code yX4_sectionAt cX4_sectionAt 2 (some (.object "FlushGarden$Section")) :: uW) { frames := 1, cells := 0, slots := 0, locals := 21 } 0 0 G [.ref a0, .int p0] σ (f_X4_sectionAt a0 p0 σ) := by
  refine Ct.of hl (by decide +kernel) (Nat.le_of_ble_eq_true rfl) (fun C hC hin => ?_)
  have e : lv_args 0 [.ref a0, .int p0] = [(0, .ref a0), (1, .int p0)] := rfl
  rw [e]
  exact t_X4_sectionAt_0 hC a0 p0 σ

noncomputable def b_X4_spray_0 (a0 : Nat) (p0 : Int32) (σ : Mem) : Option ((Int32) × Mem) :=
ob 4 σ (some a0) fun h3 => cl1 (f_X4_sectionAt h3 p0 σ) fun r1 σ2 =>
gI 2 4 σ2 r1 fun v4 =>
pI 2 4 σ2 r1 0 fun σ5 =>
pI 2 5 σ5 r1 3 fun σ6 =>
some (v4, σ6)

noncomputable def f_X4_spray (a0 : Nat) (p0 : Int32) (σ : Mem) : Option ((Int32) × Mem) := b_X4_spray_0 a0 p0 σ
set_option maxRecDepth 100000 in
set_option maxHeartbeats 4000000 in
theorem t_X4_spray_0 {C : Cxt} {G : Glb} (hC : CX C G RX4 cX4_spray 4 (some .int) 2 0 0 42) (a0 : Nat) (p0 : Int32) (σ : Mem) : Wo C G 4 (QP C G rvI 0 0) (b_X4_spray_0  a0 p0 σ) σ 0 0 0 [(0, va_rf (some a0)), (1, .int p0)] [] := by
  unfold b_X4_spray_0
  refine r_aloadn hC 0 (r := (some a0)) rfl rfl dX4_spray_0 ?_
  refine r_iloadn hC 1 rfl rfl dX4_spray_1 ?_
  refine call_V hC (av := [.int p0]) (st := []) (r := (some a0)) (ci := 4) rfl rfl (fun h9 => ct_X4_sectionAt hC.hl G h9 p0 σ) q_316 q_318 q_1 q_13 q_319 yd_X4_sectionAt rfl ⟨Nat.le_of_ble_eq_true rfl, Nat.le_of_ble_eq_true rfl⟩ ⟨Nat.zero_le _, Nat.zero_le _⟩ rfl (Nat.le_of_ble_eq_true rfl) dX4_spray_2 (fun r1 σ2 => ?_)
  show Wo _ _ _ _ _ _ _ _ _ _ [va_rf r1]
  refine r_astoren hC [(2, va_rf r1), (0, va_rf (some a0)), (1, .int p0)] (r := r1) (i := 2) rfl (by decide) rfl dX4_spray_5 ?_
  refine r_aloadn hC 0 (r := r1) rfl rfl dX4_spray_6 ?_
  refine r_gI hC (k := 4) (r := r1) cls_2 (by decide) rfl q_145 (Or.inl rfl) dX4_spray_7 (fun v4 => ?_)
  refine r_istoren hC [(3, .int v4), (2, va_rf r1), (0, va_rf (some a0)), (1, .int p0)] (i := 3) rfl (by decide) (by simp [List.filter, cat_rf, cat_i, cat_j, cat_d, cat_a]) dX4_spray_10 ?_
  refine r_aloadn hC 1 (r := r1) rfl rfl dX4_spray_11 ?_
  refine r_iconst hC (0) rfl dX4_spray_12 ?_
  refine r_pI hC (k := 4) (r := r1) cls_2 (by decide) rfl q_145 (Or.inl rfl) (Or.inl rfl) dX4_spray_13 (fun σ5 => ?_)
  refine r_aloadn hC 1 (r := r1) rfl rfl dX4_spray_16 ?_
  refine r_iconst hC (3) rfl dX4_spray_17 ?_
  refine r_pI hC (k := 5) (r := r1) cls_2 (by decide) rfl q_147 (Or.inl rfl) (Or.inl rfl) dX4_spray_18 (fun σ6 => ?_)
  refine r_iloadn hC 0 rfl rfl dX4_spray_21 ?_
  exact e_I hC ⟨Nat.zero_le _, Nat.zero_le _⟩ dX4_spray_22

set_option maxRecDepth 100000 in
set_option maxHeartbeats 4000000 in
theorem ct_X4_spray {l : Launch} (hl : l.stackTraces = false) (G : Glb) (a0 : Nat) (p0 : Int32) (σ : Mem) : Ct rvI l yX4_spray (Cond.code yX4_spray cX4_spray 4 (some .int) :: uW) { frames := 2, cells := 0, slots := 0, locals := 42 } 0 0 G [.ref a0, .int p0] σ (f_X4_spray a0 p0 σ) := by
  refine Ct.of hl (by decide +kernel) (Nat.le_of_ble_eq_true rfl) (fun C hC hin => ?_)
  have e : lv_args 0 [.ref a0, .int p0] = [(0, .ref a0), (1, .int p0)] := rfl
  rw [e]
  exact t_X4_spray_0 hC a0 p0 σ

noncomputable def b_X4_newLot_14 (a0 : Nat) (y14_0 : Int32) (σ : Mem) : Option ((Option Nat) × Mem) :=
cl1 (f_X4_requireState y14_0 σ) fun u2 σ3 =>
gR 4 3 σ3 (some a0) fun r4 =>
gI 4 4 σ3 (some a0) fun v5 =>
aR 1 σ3 r4 v5 fun r6 =>
gI 4 4 σ3 (some a0) fun v7 =>
nm (v7 + 1) fun v8 =>
pI 4 4 σ3 (some a0) v8 fun σ9 =>
some (r6, σ9)

noncomputable def b_X4_newLot_0 (a0 : Nat) (σ : Mem) : Option ((Option Nat) × Mem) :=
gI 4 4 σ (some a0) fun v1 =>
if 16 ≤ v1 then
b_X4_newLot_14 a0 0 σ
else
b_X4_newLot_14 a0 1 σ

noncomputable def f_X4_newLot (a0 : Nat) (σ : Mem) : Option ((Option Nat) × Mem) := b_X4_newLot_0 a0 σ
set_option maxRecDepth 100000 in
set_option maxHeartbeats 4000000 in
theorem t_X4_newLot_14 {C : Cxt} {G : Glb} (hC : CX C G RX4 cX4_newLot 2 (some (.object "FlushGarden$Lot")) 1 0 0 20) (a0 : Nat) (y14_0 : Int32) (σ : Mem) : Wo C G 2 (QP C G rvR 0 0) (b_X4_newLot_14  a0 y14_0 σ) σ 0 0 14 [(0, va_rf (some a0))] [.int y14_0] := by
  unfold b_X4_newLot_14
  refine call_S hC (av := [.int y14_0]) (st := []) (ct_X4_requireState hC.hl G y14_0 σ) q_294 q_295 q_13 q_296 yd_X4_requireState rfl ⟨Nat.le_of_ble_eq_true rfl, Nat.le_of_ble_eq_true rfl⟩ ⟨Nat.zero_le _, Nat.zero_le _⟩ rfl (Nat.le_of_ble_eq_true rfl) dX4_newLot_14 (fun u2 σ3 => ?_)
  show Wo _ _ _ _ _ _ _ _ _ _ []
  refine r_aloadn hC 0 (r := (some a0)) rfl rfl dX4_newLot_17 ?_
  refine r_gR hC (k := 3) (r := (some a0)) cls_4 (by decide) rfl q_190 (Or.inl rfl) dX4_newLot_18 (fun r4 => ?_)
  refine r_aloadn hC 0 (r := (some a0)) rfl rfl dX4_newLot_21 ?_
  refine r_gI hC (k := 4) (r := (some a0)) cls_4 (by decide) rfl q_191 (Or.inl rfl) dX4_newLot_22 (fun v5 => ?_)
  refine r_aR hC (t := 1) (r := r4) rfl rfl dX4_newLot_25 (fun r6 => ?_)
  refine r_astoren hC [(1, va_rf r6), (0, va_rf (some a0))] (r := r6) (i := 1) rfl (by decide) rfl dX4_newLot_26 ?_
  refine r_aloadn hC 1 (r := (some a0)) rfl rfl dX4_newLot_27 ?_
  refine r_dup hC (cat_rf _) dX4_newLot_28 ?_
  refine r_gI hC (k := 4) (r := (some a0)) cls_4 (by decide) rfl q_191 (Or.inl rfl) dX4_newLot_29 (fun v7 => ?_)
  refine r_iconst hC (1) rfl dX4_newLot_32 ?_
  refine r_iadd hC dX4_newLot_33 (fun v8 => ?_)
  refine r_pI hC (k := 4) (r := (some a0)) cls_4 (by decide) rfl q_191 (Or.inl rfl) (Or.inl rfl) dX4_newLot_34 (fun σ9 => ?_)
  refine r_aloadn hC 0 (r := r6) rfl rfl dX4_newLot_37 ?_
  exact e_R hC (Or.inl ⟨_, rfl⟩) ⟨Nat.zero_le _, Nat.zero_le _⟩ dX4_newLot_38

set_option maxRecDepth 100000 in
set_option maxHeartbeats 4000000 in
theorem t_X4_newLot_0 {C : Cxt} {G : Glb} (hC : CX C G RX4 cX4_newLot 2 (some (.object "FlushGarden$Lot")) 1 0 0 20) (a0 : Nat) (σ : Mem) : Wo C G 2 (QP C G rvR 0 0) (b_X4_newLot_0  a0 σ) σ 0 0 0 [(0, va_rf (some a0))] [] := by
  unfold b_X4_newLot_0
  refine r_aloadn hC 0 (r := (some a0)) rfl rfl dX4_newLot_0 ?_
  refine r_gI hC (k := 4) (r := (some a0)) cls_4 (by decide) rfl q_191 (Or.inl rfl) dX4_newLot_1 (fun v1 => ?_)
  refine r_bipush hC (16) (by decide) dX4_newLot_4 ?_
  refine r_icmp_ge hC 13 dX4_newLot_6 (by decide) ?_ ?_
  · refine r_iconst hC (0) rfl dX4_newLot_13 ?_
    exact t_X4_newLot_14 hC a0 0 σ
  · refine r_iconst hC (1) rfl dX4_newLot_9 ?_
    refine r_goto hC 14 dX4_newLot_10 (by decide) ?_
    exact t_X4_newLot_14 hC a0 1 σ

set_option maxRecDepth 100000 in
set_option maxHeartbeats 4000000 in
theorem ct_X4_newLot {l : Launch} (hl : l.stackTraces = false) (G : Glb) (a0 : Nat) (σ : Mem) : Ct rvR l yX4_newLot (Cond.code yX4_newLot cX4_newLot 2 (some (.object "FlushGarden$Lot")) :: uW) { frames := 1, cells := 0, slots := 0, locals := 20 } 0 0 G [.ref a0] σ (f_X4_newLot a0 σ) := by
  refine Ct.of hl (by decide +kernel) (Nat.le_of_ble_eq_true rfl) (fun C hC hin => ?_)
  have e : lv_args 0 [.ref a0] = [(0, .ref a0)] := rfl
  rw [e]
  exact t_X4_newLot_0 hC a0 σ

noncomputable def b_X4_pluck_228 (a0 : Nat) (x228_3 : Int32) (x228_9 : (Option Nat)) (y228_0 : Int32) (y228_1 : (Option Nat)) (σ : Mem) : Option ((Int32) × Mem) :=
pB 1 11 σ y228_1 y228_0 fun σ54 =>
gI 4 8 σ54 (some a0) fun v55 =>
nm (2 * x228_3) fun v56 =>
nm (v55 - v56) fun v57 =>
pI 4 8 σ54 (some a0) v57 fun σ58 =>
gI 4 11 σ58 (some a0) fun v59 =>
gI 1 1 σ58 x228_9 fun v60 =>
nm (v59 + v60) fun v61 =>
pI 4 11 σ58 (some a0) v61 fun σ62 =>
gI 4 4 σ62 (some a0) fun v63 =>
nm (v63 - 1) fun v64 =>
some (v64, σ62)

noncomputable def b_X4_pluck_109 (a0 : Nat) (x109_1 : Int32) (x109_3 : Int32) (x109_4 : (Option Nat)) (x109_6 : Int32) (x109_7 : Int32) (x109_8 : Int32) (y109_0 : Int32) (σ : Mem) : Option ((Int32) × Mem) :=
cl1 (f_X4_requireState y109_0 σ) fun u22 σ23 =>
ob 4 σ23 (some a0) fun h26 => cl1 (f_X4_newLot h26 σ23) fun r24 σ25 =>
gI 2 6 σ25 x109_4 fun v27 =>
nm (v27 - x109_6) fun v28 =>
pI 2 6 σ25 x109_4 v28 fun σ29 =>
gR 2 7 σ29 x109_4 fun r30 =>
aI σ29 r30 3 fun v31 =>
nm (v31 - x109_7) fun v32 =>
wI σ29 r30 3 v32 fun σ33 =>
gR 2 7 σ33 x109_4 fun r34 =>
aI σ33 r34 2 fun v35 =>
nm (v35 - x109_8) fun v36 =>
wI σ33 r34 2 v36 fun σ37 =>
pI 1 0 σ37 r24 0 fun σ38 =>
nm (3 * x109_8) fun v39 =>
pI 1 2 σ38 r24 v39 fun σ40 =>
nm (5 * x109_6) fun v41 =>
nm (4 * x109_7) fun v42 =>
nm (v41 + v42) fun v43 =>
gI 1 2 σ40 r24 fun v44 =>
nm (v43 + v44) fun v45 =>
pI 1 1 σ40 r24 v45 fun σ46 =>
gR 1 13 σ46 r24 fun r47 =>
gI 1 1 σ46 r24 fun v48 =>
wI σ46 r47 x109_1 v48 fun σ49 =>
gI 1 1 σ49 r24 fun v50 =>
nm (3 * v50) fun v51 =>
pI 1 3 σ49 r24 v51 fun σ52 =>
gI 2 5 σ52 x109_4 fun v53 =>
if v53 ≤ 0 then
b_X4_pluck_228 a0 x109_3 r24 0 r24 σ52
else
b_X4_pluck_228 a0 x109_3 r24 1 r24 σ52

noncomputable def b_X4_pluck_71 (a0 : Nat) (x71_1 : Int32) (x71_3 : Int32) (x71_4 : (Option Nat)) (x71_5 : Int32) (x71_6 : Int32) (y71_0 : Int32) (σ : Mem) : Option ((Int32) × Mem) :=
nm (x71_5 - x71_6) fun v15 =>
nm (v15 - y71_0) fun v16 =>
gR 2 7 σ x71_4 fun r17 =>
aI σ r17 2 fun v18 =>
nm (if v18 < v16 then v18 else v16) fun v19 =>
nm (x71_6 + y71_0) fun v20 =>
nm (v20 + v19) fun v21 =>
if v21 ≤ 0 then
b_X4_pluck_109 a0 x71_1 x71_3 x71_4 x71_6 y71_0 v19 0 σ
else
b_X4_pluck_109 a0 x71_1 x71_3 x71_4 x71_6 y71_0 v19 1 σ

noncomputable def b_X4_pluck_45 (a0 : Nat) (x45_1 : Int32) (x45_2 : Int32) (x45_3 : Int32) (x45_4 : (Option Nat)) (x45_5 : Int32) (y45_0 : Int32) (σ : Mem) : Option ((Int32) × Mem) :=
if 2 ≤ x45_2 then
nm (x45_5 - y45_0) fun v11 =>
gR 2 7 σ x45_4 fun r12 =>
aI σ r12 3 fun v13 =>
nm (if v13 < v11 then v13 else v11) fun v14 =>
b_X4_pluck_71 a0 x45_1 x45_3 x45_4 x45_5 y45_0 v14 σ
else
b_X4_pluck_71 a0 x45_1 x45_3 x45_4 x45_5 y45_0 0 σ

noncomputable def b_X4_pluck_0 (a0 : Nat) (p0 : Int32) (p1 : Int32) (p2 : Int32) (σ : Mem) : Option ((Int32) × Mem) :=
ob 4 σ (some a0) fun h3 => cl1 (f_X4_sectionAt h3 p0 σ) fun r1 σ2 =>
cl1 (f_X4_requireArgument p1 1 3 σ2) fun u4 σ5 =>
cl1 (f_X4_requireArgument p2 1 9 σ5) fun u6 σ7 =>
nm (8 * p2) fun v8 =>
if 3 ≤ p1 then
gI 2 6 σ7 r1 fun v9 =>
nm (if v9 < v8 then v9 else v8) fun v10 =>
b_X4_pluck_45 a0 p0 p1 p2 r1 v8 v10 σ7
else
b_X4_pluck_45 a0 p0 p1 p2 r1 v8 0 σ7

noncomputable def f_X4_pluck (a0 : Nat) (p0 : Int32) (p1 : Int32) (p2 : Int32) (σ : Mem) : Option ((Int32) × Mem) := b_X4_pluck_0 a0 p0 p1 p2 σ
set_option maxRecDepth 100000 in
set_option maxHeartbeats 4000000 in
theorem t_X4_pluck_228 {C : Cxt} {G : Glb} (hC : CX C G RX4 cX4_pluck 10 (some .int) 2 0 0 42) (a0 : Nat) (x228_3 : Int32) (x228_9 : (Option Nat)) (y228_0 : Int32) (y228_1 : (Option Nat)) (σ : Mem) : Wo C G 10 (QP C G rvI 0 0) (b_X4_pluck_228  a0 x228_3 x228_9 y228_0 y228_1 σ) σ 0 0 228 [(0, va_rf (some a0)), (3, .int x228_3), (9, va_rf x228_9)] [.int y228_0, va_rf y228_1] := by
  unfold b_X4_pluck_228
  refine r_pB hC (k := 11) (r := y228_1) cls_1 (by decide) rfl q_87 (Or.inl rfl) (Or.inl rfl) dX4_pluck_228 (fun σ54 => ?_)
  refine r_aloadn hC 0 (r := (some a0)) rfl rfl dX4_pluck_231 ?_
  refine r_dup hC (cat_rf _) dX4_pluck_232 ?_
  refine r_gI hC (k := 8) (r := (some a0)) cls_4 (by decide) rfl q_195 (Or.inl rfl) dX4_pluck_233 (fun v55 => ?_)
  refine r_iconst hC (2) rfl dX4_pluck_236 ?_
  refine r_iloadn hC 1 rfl rfl dX4_pluck_237 ?_
  refine r_imul hC dX4_pluck_238 (fun v56 => ?_)
  refine r_isub hC dX4_pluck_239 (fun v57 => ?_)
  refine r_pI hC (k := 8) (r := (some a0)) cls_4 (by decide) rfl q_195 (Or.inl rfl) (Or.inl rfl) dX4_pluck_240 (fun σ58 => ?_)
  refine r_aloadn hC 0 (r := (some a0)) rfl rfl dX4_pluck_243 ?_
  refine r_dup hC (cat_rf _) dX4_pluck_244 ?_
  refine r_gI hC (k := 11) (r := (some a0)) cls_4 (by decide) rfl q_198 (Or.inl rfl) dX4_pluck_245 (fun v59 => ?_)
  refine r_aload hC 2 (r := x228_9) rfl dX4_pluck_248 ?_
  refine r_gI hC (k := 1) (r := x228_9) cls_1 (by decide) rfl q_67 (Or.inl rfl) dX4_pluck_250 (fun v60 => ?_)
  refine r_iadd hC dX4_pluck_253 (fun v61 => ?_)
  refine r_pI hC (k := 11) (r := (some a0)) cls_4 (by decide) rfl q_198 (Or.inl rfl) (Or.inl rfl) dX4_pluck_254 (fun σ62 => ?_)
  refine r_aloadn hC 0 (r := (some a0)) rfl rfl dX4_pluck_257 ?_
  refine r_gI hC (k := 4) (r := (some a0)) cls_4 (by decide) rfl q_191 (Or.inl rfl) dX4_pluck_258 (fun v63 => ?_)
  refine r_iconst hC (1) rfl dX4_pluck_261 ?_
  refine r_isub hC dX4_pluck_262 (fun v64 => ?_)
  exact e_I hC ⟨Nat.zero_le _, Nat.zero_le _⟩ dX4_pluck_263

set_option maxRecDepth 100000 in
set_option maxHeartbeats 4000000 in
theorem t_X4_pluck_109 {C : Cxt} {G : Glb} (hC : CX C G RX4 cX4_pluck 10 (some .int) 2 0 0 42) (a0 : Nat) (x109_1 : Int32) (x109_3 : Int32) (x109_4 : (Option Nat)) (x109_6 : Int32) (x109_7 : Int32) (x109_8 : Int32) (y109_0 : Int32) (σ : Mem) : Wo C G 10 (QP C G rvI 0 0) (b_X4_pluck_109  a0 x109_1 x109_3 x109_4 x109_6 x109_7 x109_8 y109_0 σ) σ 0 0 109 [(0, va_rf (some a0)), (1, .int x109_1), (3, .int x109_3), (4, va_rf x109_4), (6, .int x109_6), (7, .int x109_7), (8, .int x109_8)] [.int y109_0] := by
  unfold b_X4_pluck_109
  refine call_S hC (av := [.int y109_0]) (st := []) (ct_X4_requireState hC.hl G y109_0 σ) q_294 q_295 q_13 q_296 yd_X4_requireState rfl ⟨Nat.le_of_ble_eq_true rfl, Nat.le_of_ble_eq_true rfl⟩ ⟨Nat.zero_le _, Nat.zero_le _⟩ rfl (Nat.le_of_ble_eq_true rfl) dX4_pluck_109 (fun u22 σ23 => ?_)
  show Wo _ _ _ _ _ _ _ _ _ _ []
  refine r_aloadn hC 0 (r := (some a0)) rfl rfl dX4_pluck_112 ?_
  refine call_V hC (av := []) (st := []) (r := (some a0)) (ci := 4) rfl rfl (fun h9 => ct_X4_newLot hC.hl G h9 σ23) q_345 q_347 q_2 q_13 q_348 yd_X4_newLot rfl ⟨Nat.le_of_ble_eq_true rfl, Nat.le_of_ble_eq_true rfl⟩ ⟨Nat.zero_le _, Nat.zero_le _⟩ rfl (Nat.le_of_ble_eq_true rfl) dX4_pluck_113 (fun r24 σ25 => ?_)
  show Wo _ _ _ _ _ _ _ _ _ _ [va_rf r24]
  refine r_astore hC [(9, va_rf r24), (0, va_rf (some a0)), (1, .int x109_1), (3, .int x109_3), (4, va_rf x109_4), (6, .int x109_6), (7, .int x109_7), (8, .int x109_8)] (r := r24) (i := 9) (by decide) rfl dX4_pluck_116 ?_
  refine r_aload hC 4 (r := x109_4) rfl dX4_pluck_118 ?_
  refine r_dup hC (cat_rf _) dX4_pluck_120 ?_
  refine r_gI hC (k := 6) (r := x109_4) cls_2 (by decide) rfl q_149 (Or.inl rfl) dX4_pluck_121 (fun v27 => ?_)
  refine r_iload hC 5 rfl dX4_pluck_124 ?_
  refine r_isub hC dX4_pluck_126 (fun v28 => ?_)
  refine r_pI hC (k := 6) (r := x109_4) cls_2 (by decide) rfl q_149 (Or.inl rfl) (Or.inl rfl) dX4_pluck_127 (fun σ29 => ?_)
  refine r_aload hC 4 (r := x109_4) rfl dX4_pluck_130 ?_
  refine r_gR hC (k := 7) (r := x109_4) cls_2 (by decide) rfl q_151 (Or.inl rfl) dX4_pluck_132 (fun r30 => ?_)
  refine r_iconst hC (3) rfl dX4_pluck_135 ?_
  refine r_dup2 hC rfl (cat_rf _) dX4_pluck_136 ?_
  refine r_aI hC (r := r30) dX4_pluck_137 (fun v31 => ?_)
  refine r_iload hC 6 rfl dX4_pluck_138 ?_
  refine r_isub hC dX4_pluck_140 (fun v32 => ?_)
  refine r_wI hC (r := r30) dX4_pluck_141 (fun σ33 => ?_)
  refine r_aload hC 4 (r := x109_4) rfl dX4_pluck_142 ?_
  refine r_gR hC (k := 7) (r := x109_4) cls_2 (by decide) rfl q_151 (Or.inl rfl) dX4_pluck_144 (fun r34 => ?_)
  refine r_iconst hC (2) rfl dX4_pluck_147 ?_
  refine r_dup2 hC rfl (cat_rf _) dX4_pluck_148 ?_
  refine r_aI hC (r := r34) dX4_pluck_149 (fun v35 => ?_)
  refine r_iload hC 7 rfl dX4_pluck_150 ?_
  refine r_isub hC dX4_pluck_152 (fun v36 => ?_)
  refine r_wI hC (r := r34) dX4_pluck_153 (fun σ37 => ?_)
  refine r_aload hC 0 (r := r24) rfl dX4_pluck_154 ?_
  refine r_iconst hC (0) rfl dX4_pluck_156 ?_
  refine r_pI hC (k := 0) (r := r24) cls_1 (by decide) rfl q_65 (Or.inl rfl) (Or.inl rfl) dX4_pluck_157 (fun σ38 => ?_)
  refine r_aload hC 0 (r := r24) rfl dX4_pluck_160 ?_
  refine r_iconst hC (3) rfl dX4_pluck_162 ?_
  refine r_iload hC 7 rfl dX4_pluck_163 ?_
  refine r_imul hC dX4_pluck_165 (fun v39 => ?_)
  refine r_pI hC (k := 2) (r := r24) cls_1 (by decide) rfl q_69 (Or.inl rfl) (Or.inl rfl) dX4_pluck_166 (fun σ40 => ?_)
  refine r_aload hC 0 (r := r24) rfl dX4_pluck_169 ?_
  refine r_iconst hC (5) rfl dX4_pluck_171 ?_
  refine r_iload hC 5 rfl dX4_pluck_172 ?_
  refine r_imul hC dX4_pluck_174 (fun v41 => ?_)
  refine r_iconst hC (4) rfl dX4_pluck_175 ?_
  refine r_iload hC 6 rfl dX4_pluck_176 ?_
  refine r_imul hC dX4_pluck_178 (fun v42 => ?_)
  refine r_iadd hC dX4_pluck_179 (fun v43 => ?_)
  refine r_aload hC 0 (r := r24) rfl dX4_pluck_180 ?_
  refine r_gI hC (k := 2) (r := r24) cls_1 (by decide) rfl q_69 (Or.inl rfl) dX4_pluck_182 (fun v44 => ?_)
  refine r_iadd hC dX4_pluck_185 (fun v45 => ?_)
  refine r_pI hC (k := 1) (r := r24) cls_1 (by decide) rfl q_67 (Or.inl rfl) (Or.inl rfl) dX4_pluck_186 (fun σ46 => ?_)
  refine r_aload hC 0 (r := r24) rfl dX4_pluck_189 ?_
  refine r_gR hC (k := 13) (r := r24) cls_1 (by decide) rfl q_91 (Or.inl rfl) dX4_pluck_191 (fun r47 => ?_)
  refine r_iloadn hC 2 rfl rfl dX4_pluck_194 ?_
  refine r_aload hC 0 (r := r24) rfl dX4_pluck_195 ?_
  refine r_gI hC (k := 1) (r := r24) cls_1 (by decide) rfl q_67 (Or.inl rfl) dX4_pluck_197 (fun v48 => ?_)
  refine r_wI hC (r := r47) dX4_pluck_200 (fun σ49 => ?_)
  refine r_aload hC 0 (r := r24) rfl dX4_pluck_201 ?_
  refine r_iconst hC (3) rfl dX4_pluck_203 ?_
  refine r_aload hC 0 (r := r24) rfl dX4_pluck_204 ?_
  refine r_gI hC (k := 1) (r := r24) cls_1 (by decide) rfl q_67 (Or.inl rfl) dX4_pluck_206 (fun v50 => ?_)
  refine r_imul hC dX4_pluck_209 (fun v51 => ?_)
  refine r_pI hC (k := 3) (r := r24) cls_1 (by decide) rfl q_71 (Or.inl rfl) (Or.inl rfl) dX4_pluck_210 (fun σ52 => ?_)
  refine r_aload hC 0 (r := r24) rfl dX4_pluck_213 ?_
  refine r_aload hC 4 (r := x109_4) rfl dX4_pluck_215 ?_
  refine r_gI hC (k := 5) (r := x109_4) cls_2 (by decide) rfl q_147 (Or.inl rfl) dX4_pluck_217 (fun v53 => ?_)
  refine r_if_le hC 227 dX4_pluck_220 (by decide) ?_ ?_
  · refine r_iconst hC (0) rfl dX4_pluck_227 ?_
    refine Wo.sub [1, 3, 0] rfl ?_
    exact t_X4_pluck_228 hC a0 x109_3 r24 0 r24 σ52
  · refine r_iconst hC (1) rfl dX4_pluck_223 ?_
    refine r_goto hC 228 dX4_pluck_224 (by decide) ?_
    refine Wo.sub [1, 3, 0] rfl ?_
    exact t_X4_pluck_228 hC a0 x109_3 r24 1 r24 σ52

set_option maxRecDepth 100000 in
set_option maxHeartbeats 4000000 in
theorem t_X4_pluck_71 {C : Cxt} {G : Glb} (hC : CX C G RX4 cX4_pluck 10 (some .int) 2 0 0 42) (a0 : Nat) (x71_1 : Int32) (x71_3 : Int32) (x71_4 : (Option Nat)) (x71_5 : Int32) (x71_6 : Int32) (y71_0 : Int32) (σ : Mem) : Wo C G 10 (QP C G rvI 0 0) (b_X4_pluck_71  a0 x71_1 x71_3 x71_4 x71_5 x71_6 y71_0 σ) σ 0 0 71 [(0, va_rf (some a0)), (1, .int x71_1), (3, .int x71_3), (4, va_rf x71_4), (5, .int x71_5), (6, .int x71_6)] [.int y71_0] := by
  unfold b_X4_pluck_71
  refine r_istore hC [(7, .int y71_0), (0, va_rf (some a0)), (1, .int x71_1), (3, .int x71_3), (4, va_rf x71_4), (5, .int x71_5), (6, .int x71_6)] (i := 7) (by decide) rfl dX4_pluck_71 ?_
  refine r_iload hC 5 rfl dX4_pluck_73 ?_
  refine r_iload hC 6 rfl dX4_pluck_75 ?_
  refine r_isub hC dX4_pluck_77 (fun v15 => ?_)
  refine r_iload hC 0 rfl dX4_pluck_78 ?_
  refine r_isub hC dX4_pluck_80 (fun v16 => ?_)
  refine r_aload hC 4 (r := x71_4) rfl dX4_pluck_81 ?_
  refine r_gR hC (k := 7) (r := x71_4) cls_2 (by decide) rfl q_151 (Or.inl rfl) dX4_pluck_83 (fun r17 => ?_)
  refine r_iconst hC (2) rfl dX4_pluck_86 ?_
  refine r_aI hC (r := r17) dX4_pluck_87 (fun v18 => ?_)
  refine r_min hC q_342 q_343 q_24 q_344 (Nat.le_of_ble_eq_true rfl) (Nat.le_of_ble_eq_true rfl) ⟨Nat.zero_le _, Nat.zero_le _⟩ dX4_pluck_88 (fun v19 => ?_)
  refine r_istore hC [(8, .int v19), (7, .int y71_0), (0, va_rf (some a0)), (1, .int x71_1), (3, .int x71_3), (4, va_rf x71_4), (5, .int x71_5), (6, .int x71_6)] (i := 8) (by decide) rfl dX4_pluck_91 ?_
  refine r_iload hC 7 rfl dX4_pluck_93 ?_
  refine r_iload hC 1 rfl dX4_pluck_95 ?_
  refine r_iadd hC dX4_pluck_97 (fun v20 => ?_)
  refine r_iload hC 0 rfl dX4_pluck_98 ?_
  refine r_iadd hC dX4_pluck_100 (fun v21 => ?_)
  refine r_if_le hC 108 dX4_pluck_101 (by decide) ?_ ?_
  · refine r_iconst hC (0) rfl dX4_pluck_108 ?_
    refine Wo.sub [2, 3, 4, 5, 7, 1, 0] rfl ?_
    exact t_X4_pluck_109 hC a0 x71_1 x71_3 x71_4 x71_6 y71_0 v19 0 σ
  · refine r_iconst hC (1) rfl dX4_pluck_104 ?_
    refine r_goto hC 109 dX4_pluck_105 (by decide) ?_
    refine Wo.sub [2, 3, 4, 5, 7, 1, 0] rfl ?_
    exact t_X4_pluck_109 hC a0 x71_1 x71_3 x71_4 x71_6 y71_0 v19 1 σ

set_option maxRecDepth 100000 in
set_option maxHeartbeats 4000000 in
theorem t_X4_pluck_45 {C : Cxt} {G : Glb} (hC : CX C G RX4 cX4_pluck 10 (some .int) 2 0 0 42) (a0 : Nat) (x45_1 : Int32) (x45_2 : Int32) (x45_3 : Int32) (x45_4 : (Option Nat)) (x45_5 : Int32) (y45_0 : Int32) (σ : Mem) : Wo C G 10 (QP C G rvI 0 0) (b_X4_pluck_45  a0 x45_1 x45_2 x45_3 x45_4 x45_5 y45_0 σ) σ 0 0 45 [(0, va_rf (some a0)), (1, .int x45_1), (2, .int x45_2), (3, .int x45_3), (4, va_rf x45_4), (5, .int x45_5)] [.int y45_0] := by
  unfold b_X4_pluck_45
  refine r_istore hC [(6, .int y45_0), (0, va_rf (some a0)), (1, .int x45_1), (2, .int x45_2), (3, .int x45_3), (4, va_rf x45_4), (5, .int x45_5)] (i := 6) (by decide) rfl dX4_pluck_45 ?_
  refine r_iloadn hC 3 rfl rfl dX4_pluck_47 ?_
  refine r_iconst hC (2) rfl dX4_pluck_48 ?_
  refine r_icmp_ge hC 56 dX4_pluck_49 (by decide) ?_ ?_
  · refine r_iload hC 6 rfl dX4_pluck_56 ?_
    refine r_iload hC 0 rfl dX4_pluck_58 ?_
    refine r_isub hC dX4_pluck_60 (fun v11 => ?_)
    refine r_aload hC 5 (r := x45_4) rfl dX4_pluck_61 ?_
    refine r_gR hC (k := 7) (r := x45_4) cls_2 (by decide) rfl q_151 (Or.inl rfl) dX4_pluck_63 (fun r12 => ?_)
    refine r_iconst hC (3) rfl dX4_pluck_66 ?_
    refine r_aI hC (r := r12) dX4_pluck_67 (fun v13 => ?_)
    refine r_min hC q_342 q_343 q_24 q_344 (Nat.le_of_ble_eq_true rfl) (Nat.le_of_ble_eq_true rfl) ⟨Nat.zero_le _, Nat.zero_le _⟩ dX4_pluck_68 (fun v14 => ?_)
    refine Wo.sub [1, 2, 4, 5, 6, 0] rfl ?_
    exact t_X4_pluck_71 hC a0 x45_1 x45_3 x45_4 x45_5 y45_0 v14 σ
  · refine r_iconst hC (0) rfl dX4_pluck_52 ?_
    refine r_goto hC 71 dX4_pluck_53 (by decide) ?_
    refine Wo.sub [1, 2, 4, 5, 6, 0] rfl ?_
    exact t_X4_pluck_71 hC a0 x45_1 x45_3 x45_4 x45_5 y45_0 0 σ

set_option maxRecDepth 100000 in
set_option maxHeartbeats 4000000 in
theorem t_X4_pluck_0 {C : Cxt} {G : Glb} (hC : CX C G RX4 cX4_pluck 10 (some .int) 2 0 0 42) (a0 : Nat) (p0 : Int32) (p1 : Int32) (p2 : Int32) (σ : Mem) : Wo C G 10 (QP C G rvI 0 0) (b_X4_pluck_0  a0 p0 p1 p2 σ) σ 0 0 0 [(0, va_rf (some a0)), (1, .int p0), (2, .int p1), (3, .int p2)] [] := by
  unfold b_X4_pluck_0
  refine r_aloadn hC 0 (r := (some a0)) rfl rfl dX4_pluck_0 ?_
  refine r_iloadn hC 1 rfl rfl dX4_pluck_1 ?_
  refine call_V hC (av := [.int p0]) (st := []) (r := (some a0)) (ci := 4) rfl rfl (fun h9 => ct_X4_sectionAt hC.hl G h9 p0 σ) q_316 q_318 q_1 q_13 q_319 yd_X4_sectionAt rfl ⟨Nat.le_of_ble_eq_true rfl, Nat.le_of_ble_eq_true rfl⟩ ⟨Nat.zero_le _, Nat.zero_le _⟩ rfl (Nat.le_of_ble_eq_true rfl) dX4_pluck_2 (fun r1 σ2 => ?_)
  show Wo _ _ _ _ _ _ _ _ _ _ [va_rf r1]
  refine r_astore hC [(4, va_rf r1), (0, va_rf (some a0)), (1, .int p0), (2, .int p1), (3, .int p2)] (r := r1) (i := 4) (by decide) rfl dX4_pluck_5 ?_
  refine r_iloadn hC 3 rfl rfl dX4_pluck_7 ?_
  refine r_iconst hC (1) rfl dX4_pluck_8 ?_
  refine r_iconst hC (3) rfl dX4_pluck_9 ?_
  refine call_S hC (av := [.int p1, .int 1, .int 3]) (st := []) (ct_X4_requireArgument hC.hl G p1 1 3 σ2) q_228 q_229 q_13 q_230 yd_X4_requireArgument rfl ⟨Nat.le_of_ble_eq_true rfl, Nat.le_of_ble_eq_true rfl⟩ ⟨Nat.zero_le _, Nat.zero_le _⟩ rfl (Nat.le_of_ble_eq_true rfl) dX4_pluck_10 (fun u4 σ5 => ?_)
  show Wo _ _ _ _ _ _ _ _ _ _ []
  refine r_iloadn hC 4 rfl rfl dX4_pluck_13 ?_
  refine r_iconst hC (1) rfl dX4_pluck_14 ?_
  refine r_bipush hC (9) (by decide) dX4_pluck_15 ?_
  refine call_S hC (av := [.int p2, .int 1, .int 9]) (st := []) (ct_X4_requireArgument hC.hl G p2 1 9 σ5) q_228 q_229 q_13 q_230 yd_X4_requireArgument rfl ⟨Nat.le_of_ble_eq_true rfl, Nat.le_of_ble_eq_true rfl⟩ ⟨Nat.zero_le _, Nat.zero_le _⟩ rfl (Nat.le_of_ble_eq_true rfl) dX4_pluck_17 (fun u6 σ7 => ?_)
  show Wo _ _ _ _ _ _ _ _ _ _ []
  refine r_bipush hC (8) (by decide) dX4_pluck_20 ?_
  refine r_iloadn hC 4 rfl rfl dX4_pluck_22 ?_
  refine r_imul hC dX4_pluck_23 (fun v8 => ?_)
  refine r_istore hC [(5, .int v8), (4, va_rf r1), (0, va_rf (some a0)), (1, .int p0), (2, .int p1), (3, .int p2)] (i := 5) (by decide) (by simp [List.filter, cat_rf, cat_i, cat_j, cat_d, cat_a]) dX4_pluck_24 ?_
  refine r_iloadn hC 4 rfl rfl dX4_pluck_26 ?_
  refine r_iconst hC (3) rfl dX4_pluck_27 ?_
  refine r_icmp_ge hC 35 dX4_pluck_28 (by decide) ?_ ?_
  · refine r_iload hC 0 rfl dX4_pluck_35 ?_
    refine r_aload hC 1 (r := r1) rfl dX4_pluck_37 ?_
    refine r_gI hC (k := 6) (r := r1) cls_2 (by decide) rfl q_149 (Or.inl rfl) dX4_pluck_39 (fun v9 => ?_)
    refine r_min hC q_342 q_343 q_24 q_344 (Nat.le_of_ble_eq_true rfl) (Nat.le_of_ble_eq_true rfl) ⟨Nat.zero_le _, Nat.zero_le _⟩ dX4_pluck_42 (fun v10 => ?_)
    refine Wo.sub [2, 3, 4, 5, 1, 0] rfl ?_
    exact t_X4_pluck_45 hC a0 p0 p1 p2 r1 v8 v10 σ7
  · refine r_iconst hC (0) rfl dX4_pluck_31 ?_
    refine r_goto hC 45 dX4_pluck_32 (by decide) ?_
    refine Wo.sub [2, 3, 4, 5, 1, 0] rfl ?_
    exact t_X4_pluck_45 hC a0 p0 p1 p2 r1 v8 0 σ7

set_option maxRecDepth 100000 in
set_option maxHeartbeats 4000000 in
theorem ct_X4_pluck {l : Launch} (hl : l.stackTraces = false) (G : Glb) (a0 : Nat) (p0 : Int32) (p1 : Int32) (p2 : Int32) (σ : Mem) : Ct rvI l yX4_pluck (Cond.code yX4_pluck cX4_pluck 10 (some .int) :: uW) { frames := 2, cells := 0, slots := 0, locals := 42 } 0 0 G [.ref a0, .int p0, .int p1, .int p2] σ (f_X4_pluck a0 p0 p1 p2 σ) := by
  refine Ct.of hl (by decide +kernel) (Nat.le_of_ble_eq_true rfl) (fun C hC hin => ?_)
  have e : lv_args 0 [.ref a0, .int p0, .int p1, .int p2] = [(0, .ref a0), (1, .int p0), (2, .int p1), (3, .int p2)] := rfl
  rw [e]
  exact t_X4_pluck_0 hC a0 p0 p1 p2 σ

noncomputable def b_X4_lotAt_0 (a0 : Nat) (p0 : Int32) (σ : Mem) : Option ((Option Nat) × Mem) :=
gI 4 4 σ (some a0) fun v1 =>
cl1 (f_X4_requireIndex p0 v1 σ) fun u2 σ3 =>
gR 4 3 σ3 (some a0) fun r4 =>
aR 1 σ3 r4 p0 fun r5 =>
some (r5, σ3)

noncomputable def f_X4_lotAt (a0 : Nat) (p0 : Int32) (σ : Mem) : Option ((Option Nat) × Mem) := b_X4_lotAt_0 a0 p0 σ
set_option maxRecDepth 100000 in
set_option maxHeartbeats 4000000 in
theorem t_X4_lotAt_0 {C : Cxt} {G : Glb} (hC : CX C G RX4 cX4_lotAt 2 (some (.object "FlushGarden$Lot")) 1 0 0 21) (a0 : Nat) (p0 : Int32) (σ : Mem) : Wo C G 2 (QP C G rvR 0 0) (b_X4_lotAt_0  a0 p0 σ) σ 0 0 0 [(0, va_rf (some a0)), (1, .int p0)] [] := by
  unfold b_X4_lotAt_0
  refine r_iloadn hC 1 rfl rfl dX4_lotAt_0 ?_
  refine r_aloadn hC 0 (r := (some a0)) rfl rfl dX4_lotAt_1 ?_
  refine r_gI hC (k := 4) (r := (some a0)) cls_4 (by decide) rfl q_191 (Or.inl rfl) dX4_lotAt_2 (fun v1 => ?_)
  refine call_S hC (av := [.int p0, .int v1]) (st := []) (ct_X4_requireIndex hC.hl G p0 v1 σ) q_320 q_321 q_13 q_322 yd_X4_requireIndex rfl ⟨Nat.le_of_ble_eq_true rfl, Nat.le_of_ble_eq_true rfl⟩ ⟨Nat.zero_le _, Nat.zero_le _⟩ rfl (Nat.le_of_ble_eq_true rfl) dX4_lotAt_5 (fun u2 σ3 => ?_)
  show Wo _ _ _ _ _ _ _ _ _ _ []
  refine r_aloadn hC 0 (r := (some a0)) rfl rfl dX4_lotAt_8 ?_
  refine r_gR hC (k := 3) (r := (some a0)) cls_4 (by decide) rfl q_190 (Or.inl rfl) dX4_lotAt_9 (fun r4 => ?_)
  refine r_iloadn hC 1 rfl rfl dX4_lotAt_12 ?_
  refine r_aR hC (t := 1) (r := r4) rfl rfl dX4_lotAt_13 (fun r5 => ?_)
  exact e_R hC (Or.inl ⟨_, rfl⟩) ⟨Nat.zero_le _, Nat.zero_le _⟩ dX4_lotAt_14

set_option maxRecDepth 100000 in
set_option maxHeartbeats 4000000 in
theorem ct_X4_lotAt {l : Launch} (hl : l.stackTraces = false) (G : Glb) (a0 : Nat) (p0 : Int32) (σ : Mem) : Ct rvR l yX4_lotAt (Cond.code yX4_lotAt cX4_lotAt 2 (some (.object "FlushGarden$Lot")) :: uW) { frames := 1, cells := 0, slots := 0, locals := 21 } 0 0 G [.ref a0, .int p0] σ (f_X4_lotAt a0 p0 σ) := by
  refine Ct.of hl (by decide +kernel) (Nat.le_of_ble_eq_true rfl) (fun C hC hin => ?_)
  have e : lv_args 0 [.ref a0, .int p0] = [(0, .ref a0), (1, .int p0)] := rfl
  rw [e]
  exact t_X4_lotAt_0 hC a0 p0 σ

noncomputable def b_X4_wither_47 (k47 : Int32 → Int32 → (Option Nat) → Int32 → Mem → Option ((Int32) × Mem)) (x47_2 : Int32) (x47_3 : Int32) (x47_4 : (Option Nat)) (x47_5 : Int32) (σ : Mem) : Option ((Int32) × Mem) :=
if x47_2 ≤ x47_5 then
gI 1 3 σ x47_4 fun v11 =>
some (v11, σ)
else
gI 1 1 σ x47_4 fun v12 =>
gI 1 3 σ x47_4 fun v13 =>
gI 1 3 σ x47_4 fun v14 =>
nm (v14 * x47_3) fun v15 =>
nm (v15 + 9) fun v16 =>
dv v16 10 fun v17 =>
nm (v13 - v17) fun v18 =>
nm (if v12 < v18 then v18 else v12) fun v19 =>
pI 1 3 σ x47_4 v19 fun σ20 =>
gI 1 4 σ20 x47_4 fun v21 =>
nm (v21 + 1) fun v22 =>
pI 1 4 σ20 x47_4 v22 fun σ23 =>
nm (x47_5 + 1) fun v24 =>
k47 x47_2 x47_3 x47_4 v24 σ23

noncomputable def l_X4_wither_47 (n : Nat) : Int32 → Int32 → (Option Nat) → Int32 → Mem → Option ((Int32) × Mem) := itr (fun _ _ _ _ _ => none) (fun k => b_X4_wither_47  k) n

noncomputable def b_X4_wither_41 (x41_2 : Int32) (x41_3 : Int32) (x41_4 : (Option Nat)) (y41_0 : Int32) (σ : Mem) : Option ((Int32) × Mem) :=
cl1 (f_X4_requireState y41_0 σ) fun u9 σ10 =>
l_X4_wither_47 40 x41_2 x41_3 x41_4 0 σ10

noncomputable def b_X4_wither_40 (x40_2 : Int32) (x40_3 : Int32) (x40_4 : (Option Nat)) (σ : Mem) : Option ((Int32) × Mem) :=
b_X4_wither_41 x40_2 x40_3 x40_4 0 σ

noncomputable def b_X4_wither_0 (a0 : Nat) (p0 : Int32) (p1 : Int32) (p2 : Int32) (σ : Mem) : Option ((Int32) × Mem) :=
ob 4 σ (some a0) fun h3 => cl1 (f_X4_lotAt h3 p0 σ) fun r1 σ2 =>
cl1 (f_X4_requireArgument p1 1 20 σ2) fun u4 σ5 =>
cl1 (f_X4_requireArgument p2 1 3 σ5) fun u6 σ7 =>
gI 1 0 σ7 r1 fun v8 =>
if v8 = 0 then
gI 1 10 σ7 r1 fun v25 =>
if v25 = 0 then
b_X4_wither_41 p1 p2 r1 1 σ7
else
b_X4_wither_40 p1 p2 r1 σ7
else
b_X4_wither_40 p1 p2 r1 σ7

noncomputable def f_X4_wither (a0 : Nat) (p0 : Int32) (p1 : Int32) (p2 : Int32) (σ : Mem) : Option ((Int32) × Mem) := b_X4_wither_0 a0 p0 p1 p2 σ
set_option maxRecDepth 100000 in
set_option maxHeartbeats 4000000 in
theorem t_X4_wither_47 {C : Cxt} {G : Glb} (hC : CX C G RX4 cX4_wither 6 (some .int) 2 0 0 42) (k47 : Int32 → Int32 → (Option Nat) → Int32 → Mem → Option ((Int32) × Mem)) (hk47 : ∀ (x47_2 : Int32) (x47_3 : Int32) (x47_4 : (Option Nat)) (x47_5 : Int32) (σ : Mem), Wo C G 6 (QP C G rvI 0 0) (k47 x47_2 x47_3 x47_4 x47_5 σ) σ 0 0 47 [(2, .int x47_2), (3, .int x47_3), (4, va_rf x47_4), (5, .int x47_5)] []) (x47_2 : Int32) (x47_3 : Int32) (x47_4 : (Option Nat)) (x47_5 : Int32) (σ : Mem) : Wo C G 6 (QP C G rvI 0 0) (b_X4_wither_47 k47 x47_2 x47_3 x47_4 x47_5 σ) σ 0 0 47 [(2, .int x47_2), (3, .int x47_3), (4, va_rf x47_4), (5, .int x47_5)] [] := by
  unfold b_X4_wither_47
  refine r_iload hC 3 rfl dX4_wither_47 ?_
  refine r_iloadn hC 0 rfl rfl dX4_wither_49 ?_
  refine r_icmp_ge hC 102 dX4_wither_50 (by decide) ?_ ?_
  · refine r_aload hC 2 (r := x47_4) rfl dX4_wither_102 ?_
    refine r_gI hC (k := 3) (r := x47_4) cls_1 (by decide) rfl q_71 (Or.inl rfl) dX4_wither_104 (fun v11 => ?_)
    exact e_I hC ⟨Nat.zero_le _, Nat.zero_le _⟩ dX4_wither_107
  · refine r_aload hC 2 (r := x47_4) rfl dX4_wither_53 ?_
    refine r_aload hC 2 (r := x47_4) rfl dX4_wither_55 ?_
    refine r_gI hC (k := 1) (r := x47_4) cls_1 (by decide) rfl q_67 (Or.inl rfl) dX4_wither_57 (fun v12 => ?_)
    refine r_aload hC 2 (r := x47_4) rfl dX4_wither_60 ?_
    refine r_gI hC (k := 3) (r := x47_4) cls_1 (by decide) rfl q_71 (Or.inl rfl) dX4_wither_62 (fun v13 => ?_)
    refine r_aload hC 2 (r := x47_4) rfl dX4_wither_65 ?_
    refine r_gI hC (k := 3) (r := x47_4) cls_1 (by decide) rfl q_71 (Or.inl rfl) dX4_wither_67 (fun v14 => ?_)
    refine r_iloadn hC 1 rfl rfl dX4_wither_70 ?_
    refine r_imul hC dX4_wither_71 (fun v15 => ?_)
    refine r_bipush hC (9) (by decide) dX4_wither_72 ?_
    refine r_iadd hC dX4_wither_74 (fun v16 => ?_)
    refine r_bipush hC (10) (by decide) dX4_wither_75 ?_
    refine r_idiv hC dX4_wither_77 (fun v17 => ?_)
    refine r_isub hC dX4_wither_78 (fun v18 => ?_)
    refine r_max hC q_425 q_426 q_24 q_427 (Nat.le_of_ble_eq_true rfl) (by simp [cat_rf, cat_i, cat_j, cat_d, cat_a]) ⟨Nat.zero_le _, Nat.zero_le _⟩ dX4_wither_79 (fun v19 => ?_)
    refine r_pI hC (k := 3) (r := x47_4) cls_1 (by decide) rfl q_71 (Or.inl rfl) (Or.inl rfl) dX4_wither_82 (fun σ20 => ?_)
    refine r_aload hC 2 (r := x47_4) rfl dX4_wither_85 ?_
    refine r_dup hC (cat_rf _) dX4_wither_87 ?_
    refine r_gI hC (k := 4) (r := x47_4) cls_1 (by decide) rfl q_73 (Or.inl rfl) dX4_wither_88 (fun v21 => ?_)
    refine r_iconst hC (1) rfl dX4_wither_91 ?_
    refine r_iadd hC dX4_wither_92 (fun v22 => ?_)
    refine r_pI hC (k := 4) (r := x47_4) cls_1 (by decide) rfl q_73 (Or.inl rfl) (Or.inl rfl) dX4_wither_93 (fun σ23 => ?_)
    refine r_iinc hC 3 (fun w => [(5, .int w), (2, .int x47_2), (3, .int x47_3), (4, va_rf x47_4)]) 1 rfl (by decide) rfl (fun w => by simp [List.filter, cat_rf, cat_i, cat_j, cat_d, cat_a]) dX4_wither_96 (fun v24 => ?_)
    refine r_goto hC 47 dX4_wither_99 (by decide) ?_
    refine Wo.sub [1, 2, 3, 0] rfl ?_
    exact hk47 x47_2 x47_3 x47_4 v24 σ23

set_option maxRecDepth 100000 in
set_option maxHeartbeats 4000000 in
theorem u_X4_wither_47 {C : Cxt} {G : Glb} (hC : CX C G RX4 cX4_wither 6 (some .int) 2 0 0 42) : ∀ (n : Nat) (x47_2 : Int32) (x47_3 : Int32) (x47_4 : (Option Nat)) (x47_5 : Int32) (σ : Mem), Wo C G 6 (QP C G rvI 0 0) (l_X4_wither_47  n x47_2 x47_3 x47_4 x47_5 σ) σ 0 0 47 [(2, .int x47_2), (3, .int x47_3), (4, va_rf x47_4), (5, .int x47_5)] [] := by
  intro n
  induction n with
  | zero => intro x47_2 x47_3 x47_4 x47_5 σ; exact Wo.none
  | succ n ih => intro x47_2 x47_3 x47_4 x47_5 σ; exact t_X4_wither_47 hC (l_X4_wither_47  n) ih x47_2 x47_3 x47_4 x47_5 σ

set_option maxRecDepth 100000 in
set_option maxHeartbeats 4000000 in
theorem t_X4_wither_41 {C : Cxt} {G : Glb} (hC : CX C G RX4 cX4_wither 6 (some .int) 2 0 0 42) (x41_2 : Int32) (x41_3 : Int32) (x41_4 : (Option Nat)) (y41_0 : Int32) (σ : Mem) : Wo C G 6 (QP C G rvI 0 0) (b_X4_wither_41  x41_2 x41_3 x41_4 y41_0 σ) σ 0 0 41 [(2, .int x41_2), (3, .int x41_3), (4, va_rf x41_4)] [.int y41_0] := by
  unfold b_X4_wither_41
  refine call_S hC (av := [.int y41_0]) (st := []) (ct_X4_requireState hC.hl G y41_0 σ) q_294 q_295 q_13 q_296 yd_X4_requireState rfl ⟨Nat.le_of_ble_eq_true rfl, Nat.le_of_ble_eq_true rfl⟩ ⟨Nat.zero_le _, Nat.zero_le _⟩ rfl (Nat.le_of_ble_eq_true rfl) dX4_wither_41 (fun u9 σ10 => ?_)
  show Wo _ _ _ _ _ _ _ _ _ _ []
  refine r_iconst hC (0) rfl dX4_wither_44 ?_
  refine r_istore hC [(5, .int 0), (2, .int x41_2), (3, .int x41_3), (4, va_rf x41_4)] (i := 5) (by decide) (by simp [List.filter, cat_rf, cat_i, cat_j, cat_d, cat_a]) dX4_wither_45 ?_
  refine Wo.sub [1, 2, 3, 0] rfl ?_
  exact u_X4_wither_47 hC 40 x41_2 x41_3 x41_4 0 σ10

set_option maxRecDepth 100000 in
set_option maxHeartbeats 4000000 in
theorem t_X4_wither_40 {C : Cxt} {G : Glb} (hC : CX C G RX4 cX4_wither 6 (some .int) 2 0 0 42) (x40_2 : Int32) (x40_3 : Int32) (x40_4 : (Option Nat)) (σ : Mem) : Wo C G 6 (QP C G rvI 0 0) (b_X4_wither_40  x40_2 x40_3 x40_4 σ) σ 0 0 40 [(2, .int x40_2), (3, .int x40_3), (4, va_rf x40_4)] [] := by
  unfold b_X4_wither_40
  refine r_iconst hC (0) rfl dX4_wither_40 ?_
  exact t_X4_wither_41 hC x40_2 x40_3 x40_4 0 σ

set_option maxRecDepth 100000 in
set_option maxHeartbeats 4000000 in
theorem t_X4_wither_0 {C : Cxt} {G : Glb} (hC : CX C G RX4 cX4_wither 6 (some .int) 2 0 0 42) (a0 : Nat) (p0 : Int32) (p1 : Int32) (p2 : Int32) (σ : Mem) : Wo C G 6 (QP C G rvI 0 0) (b_X4_wither_0  a0 p0 p1 p2 σ) σ 0 0 0 [(0, va_rf (some a0)), (1, .int p0), (2, .int p1), (3, .int p2)] [] := by
  unfold b_X4_wither_0
  refine r_aloadn hC 0 (r := (some a0)) rfl rfl dX4_wither_0 ?_
  refine r_iloadn hC 1 rfl rfl dX4_wither_1 ?_
  refine call_V hC (av := [.int p0]) (st := []) (r := (some a0)) (ci := 4) rfl rfl (fun h9 => ct_X4_lotAt hC.hl G h9 p0 σ) q_357 q_359 q_3 q_13 q_360 yd_X4_lotAt rfl ⟨Nat.le_of_ble_eq_true rfl, Nat.le_of_ble_eq_true rfl⟩ ⟨Nat.zero_le _, Nat.zero_le _⟩ rfl (Nat.le_of_ble_eq_true rfl) dX4_wither_2 (fun r1 σ2 => ?_)
  show Wo _ _ _ _ _ _ _ _ _ _ [va_rf r1]
  refine r_astore hC [(4, va_rf r1), (0, va_rf (some a0)), (1, .int p0), (2, .int p1), (3, .int p2)] (r := r1) (i := 4) (by decide) rfl dX4_wither_5 ?_
  refine r_iloadn hC 3 rfl rfl dX4_wither_7 ?_
  refine r_iconst hC (1) rfl dX4_wither_8 ?_
  refine r_bipush hC (20) (by decide) dX4_wither_9 ?_
  refine call_S hC (av := [.int p1, .int 1, .int 20]) (st := []) (ct_X4_requireArgument hC.hl G p1 1 20 σ2) q_228 q_229 q_13 q_230 yd_X4_requireArgument rfl ⟨Nat.le_of_ble_eq_true rfl, Nat.le_of_ble_eq_true rfl⟩ ⟨Nat.zero_le _, Nat.zero_le _⟩ rfl (Nat.le_of_ble_eq_true rfl) dX4_wither_11 (fun u4 σ5 => ?_)
  show Wo _ _ _ _ _ _ _ _ _ _ []
  refine r_iloadn hC 4 rfl rfl dX4_wither_14 ?_
  refine r_iconst hC (1) rfl dX4_wither_15 ?_
  refine r_iconst hC (3) rfl dX4_wither_16 ?_
  refine call_S hC (av := [.int p2, .int 1, .int 3]) (st := []) (ct_X4_requireArgument hC.hl G p2 1 3 σ5) q_228 q_229 q_13 q_230 yd_X4_requireArgument rfl ⟨Nat.le_of_ble_eq_true rfl, Nat.le_of_ble_eq_true rfl⟩ ⟨Nat.zero_le _, Nat.zero_le _⟩ rfl (Nat.le_of_ble_eq_true rfl) dX4_wither_17 (fun u6 σ7 => ?_)
  show Wo _ _ _ _ _ _ _ _ _ _ []
  refine r_aload hC 0 (r := r1) rfl dX4_wither_20 ?_
  refine r_gI hC (k := 0) (r := r1) cls_1 (by decide) rfl q_65 (Or.inl rfl) dX4_wither_22 (fun v8 => ?_)
  refine r_if_ne hC 40 dX4_wither_25 (by decide) ?_ ?_
  · refine Wo.sub [3, 4, 0] rfl ?_
    exact t_X4_wither_40 hC p1 p2 r1 σ7
  · refine r_aload hC 0 (r := r1) rfl dX4_wither_28 ?_
    refine r_gI hC (k := 10) (r := r1) cls_1 (by decide) rfl q_85 (Or.inl rfl) dX4_wither_30 (fun v25 => ?_)
    refine r_if_ne hC 40 dX4_wither_33 (by decide) ?_ ?_
    · refine Wo.sub [3, 4, 0] rfl ?_
      exact t_X4_wither_40 hC p1 p2 r1 σ7
    · refine r_iconst hC (1) rfl dX4_wither_36 ?_
      refine r_goto hC 41 dX4_wither_37 (by decide) ?_
      refine Wo.sub [3, 4, 0] rfl ?_
      exact t_X4_wither_41 hC p1 p2 r1 1 σ7

set_option maxRecDepth 100000 in
set_option maxHeartbeats 4000000 in
theorem ct_X4_wither {l : Launch} (hl : l.stackTraces = false) (G : Glb) (a0 : Nat) (p0 : Int32) (p1 : Int32) (p2 : Int32) (σ : Mem) : Ct rvI l yX4_wither (Cond.code yX4_wither cX4_wither 6 (some .int) :: uW) { frames := 2, cells := 0, slots := 0, locals := 42 } 0 0 G [.ref a0, .int p0, .int p1, .int p2] σ (f_X4_wither a0 p0 p1 p2 σ) := by
  refine Ct.of hl (by decide +kernel) (Nat.le_of_ble_eq_true rfl) (fun C hC hin => ?_)
  have e : lv_args 0 [.ref a0, .int p0, .int p1, .int p2] = [(0, .ref a0), (1, .int p0), (2, .int p1), (3, .int p2)] := rfl
  rw [e]
  exact t_X4_wither_0 hC a0 p0 p1 p2 σ

noncomputable def b_X4_kill_25 (x25_2 : (Option Nat)) (y25_0 : Int32) (σ : Mem) : Option ((Int32) × Mem) :=
cl1 (f_X4_requireState y25_0 σ) fun u5 σ6 =>
gI 1 3 σ6 x25_2 fun v7 =>
gI 1 3 σ6 x25_2 fun v8 =>
dv v8 5 fun v9 =>
nm (v7 - v9) fun v10 =>
pI 1 3 σ6 x25_2 v10 fun σ11 =>
pB 1 10 σ11 x25_2 1 fun σ12 =>
gI 1 3 σ12 x25_2 fun v13 =>
some (v13, σ12)

noncomputable def b_X4_kill_24 (x24_2 : (Option Nat)) (σ : Mem) : Option ((Int32) × Mem) :=
b_X4_kill_25 x24_2 0 σ

noncomputable def b_X4_kill_0 (a0 : Nat) (p0 : Int32) (σ : Mem) : Option ((Int32) × Mem) :=
ob 4 σ (some a0) fun h3 => cl1 (f_X4_lotAt h3 p0 σ) fun r1 σ2 =>
gI 1 0 σ2 r1 fun v4 =>
if v4 = 0 then
gI 1 10 σ2 r1 fun v14 =>
if v14 = 0 then
b_X4_kill_25 r1 1 σ2
else
b_X4_kill_24 r1 σ2
else
b_X4_kill_24 r1 σ2

noncomputable def f_X4_kill (a0 : Nat) (p0 : Int32) (σ : Mem) : Option ((Int32) × Mem) := b_X4_kill_0 a0 p0 σ
set_option maxRecDepth 100000 in
set_option maxHeartbeats 4000000 in
theorem t_X4_kill_25 {C : Cxt} {G : Glb} (hC : CX C G RX4 cX4_kill 3 (some .int) 2 0 0 42) (x25_2 : (Option Nat)) (y25_0 : Int32) (σ : Mem) : Wo C G 3 (QP C G rvI 0 0) (b_X4_kill_25  x25_2 y25_0 σ) σ 0 0 25 [(2, va_rf x25_2)] [.int y25_0] := by
  unfold b_X4_kill_25
  refine call_S hC (av := [.int y25_0]) (st := []) (ct_X4_requireState hC.hl G y25_0 σ) q_294 q_295 q_13 q_296 yd_X4_requireState rfl ⟨Nat.le_of_ble_eq_true rfl, Nat.le_of_ble_eq_true rfl⟩ ⟨Nat.zero_le _, Nat.zero_le _⟩ rfl (Nat.le_of_ble_eq_true rfl) dX4_kill_25 (fun u5 σ6 => ?_)
  show Wo _ _ _ _ _ _ _ _ _ _ []
  refine r_aloadn hC 0 (r := x25_2) rfl rfl dX4_kill_28 ?_
  refine r_dup hC (cat_rf _) dX4_kill_29 ?_
  refine r_gI hC (k := 3) (r := x25_2) cls_1 (by decide) rfl q_71 (Or.inl rfl) dX4_kill_30 (fun v7 => ?_)
  refine r_aloadn hC 0 (r := x25_2) rfl rfl dX4_kill_33 ?_
  refine r_gI hC (k := 3) (r := x25_2) cls_1 (by decide) rfl q_71 (Or.inl rfl) dX4_kill_34 (fun v8 => ?_)
  refine r_iconst hC (5) rfl dX4_kill_37 ?_
  refine r_idiv hC dX4_kill_38 (fun v9 => ?_)
  refine r_isub hC dX4_kill_39 (fun v10 => ?_)
  refine r_pI hC (k := 3) (r := x25_2) cls_1 (by decide) rfl q_71 (Or.inl rfl) (Or.inl rfl) dX4_kill_40 (fun σ11 => ?_)
  refine r_aloadn hC 0 (r := x25_2) rfl rfl dX4_kill_43 ?_
  refine r_iconst hC (1) rfl dX4_kill_44 ?_
  refine r_pB hC (k := 10) (r := x25_2) cls_1 (by decide) rfl q_85 (Or.inl rfl) (Or.inl rfl) dX4_kill_45 (fun σ12 => ?_)
  refine r_aloadn hC 0 (r := x25_2) rfl rfl dX4_kill_48 ?_
  refine r_gI hC (k := 3) (r := x25_2) cls_1 (by decide) rfl q_71 (Or.inl rfl) dX4_kill_49 (fun v13 => ?_)
  exact e_I hC ⟨Nat.zero_le _, Nat.zero_le _⟩ dX4_kill_52

set_option maxRecDepth 100000 in
set_option maxHeartbeats 4000000 in
theorem t_X4_kill_24 {C : Cxt} {G : Glb} (hC : CX C G RX4 cX4_kill 3 (some .int) 2 0 0 42) (x24_2 : (Option Nat)) (σ : Mem) : Wo C G 3 (QP C G rvI 0 0) (b_X4_kill_24  x24_2 σ) σ 0 0 24 [(2, va_rf x24_2)] [] := by
  unfold b_X4_kill_24
  refine r_iconst hC (0) rfl dX4_kill_24 ?_
  exact t_X4_kill_25 hC x24_2 0 σ

set_option maxRecDepth 100000 in
set_option maxHeartbeats 4000000 in
theorem t_X4_kill_0 {C : Cxt} {G : Glb} (hC : CX C G RX4 cX4_kill 3 (some .int) 2 0 0 42) (a0 : Nat) (p0 : Int32) (σ : Mem) : Wo C G 3 (QP C G rvI 0 0) (b_X4_kill_0  a0 p0 σ) σ 0 0 0 [(0, va_rf (some a0)), (1, .int p0)] [] := by
  unfold b_X4_kill_0
  refine r_aloadn hC 0 (r := (some a0)) rfl rfl dX4_kill_0 ?_
  refine r_iloadn hC 1 rfl rfl dX4_kill_1 ?_
  refine call_V hC (av := [.int p0]) (st := []) (r := (some a0)) (ci := 4) rfl rfl (fun h9 => ct_X4_lotAt hC.hl G h9 p0 σ) q_357 q_359 q_3 q_13 q_360 yd_X4_lotAt rfl ⟨Nat.le_of_ble_eq_true rfl, Nat.le_of_ble_eq_true rfl⟩ ⟨Nat.zero_le _, Nat.zero_le _⟩ rfl (Nat.le_of_ble_eq_true rfl) dX4_kill_2 (fun r1 σ2 => ?_)
  show Wo _ _ _ _ _ _ _ _ _ _ [va_rf r1]
  refine r_astoren hC [(2, va_rf r1), (0, va_rf (some a0)), (1, .int p0)] (r := r1) (i := 2) rfl (by decide) rfl dX4_kill_5 ?_
  refine r_aloadn hC 0 (r := r1) rfl rfl dX4_kill_6 ?_
  refine r_gI hC (k := 0) (r := r1) cls_1 (by decide) rfl q_65 (Or.inl rfl) dX4_kill_7 (fun v4 => ?_)
  refine r_if_ne hC 24 dX4_kill_10 (by decide) ?_ ?_
  · refine Wo.sub [0] rfl ?_
    exact t_X4_kill_24 hC r1 σ2
  · refine r_aloadn hC 0 (r := r1) rfl rfl dX4_kill_13 ?_
    refine r_gI hC (k := 10) (r := r1) cls_1 (by decide) rfl q_85 (Or.inl rfl) dX4_kill_14 (fun v14 => ?_)
    refine r_if_ne hC 24 dX4_kill_17 (by decide) ?_ ?_
    · refine Wo.sub [0] rfl ?_
      exact t_X4_kill_24 hC r1 σ2
    · refine r_iconst hC (1) rfl dX4_kill_20 ?_
      refine r_goto hC 25 dX4_kill_21 (by decide) ?_
      refine Wo.sub [0] rfl ?_
      exact t_X4_kill_25 hC r1 1 σ2

set_option maxRecDepth 100000 in
set_option maxHeartbeats 4000000 in
theorem ct_X4_kill {l : Launch} (hl : l.stackTraces = false) (G : Glb) (a0 : Nat) (p0 : Int32) (σ : Mem) : Ct rvI l yX4_kill (Cond.code yX4_kill cX4_kill 3 (some .int) :: uW) { frames := 2, cells := 0, slots := 0, locals := 42 } 0 0 G [.ref a0, .int p0] σ (f_X4_kill a0 p0 σ) := by
  refine Ct.of hl (by decide +kernel) (Nat.le_of_ble_eq_true rfl) (fun C hC hin => ?_)
  have e : lv_args 0 [.ref a0, .int p0] = [(0, .ref a0), (1, .int p0)] := rfl
  rw [e]
  exact t_X4_kill_0 hC a0 p0 σ

noncomputable def b_X4_roll_53 (x53_2 : Int32) (x53_3 : (Option Nat)) (y53_0 : Int32) (σ : Mem) : Option ((Int32) × Mem) :=
cl1 (f_X4_requireState y53_0 σ) fun u12 σ13 =>
gI 1 5 σ13 x53_3 fun v14 =>
nm (v14 + x53_2) fun v15 =>
pI 1 5 σ13 x53_3 v15 fun σ16 =>
pI 1 0 σ16 x53_3 1 fun σ17 =>
gI 1 5 σ17 x53_3 fun v18 =>
some (v18, σ17)

noncomputable def b_X4_roll_32 (x32_2 : Int32) (x32_3 : (Option Nat)) (y32_0 : Int32) (σ : Mem) : Option ((Int32) × Mem) :=
cl1 (f_X4_requireState y32_0 σ) fun u7 σ8 =>
gI 1 3 σ8 x32_3 fun v9 =>
gI 1 1 σ8 x32_3 fun v10 =>
nm (2 * v10) fun v11 =>
if v11 < v9 then
b_X4_roll_53 x32_2 x32_3 0 σ8
else
b_X4_roll_53 x32_2 x32_3 1 σ8

noncomputable def b_X4_roll_27 (x27_2 : Int32) (x27_3 : (Option Nat)) (σ : Mem) : Option ((Int32) × Mem) :=
b_X4_roll_32 x27_2 x27_3 1 σ

noncomputable def b_X4_roll_0 (a0 : Nat) (p0 : Int32) (p1 : Int32) (σ : Mem) : Option ((Int32) × Mem) :=
ob 4 σ (some a0) fun h3 => cl1 (f_X4_lotAt h3 p0 σ) fun r1 σ2 =>
cl1 (f_X4_requireArgument p1 1 5 σ2) fun u4 σ5 =>
gI 1 0 σ5 r1 fun v6 =>
if v6 = 0 then
b_X4_roll_27 p1 r1 σ5
else
gI 1 0 σ5 r1 fun v19 =>
if v19 = 1 then
b_X4_roll_27 p1 r1 σ5
else
b_X4_roll_32 p1 r1 0 σ5

noncomputable def f_X4_roll (a0 : Nat) (p0 : Int32) (p1 : Int32) (σ : Mem) : Option ((Int32) × Mem) := b_X4_roll_0 a0 p0 p1 σ
set_option maxRecDepth 100000 in
set_option maxHeartbeats 4000000 in
theorem t_X4_roll_53 {C : Cxt} {G : Glb} (hC : CX C G RX4 cX4_roll 4 (some .int) 2 0 0 42) (x53_2 : Int32) (x53_3 : (Option Nat)) (y53_0 : Int32) (σ : Mem) : Wo C G 4 (QP C G rvI 0 0) (b_X4_roll_53  x53_2 x53_3 y53_0 σ) σ 0 0 53 [(2, .int x53_2), (3, va_rf x53_3)] [.int y53_0] := by
  unfold b_X4_roll_53
  refine call_S hC (av := [.int y53_0]) (st := []) (ct_X4_requireState hC.hl G y53_0 σ) q_294 q_295 q_13 q_296 yd_X4_requireState rfl ⟨Nat.le_of_ble_eq_true rfl, Nat.le_of_ble_eq_true rfl⟩ ⟨Nat.zero_le _, Nat.zero_le _⟩ rfl (Nat.le_of_ble_eq_true rfl) dX4_roll_53 (fun u12 σ13 => ?_)
  show Wo _ _ _ _ _ _ _ _ _ _ []
  refine r_aloadn hC 1 (r := x53_3) rfl rfl dX4_roll_56 ?_
  refine r_dup hC (cat_rf _) dX4_roll_57 ?_
  refine r_gI hC (k := 5) (r := x53_3) cls_1 (by decide) rfl q_75 (Or.inl rfl) dX4_roll_58 (fun v14 => ?_)
  refine r_iloadn hC 0 rfl rfl dX4_roll_61 ?_
  refine r_iadd hC dX4_roll_62 (fun v15 => ?_)
  refine r_pI hC (k := 5) (r := x53_3) cls_1 (by decide) rfl q_75 (Or.inl rfl) (Or.inl rfl) dX4_roll_63 (fun σ16 => ?_)
  refine r_aloadn hC 1 (r := x53_3) rfl rfl dX4_roll_66 ?_
  refine r_iconst hC (1) rfl dX4_roll_67 ?_
  refine r_pI hC (k := 0) (r := x53_3) cls_1 (by decide) rfl q_65 (Or.inl rfl) (Or.inl rfl) dX4_roll_68 (fun σ17 => ?_)
  refine r_aloadn hC 1 (r := x53_3) rfl rfl dX4_roll_71 ?_
  refine r_gI hC (k := 5) (r := x53_3) cls_1 (by decide) rfl q_75 (Or.inl rfl) dX4_roll_72 (fun v18 => ?_)
  exact e_I hC ⟨Nat.zero_le _, Nat.zero_le _⟩ dX4_roll_75

set_option maxRecDepth 100000 in
set_option maxHeartbeats 4000000 in
theorem t_X4_roll_32 {C : Cxt} {G : Glb} (hC : CX C G RX4 cX4_roll 4 (some .int) 2 0 0 42) (x32_2 : Int32) (x32_3 : (Option Nat)) (y32_0 : Int32) (σ : Mem) : Wo C G 4 (QP C G rvI 0 0) (b_X4_roll_32  x32_2 x32_3 y32_0 σ) σ 0 0 32 [(2, .int x32_2), (3, va_rf x32_3)] [.int y32_0] := by
  unfold b_X4_roll_32
  refine call_S hC (av := [.int y32_0]) (st := []) (ct_X4_requireState hC.hl G y32_0 σ) q_294 q_295 q_13 q_296 yd_X4_requireState rfl ⟨Nat.le_of_ble_eq_true rfl, Nat.le_of_ble_eq_true rfl⟩ ⟨Nat.zero_le _, Nat.zero_le _⟩ rfl (Nat.le_of_ble_eq_true rfl) dX4_roll_32 (fun u7 σ8 => ?_)
  show Wo _ _ _ _ _ _ _ _ _ _ []
  refine r_aloadn hC 1 (r := x32_3) rfl rfl dX4_roll_35 ?_
  refine r_gI hC (k := 3) (r := x32_3) cls_1 (by decide) rfl q_71 (Or.inl rfl) dX4_roll_36 (fun v9 => ?_)
  refine r_iconst hC (2) rfl dX4_roll_39 ?_
  refine r_aloadn hC 1 (r := x32_3) rfl rfl dX4_roll_40 ?_
  refine r_gI hC (k := 1) (r := x32_3) cls_1 (by decide) rfl q_67 (Or.inl rfl) dX4_roll_41 (fun v10 => ?_)
  refine r_imul hC dX4_roll_44 (fun v11 => ?_)
  refine r_icmp_gt hC 52 dX4_roll_45 (by decide) ?_ ?_
  · refine r_iconst hC (0) rfl dX4_roll_52 ?_
    exact t_X4_roll_53 hC x32_2 x32_3 0 σ8
  · refine r_iconst hC (1) rfl dX4_roll_48 ?_
    refine r_goto hC 53 dX4_roll_49 (by decide) ?_
    exact t_X4_roll_53 hC x32_2 x32_3 1 σ8

set_option maxRecDepth 100000 in
set_option maxHeartbeats 4000000 in
theorem t_X4_roll_27 {C : Cxt} {G : Glb} (hC : CX C G RX4 cX4_roll 4 (some .int) 2 0 0 42) (x27_2 : Int32) (x27_3 : (Option Nat)) (σ : Mem) : Wo C G 4 (QP C G rvI 0 0) (b_X4_roll_27  x27_2 x27_3 σ) σ 0 0 27 [(2, .int x27_2), (3, va_rf x27_3)] [] := by
  unfold b_X4_roll_27
  refine r_iconst hC (1) rfl dX4_roll_27 ?_
  refine r_goto hC 32 dX4_roll_28 (by decide) ?_
  exact t_X4_roll_32 hC x27_2 x27_3 1 σ

set_option maxRecDepth 100000 in
set_option maxHeartbeats 4000000 in
theorem t_X4_roll_0 {C : Cxt} {G : Glb} (hC : CX C G RX4 cX4_roll 4 (some .int) 2 0 0 42) (a0 : Nat) (p0 : Int32) (p1 : Int32) (σ : Mem) : Wo C G 4 (QP C G rvI 0 0) (b_X4_roll_0  a0 p0 p1 σ) σ 0 0 0 [(0, va_rf (some a0)), (1, .int p0), (2, .int p1)] [] := by
  unfold b_X4_roll_0
  refine r_aloadn hC 0 (r := (some a0)) rfl rfl dX4_roll_0 ?_
  refine r_iloadn hC 1 rfl rfl dX4_roll_1 ?_
  refine call_V hC (av := [.int p0]) (st := []) (r := (some a0)) (ci := 4) rfl rfl (fun h9 => ct_X4_lotAt hC.hl G h9 p0 σ) q_357 q_359 q_3 q_13 q_360 yd_X4_lotAt rfl ⟨Nat.le_of_ble_eq_true rfl, Nat.le_of_ble_eq_true rfl⟩ ⟨Nat.zero_le _, Nat.zero_le _⟩ rfl (Nat.le_of_ble_eq_true rfl) dX4_roll_2 (fun r1 σ2 => ?_)
  show Wo _ _ _ _ _ _ _ _ _ _ [va_rf r1]
  refine r_astoren hC [(3, va_rf r1), (0, va_rf (some a0)), (1, .int p0), (2, .int p1)] (r := r1) (i := 3) rfl (by decide) rfl dX4_roll_5 ?_
  refine r_iloadn hC 3 rfl rfl dX4_roll_6 ?_
  refine r_iconst hC (1) rfl dX4_roll_7 ?_
  refine r_iconst hC (5) rfl dX4_roll_8 ?_
  refine call_S hC (av := [.int p1, .int 1, .int 5]) (st := []) (ct_X4_requireArgument hC.hl G p1 1 5 σ2) q_228 q_229 q_13 q_230 yd_X4_requireArgument rfl ⟨Nat.le_of_ble_eq_true rfl, Nat.le_of_ble_eq_true rfl⟩ ⟨Nat.zero_le _, Nat.zero_le _⟩ rfl (Nat.le_of_ble_eq_true rfl) dX4_roll_9 (fun u4 σ5 => ?_)
  show Wo _ _ _ _ _ _ _ _ _ _ []
  refine r_aloadn hC 0 (r := r1) rfl rfl dX4_roll_12 ?_
  refine r_gI hC (k := 0) (r := r1) cls_1 (by decide) rfl q_65 (Or.inl rfl) dX4_roll_13 (fun v6 => ?_)
  refine r_if_eq hC 27 dX4_roll_16 (by decide) ?_ ?_
  · refine Wo.sub [3, 0] rfl ?_
    exact t_X4_roll_27 hC p1 r1 σ5
  · refine r_aloadn hC 0 (r := r1) rfl rfl dX4_roll_19 ?_
    refine r_gI hC (k := 0) (r := r1) cls_1 (by decide) rfl q_65 (Or.inl rfl) dX4_roll_20 (fun v19 => ?_)
    refine r_iconst hC (1) rfl dX4_roll_23 ?_
    refine r_icmp_ne hC 31 dX4_roll_24 (by decide) ?_ ?_
    · refine r_iconst hC (0) rfl dX4_roll_31 ?_
      refine Wo.sub [3, 0] rfl ?_
      exact t_X4_roll_32 hC p1 r1 0 σ5
    · refine Wo.sub [3, 0] rfl ?_
      exact t_X4_roll_27 hC p1 r1 σ5

set_option maxRecDepth 100000 in
set_option maxHeartbeats 4000000 in
theorem ct_X4_roll {l : Launch} (hl : l.stackTraces = false) (G : Glb) (a0 : Nat) (p0 : Int32) (p1 : Int32) (σ : Mem) : Ct rvI l yX4_roll (Cond.code yX4_roll cX4_roll 4 (some .int) :: uW) { frames := 2, cells := 0, slots := 0, locals := 42 } 0 0 G [.ref a0, .int p0, .int p1] σ (f_X4_roll a0 p0 p1 σ) := by
  refine Ct.of hl (by decide +kernel) (Nat.le_of_ble_eq_true rfl) (fun C hC hin => ?_)
  have e : lv_args 0 [.ref a0, .int p0, .int p1] = [(0, .ref a0), (1, .int p0), (2, .int p1)] := rfl
  rw [e]
  exact t_X4_roll_0 hC a0 p0 p1 σ

noncomputable def b_X4_rest_42 (x42_2 : Int32) (x42_3 : Int32) (x42_4 : (Option Nat)) (y42_0 : Int32) (σ : Mem) : Option ((Int32) × Mem) :=
cl1 (f_X4_requireState y42_0 σ) fun u9 σ10 =>
gI 1 6 σ10 x42_4 fun v11 =>
nm (x42_2 * x42_3) fun v12 =>
nm (v11 + v12) fun v13 =>
nm (if v13 < 60 then v13 else 60) fun v14 =>
pI 1 6 σ10 x42_4 v14 fun σ15 =>
gI 1 6 σ15 x42_4 fun v16 =>
some (v16, σ15)

noncomputable def b_X4_rest_41 (x41_2 : Int32) (x41_3 : Int32) (x41_4 : (Option Nat)) (σ : Mem) : Option ((Int32) × Mem) :=
b_X4_rest_42 x41_2 x41_3 x41_4 0 σ

noncomputable def b_X4_rest_0 (a0 : Nat) (p0 : Int32) (p1 : Int32) (p2 : Int32) (σ : Mem) : Option ((Int32) × Mem) :=
ob 4 σ (some a0) fun h3 => cl1 (f_X4_lotAt h3 p0 σ) fun r1 σ2 =>
cl1 (f_X4_requireArgument p1 1 20 σ2) fun u4 σ5 =>
cl1 (f_X4_requireArgument p2 1 4 σ5) fun u6 σ7 =>
gI 1 0 σ7 r1 fun v8 =>
if v8 = 1 then
gI 1 10 σ7 r1 fun v17 =>
if v17 = 0 then
b_X4_rest_42 p1 p2 r1 1 σ7
else
b_X4_rest_41 p1 p2 r1 σ7
else
b_X4_rest_41 p1 p2 r1 σ7

noncomputable def f_X4_rest (a0 : Nat) (p0 : Int32) (p1 : Int32) (p2 : Int32) (σ : Mem) : Option ((Int32) × Mem) := b_X4_rest_0 a0 p0 p1 p2 σ
set_option maxRecDepth 100000 in
set_option maxHeartbeats 4000000 in
theorem t_X4_rest_42 {C : Cxt} {G : Glb} (hC : CX C G RX4 cX4_rest 5 (some .int) 2 0 0 42) (x42_2 : Int32) (x42_3 : Int32) (x42_4 : (Option Nat)) (y42_0 : Int32) (σ : Mem) : Wo C G 5 (QP C G rvI 0 0) (b_X4_rest_42  x42_2 x42_3 x42_4 y42_0 σ) σ 0 0 42 [(2, .int x42_2), (3, .int x42_3), (4, va_rf x42_4)] [.int y42_0] := by
  unfold b_X4_rest_42
  refine call_S hC (av := [.int y42_0]) (st := []) (ct_X4_requireState hC.hl G y42_0 σ) q_294 q_295 q_13 q_296 yd_X4_requireState rfl ⟨Nat.le_of_ble_eq_true rfl, Nat.le_of_ble_eq_true rfl⟩ ⟨Nat.zero_le _, Nat.zero_le _⟩ rfl (Nat.le_of_ble_eq_true rfl) dX4_rest_42 (fun u9 σ10 => ?_)
  show Wo _ _ _ _ _ _ _ _ _ _ []
  refine r_aload hC 2 (r := x42_4) rfl dX4_rest_45 ?_
  refine r_bipush hC (60) (by decide) dX4_rest_47 ?_
  refine r_aload hC 2 (r := x42_4) rfl dX4_rest_49 ?_
  refine r_gI hC (k := 6) (r := x42_4) cls_1 (by decide) rfl q_77 (Or.inl rfl) dX4_rest_51 (fun v11 => ?_)
  refine r_iloadn hC 0 rfl rfl dX4_rest_54 ?_
  refine r_iloadn hC 1 rfl rfl dX4_rest_55 ?_
  refine r_imul hC dX4_rest_56 (fun v12 => ?_)
  refine r_iadd hC dX4_rest_57 (fun v13 => ?_)
  refine r_min hC q_342 q_343 q_24 q_344 (Nat.le_of_ble_eq_true rfl) (by simp [cat_rf, cat_i, cat_j, cat_d, cat_a]) ⟨Nat.zero_le _, Nat.zero_le _⟩ dX4_rest_58 (fun v14 => ?_)
  refine r_pI hC (k := 6) (r := x42_4) cls_1 (by decide) rfl q_77 (Or.inl rfl) (Or.inl rfl) dX4_rest_61 (fun σ15 => ?_)
  refine r_aload hC 2 (r := x42_4) rfl dX4_rest_64 ?_
  refine r_gI hC (k := 6) (r := x42_4) cls_1 (by decide) rfl q_77 (Or.inl rfl) dX4_rest_66 (fun v16 => ?_)
  exact e_I hC ⟨Nat.zero_le _, Nat.zero_le _⟩ dX4_rest_69

set_option maxRecDepth 100000 in
set_option maxHeartbeats 4000000 in
theorem t_X4_rest_41 {C : Cxt} {G : Glb} (hC : CX C G RX4 cX4_rest 5 (some .int) 2 0 0 42) (x41_2 : Int32) (x41_3 : Int32) (x41_4 : (Option Nat)) (σ : Mem) : Wo C G 5 (QP C G rvI 0 0) (b_X4_rest_41  x41_2 x41_3 x41_4 σ) σ 0 0 41 [(2, .int x41_2), (3, .int x41_3), (4, va_rf x41_4)] [] := by
  unfold b_X4_rest_41
  refine r_iconst hC (0) rfl dX4_rest_41 ?_
  exact t_X4_rest_42 hC x41_2 x41_3 x41_4 0 σ

set_option maxRecDepth 100000 in
set_option maxHeartbeats 4000000 in
theorem t_X4_rest_0 {C : Cxt} {G : Glb} (hC : CX C G RX4 cX4_rest 5 (some .int) 2 0 0 42) (a0 : Nat) (p0 : Int32) (p1 : Int32) (p2 : Int32) (σ : Mem) : Wo C G 5 (QP C G rvI 0 0) (b_X4_rest_0  a0 p0 p1 p2 σ) σ 0 0 0 [(0, va_rf (some a0)), (1, .int p0), (2, .int p1), (3, .int p2)] [] := by
  unfold b_X4_rest_0
  refine r_aloadn hC 0 (r := (some a0)) rfl rfl dX4_rest_0 ?_
  refine r_iloadn hC 1 rfl rfl dX4_rest_1 ?_
  refine call_V hC (av := [.int p0]) (st := []) (r := (some a0)) (ci := 4) rfl rfl (fun h9 => ct_X4_lotAt hC.hl G h9 p0 σ) q_357 q_359 q_3 q_13 q_360 yd_X4_lotAt rfl ⟨Nat.le_of_ble_eq_true rfl, Nat.le_of_ble_eq_true rfl⟩ ⟨Nat.zero_le _, Nat.zero_le _⟩ rfl (Nat.le_of_ble_eq_true rfl) dX4_rest_2 (fun r1 σ2 => ?_)
  show Wo _ _ _ _ _ _ _ _ _ _ [va_rf r1]
  refine r_astore hC [(4, va_rf r1), (0, va_rf (some a0)), (1, .int p0), (2, .int p1), (3, .int p2)] (r := r1) (i := 4) (by decide) rfl dX4_rest_5 ?_
  refine r_iloadn hC 3 rfl rfl dX4_rest_7 ?_
  refine r_iconst hC (1) rfl dX4_rest_8 ?_
  refine r_bipush hC (20) (by decide) dX4_rest_9 ?_
  refine call_S hC (av := [.int p1, .int 1, .int 20]) (st := []) (ct_X4_requireArgument hC.hl G p1 1 20 σ2) q_228 q_229 q_13 q_230 yd_X4_requireArgument rfl ⟨Nat.le_of_ble_eq_true rfl, Nat.le_of_ble_eq_true rfl⟩ ⟨Nat.zero_le _, Nat.zero_le _⟩ rfl (Nat.le_of_ble_eq_true rfl) dX4_rest_11 (fun u4 σ5 => ?_)
  show Wo _ _ _ _ _ _ _ _ _ _ []
  refine r_iloadn hC 4 rfl rfl dX4_rest_14 ?_
  refine r_iconst hC (1) rfl dX4_rest_15 ?_
  refine r_iconst hC (4) rfl dX4_rest_16 ?_
  refine call_S hC (av := [.int p2, .int 1, .int 4]) (st := []) (ct_X4_requireArgument hC.hl G p2 1 4 σ5) q_228 q_229 q_13 q_230 yd_X4_requireArgument rfl ⟨Nat.le_of_ble_eq_true rfl, Nat.le_of_ble_eq_true rfl⟩ ⟨Nat.zero_le _, Nat.zero_le _⟩ rfl (Nat.le_of_ble_eq_true rfl) dX4_rest_17 (fun u6 σ7 => ?_)
  show Wo _ _ _ _ _ _ _ _ _ _ []
  refine r_aload hC 0 (r := r1) rfl dX4_rest_20 ?_
  refine r_gI hC (k := 0) (r := r1) cls_1 (by decide) rfl q_65 (Or.inl rfl) dX4_rest_22 (fun v8 => ?_)
  refine r_iconst hC (1) rfl dX4_rest_25 ?_
  refine r_icmp_ne hC 41 dX4_rest_26 (by decide) ?_ ?_
  · refine Wo.sub [3, 4, 0] rfl ?_
    exact t_X4_rest_41 hC p1 p2 r1 σ7
  · refine r_aload hC 0 (r := r1) rfl dX4_rest_29 ?_
    refine r_gI hC (k := 10) (r := r1) cls_1 (by decide) rfl q_85 (Or.inl rfl) dX4_rest_31 (fun v17 => ?_)
    refine r_if_ne hC 41 dX4_rest_34 (by decide) ?_ ?_
    · refine Wo.sub [3, 4, 0] rfl ?_
      exact t_X4_rest_41 hC p1 p2 r1 σ7
    · refine r_iconst hC (1) rfl dX4_rest_37 ?_
      refine r_goto hC 42 dX4_rest_38 (by decide) ?_
      refine Wo.sub [3, 4, 0] rfl ?_
      exact t_X4_rest_42 hC p1 p2 r1 1 σ7

set_option maxRecDepth 100000 in
set_option maxHeartbeats 4000000 in
theorem ct_X4_rest {l : Launch} (hl : l.stackTraces = false) (G : Glb) (a0 : Nat) (p0 : Int32) (p1 : Int32) (p2 : Int32) (σ : Mem) : Ct rvI l yX4_rest (Cond.code yX4_rest cX4_rest 5 (some .int) :: uW) { frames := 2, cells := 0, slots := 0, locals := 42 } 0 0 G [.ref a0, .int p0, .int p1, .int p2] σ (f_X4_rest a0 p0 p1 p2 σ) := by
  refine Ct.of hl (by decide +kernel) (Nat.le_of_ble_eq_true rfl) (fun C hC hin => ?_)
  have e : lv_args 0 [.ref a0, .int p0, .int p1, .int p2] = [(0, .ref a0), (1, .int p0), (2, .int p1), (3, .int p2)] := rfl
  rw [e]
  exact t_X4_rest_0 hC a0 p0 p1 p2 σ

noncomputable def b_X4_fire_72 (x72_4 : (Option Nat)) (σ : Mem) : Option ((Int32) × Mem) :=
gI 1 3 σ x72_4 fun v14 =>
some (v14, σ)

noncomputable def b_X4_fire_40 (k40 : Int32 → Int32 → (Option Nat) → Int32 → Mem → Option ((Int32) × Mem)) (x40_2 : Int32) (x40_3 : Int32) (x40_4 : (Option Nat)) (x40_5 : Int32) (σ : Mem) : Option ((Int32) × Mem) :=
if x40_3 ≤ x40_5 then
ob 1 σ x40_4 fun h13 => cl1 (f_X1_isDried h13 σ) fun v11 σ12 =>
if v11 = 0 then
b_X4_fire_72 x40_4 σ12
else
pI 1 0 σ12 x40_4 2 fun σ15 =>
b_X4_fire_72 x40_4 σ15
else
ob 1 σ x40_4 fun h18 => cl1 (f_X1_heatMinute h18 x40_2 σ) fun u16 σ17 =>
nm (x40_5 + 1) fun v19 =>
k40 x40_2 x40_3 x40_4 v19 σ17

noncomputable def l_X4_fire_40 (n : Nat) : Int32 → Int32 → (Option Nat) → Int32 → Mem → Option ((Int32) × Mem) := itr (fun _ _ _ _ _ => none) (fun k => b_X4_fire_40  k) n

noncomputable def b_X4_fire_34 (x34_2 : Int32) (x34_3 : Int32) (x34_4 : (Option Nat)) (y34_0 : Int32) (σ : Mem) : Option ((Int32) × Mem) :=
cl1 (f_X4_requireState y34_0 σ) fun u9 σ10 =>
l_X4_fire_40 40 x34_2 x34_3 x34_4 0 σ10

noncomputable def b_X4_fire_0 (a0 : Nat) (p0 : Int32) (p1 : Int32) (p2 : Int32) (σ : Mem) : Option ((Int32) × Mem) :=
ob 4 σ (some a0) fun h3 => cl1 (f_X4_lotAt h3 p0 σ) fun r1 σ2 =>
cl1 (f_X4_requireArgument p1 1 5 σ2) fun u4 σ5 =>
cl1 (f_X4_requireArgument p2 1 30 σ5) fun u6 σ7 =>
gI 1 0 σ7 r1 fun v8 =>
if v8 = 1 then
b_X4_fire_34 p1 p2 r1 1 σ7
else
b_X4_fire_34 p1 p2 r1 0 σ7

noncomputable def f_X4_fire (a0 : Nat) (p0 : Int32) (p1 : Int32) (p2 : Int32) (σ : Mem) : Option ((Int32) × Mem) := b_X4_fire_0 a0 p0 p1 p2 σ
set_option maxRecDepth 100000 in
set_option maxHeartbeats 4000000 in
theorem t_X4_fire_72 {C : Cxt} {G : Glb} (hC : CX C G RX4 cX4_fire 6 (some .int) 2 0 0 42) (x72_4 : (Option Nat)) (σ : Mem) : Wo C G 6 (QP C G rvI 0 0) (b_X4_fire_72  x72_4 σ) σ 0 0 72 [(4, va_rf x72_4)] [] := by
  unfold b_X4_fire_72
  refine r_aload hC 0 (r := x72_4) rfl dX4_fire_72 ?_
  refine r_gI hC (k := 3) (r := x72_4) cls_1 (by decide) rfl q_71 (Or.inl rfl) dX4_fire_74 (fun v14 => ?_)
  exact e_I hC ⟨Nat.zero_le _, Nat.zero_le _⟩ dX4_fire_77

set_option maxRecDepth 100000 in
set_option maxHeartbeats 4000000 in
theorem t_X4_fire_40 {C : Cxt} {G : Glb} (hC : CX C G RX4 cX4_fire 6 (some .int) 2 0 0 42) (k40 : Int32 → Int32 → (Option Nat) → Int32 → Mem → Option ((Int32) × Mem)) (hk40 : ∀ (x40_2 : Int32) (x40_3 : Int32) (x40_4 : (Option Nat)) (x40_5 : Int32) (σ : Mem), Wo C G 6 (QP C G rvI 0 0) (k40 x40_2 x40_3 x40_4 x40_5 σ) σ 0 0 40 [(2, .int x40_2), (3, .int x40_3), (4, va_rf x40_4), (5, .int x40_5)] []) (x40_2 : Int32) (x40_3 : Int32) (x40_4 : (Option Nat)) (x40_5 : Int32) (σ : Mem) : Wo C G 6 (QP C G rvI 0 0) (b_X4_fire_40 k40 x40_2 x40_3 x40_4 x40_5 σ) σ 0 0 40 [(2, .int x40_2), (3, .int x40_3), (4, va_rf x40_4), (5, .int x40_5)] [] := by
  unfold b_X4_fire_40
  refine r_iload hC 3 rfl dX4_fire_40 ?_
  refine r_iloadn hC 1 rfl rfl dX4_fire_42 ?_
  refine r_icmp_ge hC 58 dX4_fire_43 (by decide) ?_ ?_
  · refine r_aload hC 2 (r := x40_4) rfl dX4_fire_58 ?_
    refine call_V hC (av := []) (st := []) (r := x40_4) (ci := 1) rfl rfl (fun h9 => ct_X1_isDried hC.hl G h9 σ) q_515 q_511 q_512 q_14 q_513 yd_X1_isDried rfl ⟨Nat.le_of_ble_eq_true rfl, Nat.le_of_ble_eq_true rfl⟩ ⟨Nat.zero_le _, Nat.zero_le _⟩ rfl (Nat.le_of_ble_eq_true rfl) dX4_fire_60 (fun v11 σ12 => ?_)
    show Wo _ _ _ _ _ _ _ _ _ _ [.int v11]
    refine r_if_eq hC 72 dX4_fire_63 (by decide) ?_ ?_
    · refine Wo.sub [2] rfl ?_
      exact t_X4_fire_72 hC x40_4 σ12
    · refine r_aload hC 2 (r := x40_4) rfl dX4_fire_66 ?_
      refine r_iconst hC (2) rfl dX4_fire_68 ?_
      refine r_pI hC (k := 0) (r := x40_4) cls_1 (by decide) rfl q_65 (Or.inl rfl) (Or.inl rfl) dX4_fire_69 (fun σ15 => ?_)
      refine Wo.sub [2] rfl ?_
      exact t_X4_fire_72 hC x40_4 σ15
  · refine r_aload hC 2 (r := x40_4) rfl dX4_fire_46 ?_
    refine r_iloadn hC 0 rfl rfl dX4_fire_48 ?_
    refine call_V hC (av := [.int x40_2]) (st := []) (r := x40_4) (ci := 1) rfl rfl (fun h9 => ct_X1_heatMinute hC.hl G h9 x40_2 σ) q_506 q_507 q_508 q_14 q_509 yd_X1_heatMinute rfl ⟨Nat.le_of_ble_eq_true rfl, Nat.le_of_ble_eq_true rfl⟩ ⟨Nat.zero_le _, Nat.zero_le _⟩ rfl (Nat.le_of_ble_eq_true rfl) dX4_fire_49 (fun u16 σ17 => ?_)
    show Wo _ _ _ _ _ _ _ _ _ _ []
    refine r_iinc hC 3 (fun w => [(5, .int w), (2, .int x40_2), (3, .int x40_3), (4, va_rf x40_4)]) 1 rfl (by decide) rfl (fun w => by simp [List.filter, cat_rf, cat_i, cat_j, cat_d, cat_a]) dX4_fire_52 (fun v19 => ?_)
    refine r_goto hC 40 dX4_fire_55 (by decide) ?_
    refine Wo.sub [1, 2, 3, 0] rfl ?_
    exact hk40 x40_2 x40_3 x40_4 v19 σ17

set_option maxRecDepth 100000 in
set_option maxHeartbeats 4000000 in
theorem u_X4_fire_40 {C : Cxt} {G : Glb} (hC : CX C G RX4 cX4_fire 6 (some .int) 2 0 0 42) : ∀ (n : Nat) (x40_2 : Int32) (x40_3 : Int32) (x40_4 : (Option Nat)) (x40_5 : Int32) (σ : Mem), Wo C G 6 (QP C G rvI 0 0) (l_X4_fire_40  n x40_2 x40_3 x40_4 x40_5 σ) σ 0 0 40 [(2, .int x40_2), (3, .int x40_3), (4, va_rf x40_4), (5, .int x40_5)] [] := by
  intro n
  induction n with
  | zero => intro x40_2 x40_3 x40_4 x40_5 σ; exact Wo.none
  | succ n ih => intro x40_2 x40_3 x40_4 x40_5 σ; exact t_X4_fire_40 hC (l_X4_fire_40  n) ih x40_2 x40_3 x40_4 x40_5 σ

set_option maxRecDepth 100000 in
set_option maxHeartbeats 4000000 in
theorem t_X4_fire_34 {C : Cxt} {G : Glb} (hC : CX C G RX4 cX4_fire 6 (some .int) 2 0 0 42) (x34_2 : Int32) (x34_3 : Int32) (x34_4 : (Option Nat)) (y34_0 : Int32) (σ : Mem) : Wo C G 6 (QP C G rvI 0 0) (b_X4_fire_34  x34_2 x34_3 x34_4 y34_0 σ) σ 0 0 34 [(2, .int x34_2), (3, .int x34_3), (4, va_rf x34_4)] [.int y34_0] := by
  unfold b_X4_fire_34
  refine call_S hC (av := [.int y34_0]) (st := []) (ct_X4_requireState hC.hl G y34_0 σ) q_294 q_295 q_13 q_296 yd_X4_requireState rfl ⟨Nat.le_of_ble_eq_true rfl, Nat.le_of_ble_eq_true rfl⟩ ⟨Nat.zero_le _, Nat.zero_le _⟩ rfl (Nat.le_of_ble_eq_true rfl) dX4_fire_34 (fun u9 σ10 => ?_)
  show Wo _ _ _ _ _ _ _ _ _ _ []
  refine r_iconst hC (0) rfl dX4_fire_37 ?_
  refine r_istore hC [(5, .int 0), (2, .int x34_2), (3, .int x34_3), (4, va_rf x34_4)] (i := 5) (by decide) (by simp [List.filter, cat_rf, cat_i, cat_j, cat_d, cat_a]) dX4_fire_38 ?_
  refine Wo.sub [1, 2, 3, 0] rfl ?_
  exact u_X4_fire_40 hC 40 x34_2 x34_3 x34_4 0 σ10

set_option maxRecDepth 100000 in
set_option maxHeartbeats 4000000 in
theorem t_X4_fire_0 {C : Cxt} {G : Glb} (hC : CX C G RX4 cX4_fire 6 (some .int) 2 0 0 42) (a0 : Nat) (p0 : Int32) (p1 : Int32) (p2 : Int32) (σ : Mem) : Wo C G 6 (QP C G rvI 0 0) (b_X4_fire_0  a0 p0 p1 p2 σ) σ 0 0 0 [(0, va_rf (some a0)), (1, .int p0), (2, .int p1), (3, .int p2)] [] := by
  unfold b_X4_fire_0
  refine r_aloadn hC 0 (r := (some a0)) rfl rfl dX4_fire_0 ?_
  refine r_iloadn hC 1 rfl rfl dX4_fire_1 ?_
  refine call_V hC (av := [.int p0]) (st := []) (r := (some a0)) (ci := 4) rfl rfl (fun h9 => ct_X4_lotAt hC.hl G h9 p0 σ) q_357 q_359 q_3 q_13 q_360 yd_X4_lotAt rfl ⟨Nat.le_of_ble_eq_true rfl, Nat.le_of_ble_eq_true rfl⟩ ⟨Nat.zero_le _, Nat.zero_le _⟩ rfl (Nat.le_of_ble_eq_true rfl) dX4_fire_2 (fun r1 σ2 => ?_)
  show Wo _ _ _ _ _ _ _ _ _ _ [va_rf r1]
  refine r_astore hC [(4, va_rf r1), (0, va_rf (some a0)), (1, .int p0), (2, .int p1), (3, .int p2)] (r := r1) (i := 4) (by decide) rfl dX4_fire_5 ?_
  refine r_iloadn hC 3 rfl rfl dX4_fire_7 ?_
  refine r_iconst hC (1) rfl dX4_fire_8 ?_
  refine r_iconst hC (5) rfl dX4_fire_9 ?_
  refine call_S hC (av := [.int p1, .int 1, .int 5]) (st := []) (ct_X4_requireArgument hC.hl G p1 1 5 σ2) q_228 q_229 q_13 q_230 yd_X4_requireArgument rfl ⟨Nat.le_of_ble_eq_true rfl, Nat.le_of_ble_eq_true rfl⟩ ⟨Nat.zero_le _, Nat.zero_le _⟩ rfl (Nat.le_of_ble_eq_true rfl) dX4_fire_10 (fun u4 σ5 => ?_)
  show Wo _ _ _ _ _ _ _ _ _ _ []
  refine r_iloadn hC 4 rfl rfl dX4_fire_13 ?_
  refine r_iconst hC (1) rfl dX4_fire_14 ?_
  refine r_bipush hC (30) (by decide) dX4_fire_15 ?_
  refine call_S hC (av := [.int p2, .int 1, .int 30]) (st := []) (ct_X4_requireArgument hC.hl G p2 1 30 σ5) q_228 q_229 q_13 q_230 yd_X4_requireArgument rfl ⟨Nat.le_of_ble_eq_true rfl, Nat.le_of_ble_eq_true rfl⟩ ⟨Nat.zero_le _, Nat.zero_le _⟩ rfl (Nat.le_of_ble_eq_true rfl) dX4_fire_17 (fun u6 σ7 => ?_)
  show Wo _ _ _ _ _ _ _ _ _ _ []
  refine r_aload hC 0 (r := r1) rfl dX4_fire_20 ?_
  refine r_gI hC (k := 0) (r := r1) cls_1 (by decide) rfl q_65 (Or.inl rfl) dX4_fire_22 (fun v8 => ?_)
  refine r_iconst hC (1) rfl dX4_fire_25 ?_
  refine r_icmp_ne hC 33 dX4_fire_26 (by decide) ?_ ?_
  · refine r_iconst hC (0) rfl dX4_fire_33 ?_
    refine Wo.sub [3, 4, 0] rfl ?_
    exact t_X4_fire_34 hC p1 p2 r1 0 σ7
  · refine r_iconst hC (1) rfl dX4_fire_29 ?_
    refine r_goto hC 34 dX4_fire_30 (by decide) ?_
    refine Wo.sub [3, 4, 0] rfl ?_
    exact t_X4_fire_34 hC p1 p2 r1 1 σ7

set_option maxRecDepth 100000 in
set_option maxHeartbeats 4000000 in
theorem ct_X4_fire {l : Launch} (hl : l.stackTraces = false) (G : Glb) (a0 : Nat) (p0 : Int32) (p1 : Int32) (p2 : Int32) (σ : Mem) : Ct rvI l yX4_fire (Cond.code yX4_fire cX4_fire 6 (some .int) :: uW) { frames := 2, cells := 0, slots := 0, locals := 42 } 0 0 G [.ref a0, .int p0, .int p1, .int p2] σ (f_X4_fire a0 p0 p1 p2 σ) := by
  refine Ct.of hl (by decide +kernel) (Nat.le_of_ble_eq_true rfl) (fun C hC hin => ?_)
  have e : lv_args 0 [.ref a0, .int p0, .int p1, .int p2] = [(0, .ref a0), (1, .int p0), (2, .int p1), (3, .int p2)] := rfl
  rw [e]
  exact t_X4_fire_0 hC a0 p0 p1 p2 σ

noncomputable def b_X4_sort_112 (k87 : Nat → (Option Nat) → Int32 → Int32 → Mem → Option ((Int32) × Mem)) (a0 : Nat) (x112_2 : (Option Nat)) (x112_3 : Int32) (x112_4 : Int32) (σ : Mem) : Option ((Int32) × Mem) :=
nm (x112_4 + 1) fun v19 =>
k87 a0 x112_2 x112_3 v19 σ

noncomputable def b_X4_sort_87 (k87 : Nat → (Option Nat) → Int32 → Int32 → Mem → Option ((Int32) × Mem)) (a0 : Nat) (x87_2 : (Option Nat)) (x87_3 : Int32) (x87_4 : Int32) (σ : Mem) : Option ((Int32) × Mem) :=
if 3 ≤ x87_4 then
ob 1 σ x87_2 fun h15 => cl1 (f_X1_vanish h15 σ) fun u13 σ14 =>
some (x87_3, σ14)
else
ob 1 σ x87_2 fun h18 => cl1 (f_X1_dryOfGrade h18 x87_4 σ) fun v16 σ17 =>
if v16 ≤ 0 then
b_X4_sort_112 k87 a0 x87_2 x87_3 x87_4 σ17
else
ob 4 σ17 (some a0) fun h22 => cl1 (f_X4_newLot h22 σ17) fun r20 σ21 =>
ob 1 σ21 r20 fun h25 => cl1 (f_X1_becomeGrade h25 x87_2 x87_4 σ21) fun u23 σ24 =>
b_X4_sort_112 k87 a0 x87_2 x87_3 x87_4 σ24

noncomputable def l_X4_sort_87 (n : Nat) : Nat → (Option Nat) → Int32 → Int32 → Mem → Option ((Int32) × Mem) := itr (fun _ _ _ _ _ => none) (fun k => b_X4_sort_87  k) n

noncomputable def b_X4_sort_81 (a0 : Nat) (x81_2 : (Option Nat)) (x81_3 : Int32) (y81_0 : Int32) (σ : Mem) : Option ((Int32) × Mem) :=
cl1 (f_X4_requireState y81_0 σ) fun u11 σ12 =>
l_X4_sort_87 40 a0 x81_2 x81_3 0 σ12

noncomputable def b_X4_sort_59 (k41 : Nat → (Option Nat) → Int32 → Int32 → Mem → Option ((Int32) × Mem)) (a0 : Nat) (x59_2 : (Option Nat)) (x59_3 : Int32) (x59_4 : Int32) (σ : Mem) : Option ((Int32) × Mem) :=
nm (x59_4 + 1) fun v29 =>
k41 a0 x59_2 x59_3 v29 σ

noncomputable def b_X4_sort_41 (k41 : Nat → (Option Nat) → Int32 → Int32 → Mem → Option ((Int32) × Mem)) (a0 : Nat) (x41_2 : (Option Nat)) (x41_3 : Int32) (x41_4 : Int32) (σ : Mem) : Option ((Int32) × Mem) :=
if 3 ≤ x41_4 then
gI 4 4 σ (some a0) fun v9 =>
nm (v9 + x41_3) fun v10 =>
if 16 < v10 then
b_X4_sort_81 a0 x41_2 x41_3 0 σ
else
b_X4_sort_81 a0 x41_2 x41_3 1 σ
else
ob 1 σ x41_2 fun h28 => cl1 (f_X1_dryOfGrade h28 x41_4 σ) fun v26 σ27 =>
if v26 ≤ 0 then
b_X4_sort_59 k41 a0 x41_2 x41_3 x41_4 σ27
else
nm (x41_3 + 1) fun v30 =>
b_X4_sort_59 k41 a0 x41_2 v30 x41_4 σ27

noncomputable def l_X4_sort_41 (n : Nat) : Nat → (Option Nat) → Int32 → Int32 → Mem → Option ((Int32) × Mem) := itr (fun _ _ _ _ _ => none) (fun k => b_X4_sort_41  k) n

noncomputable def b_X4_sort_33 (a0 : Nat) (x33_2 : (Option Nat)) (y33_0 : Int32) (σ : Mem) : Option ((Int32) × Mem) :=
cl1 (f_X4_requireState y33_0 σ) fun u7 σ8 =>
l_X4_sort_41 40 a0 x33_2 0 0 σ8

noncomputable def b_X4_sort_32 (a0 : Nat) (x32_2 : (Option Nat)) (σ : Mem) : Option ((Int32) × Mem) :=
b_X4_sort_33 a0 x32_2 0 σ

noncomputable def b_X4_sort_0 (a0 : Nat) (p0 : Int32) (σ : Mem) : Option ((Int32) × Mem) :=
ob 4 σ (some a0) fun h3 => cl1 (f_X4_lotAt h3 p0 σ) fun r1 σ2 =>
ob 1 σ2 r1 fun h6 => cl1 (f_X1_isFreeMade h6 σ2) fun v4 σ5 =>
if v4 = 0 then
b_X4_sort_32 a0 r1 σ5
else
gI 1 9 σ5 r1 fun v31 =>
if v31 = (-1) then
gI 1 12 σ5 r1 fun v32 =>
if v32 = 0 then
b_X4_sort_33 a0 r1 1 σ5
else
b_X4_sort_32 a0 r1 σ5
else
b_X4_sort_32 a0 r1 σ5

noncomputable def f_X4_sort (a0 : Nat) (p0 : Int32) (σ : Mem) : Option ((Int32) × Mem) := b_X4_sort_0 a0 p0 σ
set_option maxRecDepth 100000 in
set_option maxHeartbeats 4000000 in
theorem t_X4_sort_112 {C : Cxt} {G : Glb} (hC : CX C G RX4 cX4_sort 5 (some .int) 4 0 0 84) (k87 : Nat → (Option Nat) → Int32 → Int32 → Mem → Option ((Int32) × Mem)) (hk87 : ∀ (a0 : Nat) (x87_2 : (Option Nat)) (x87_3 : Int32) (x87_4 : Int32) (σ : Mem), Wo C G 5 (QP C G rvI 0 0) (k87 a0 x87_2 x87_3 x87_4 σ) σ 0 0 87 [(0, va_rf (some a0)), (2, va_rf x87_2), (3, .int x87_3), (4, .int x87_4)] []) (a0 : Nat) (x112_2 : (Option Nat)) (x112_3 : Int32) (x112_4 : Int32) (σ : Mem) : Wo C G 5 (QP C G rvI 0 0) (b_X4_sort_112 k87 a0 x112_2 x112_3 x112_4 σ) σ 0 0 112 [(0, va_rf (some a0)), (2, va_rf x112_2), (3, .int x112_3), (4, .int x112_4)] [] := by
  unfold b_X4_sort_112
  refine r_iinc hC 3 (fun w => [(4, .int w), (0, va_rf (some a0)), (2, va_rf x112_2), (3, .int x112_3)]) 1 rfl (by decide) rfl (fun w => rfl) dX4_sort_112 (fun v19 => ?_)
  refine r_goto hC 87 dX4_sort_115 (by decide) ?_
  refine Wo.sub [1, 2, 3, 0] rfl ?_
  exact hk87 a0 x112_2 x112_3 v19 σ

set_option maxRecDepth 100000 in
set_option maxHeartbeats 4000000 in
theorem t_X4_sort_87 {C : Cxt} {G : Glb} (hC : CX C G RX4 cX4_sort 5 (some .int) 4 0 0 84) (k87 : Nat → (Option Nat) → Int32 → Int32 → Mem → Option ((Int32) × Mem)) (hk87 : ∀ (a0 : Nat) (x87_2 : (Option Nat)) (x87_3 : Int32) (x87_4 : Int32) (σ : Mem), Wo C G 5 (QP C G rvI 0 0) (k87 a0 x87_2 x87_3 x87_4 σ) σ 0 0 87 [(0, va_rf (some a0)), (2, va_rf x87_2), (3, .int x87_3), (4, .int x87_4)] []) (a0 : Nat) (x87_2 : (Option Nat)) (x87_3 : Int32) (x87_4 : Int32) (σ : Mem) : Wo C G 5 (QP C G rvI 0 0) (b_X4_sort_87 k87 a0 x87_2 x87_3 x87_4 σ) σ 0 0 87 [(0, va_rf (some a0)), (2, va_rf x87_2), (3, .int x87_3), (4, .int x87_4)] [] := by
  unfold b_X4_sort_87
  refine r_iload hC 3 rfl dX4_sort_87 ?_
  refine r_iconst hC (3) rfl dX4_sort_89 ?_
  refine r_icmp_ge hC 118 dX4_sort_90 (by decide) ?_ ?_
  · refine r_aloadn hC 1 (r := x87_2) rfl rfl dX4_sort_118 ?_
    refine call_V hC (av := []) (st := []) (r := x87_2) (ci := 1) rfl rfl (fun h9 => ct_X1_vanish hC.hl G h9 σ) q_581 q_582 q_583 q_14 q_584 yd_X1_vanish rfl ⟨Nat.le_of_ble_eq_true rfl, Nat.le_of_ble_eq_true rfl⟩ ⟨Nat.zero_le _, Nat.zero_le _⟩ rfl (Nat.le_of_ble_eq_true rfl) dX4_sort_119 (fun u13 σ14 => ?_)
    show Wo _ _ _ _ _ _ _ _ _ _ []
    refine r_iloadn hC 2 rfl rfl dX4_sort_122 ?_
    exact e_I hC ⟨Nat.zero_le _, Nat.zero_le _⟩ dX4_sort_123
  · refine r_aloadn hC 1 (r := x87_2) rfl rfl dX4_sort_93 ?_
    refine r_iload hC 3 rfl dX4_sort_94 ?_
    refine call_V hC (av := [.int x87_4]) (st := []) (r := x87_2) (ci := 1) rfl rfl (fun h9 => ct_X1_dryOfGrade hC.hl G h9 x87_4 σ) q_636 q_637 q_638 q_14 q_639 yd_X1_dryOfGrade rfl ⟨Nat.le_of_ble_eq_true rfl, Nat.le_of_ble_eq_true rfl⟩ ⟨Nat.zero_le _, Nat.zero_le _⟩ rfl (Nat.le_of_ble_eq_true rfl) dX4_sort_96 (fun v16 σ17 => ?_)
    show Wo _ _ _ _ _ _ _ _ _ _ [.int v16]
    refine r_if_le hC 112 dX4_sort_99 (by decide) ?_ ?_
    · exact t_X4_sort_112 hC k87 hk87 a0 x87_2 x87_3 x87_4 σ17
    · refine r_aloadn hC 0 (r := (some a0)) rfl rfl dX4_sort_102 ?_
      refine call_V hC (av := []) (st := []) (r := (some a0)) (ci := 4) rfl rfl (fun h9 => ct_X4_newLot hC.hl G h9 σ17) q_345 q_347 q_2 q_13 q_348 yd_X4_newLot rfl ⟨Nat.le_of_ble_eq_true rfl, Nat.le_of_ble_eq_true rfl⟩ ⟨Nat.zero_le _, Nat.zero_le _⟩ rfl (Nat.le_of_ble_eq_true rfl) dX4_sort_103 (fun r20 σ21 => ?_)
      show Wo _ _ _ _ _ _ _ _ _ _ [va_rf r20]
      refine r_aloadn hC 1 (r := x87_2) rfl rfl dX4_sort_106 ?_
      refine r_iload hC 3 rfl dX4_sort_107 ?_
      refine call_V hC (av := [va_rf x87_2, .int x87_4]) (st := []) (r := r20) (ci := 1) rfl rfl (fun h9 => ct_X1_becomeGrade hC.hl G h9 x87_2 x87_4 σ21) q_644 q_645 q_646 q_14 q_647 yd_X1_becomeGrade rfl ⟨Nat.le_of_ble_eq_true rfl, Nat.le_of_ble_eq_true rfl⟩ ⟨Nat.zero_le _, Nat.zero_le _⟩ rfl (Nat.le_of_ble_eq_true rfl) dX4_sort_109 (fun u23 σ24 => ?_)
      show Wo _ _ _ _ _ _ _ _ _ _ []
      exact t_X4_sort_112 hC k87 hk87 a0 x87_2 x87_3 x87_4 σ24

set_option maxRecDepth 100000 in
set_option maxHeartbeats 4000000 in
theorem u_X4_sort_87 {C : Cxt} {G : Glb} (hC : CX C G RX4 cX4_sort 5 (some .int) 4 0 0 84) : ∀ (n : Nat) (a0 : Nat) (x87_2 : (Option Nat)) (x87_3 : Int32) (x87_4 : Int32) (σ : Mem), Wo C G 5 (QP C G rvI 0 0) (l_X4_sort_87  n a0 x87_2 x87_3 x87_4 σ) σ 0 0 87 [(0, va_rf (some a0)), (2, va_rf x87_2), (3, .int x87_3), (4, .int x87_4)] [] := by
  intro n
  induction n with
  | zero => intro a0 x87_2 x87_3 x87_4 σ; exact Wo.none
  | succ n ih => intro a0 x87_2 x87_3 x87_4 σ; exact t_X4_sort_87 hC (l_X4_sort_87  n) ih a0 x87_2 x87_3 x87_4 σ

set_option maxRecDepth 100000 in
set_option maxHeartbeats 4000000 in
theorem t_X4_sort_81 {C : Cxt} {G : Glb} (hC : CX C G RX4 cX4_sort 5 (some .int) 4 0 0 84) (a0 : Nat) (x81_2 : (Option Nat)) (x81_3 : Int32) (y81_0 : Int32) (σ : Mem) : Wo C G 5 (QP C G rvI 0 0) (b_X4_sort_81  a0 x81_2 x81_3 y81_0 σ) σ 0 0 81 [(0, va_rf (some a0)), (2, va_rf x81_2), (3, .int x81_3)] [.int y81_0] := by
  unfold b_X4_sort_81
  refine call_S hC (av := [.int y81_0]) (st := []) (ct_X4_requireState hC.hl G y81_0 σ) q_294 q_295 q_13 q_296 yd_X4_requireState rfl ⟨Nat.le_of_ble_eq_true rfl, Nat.le_of_ble_eq_true rfl⟩ ⟨Nat.zero_le _, Nat.zero_le _⟩ rfl (Nat.le_of_ble_eq_true rfl) dX4_sort_81 (fun u11 σ12 => ?_)
  show Wo _ _ _ _ _ _ _ _ _ _ []
  refine r_iconst hC (0) rfl dX4_sort_84 ?_
  refine r_istore hC [(4, .int 0), (0, va_rf (some a0)), (2, va_rf x81_2), (3, .int x81_3)] (i := 4) (by decide) rfl dX4_sort_85 ?_
  refine Wo.sub [1, 2, 3, 0] rfl ?_
  exact u_X4_sort_87 hC 40 a0 x81_2 x81_3 0 σ12

set_option maxRecDepth 100000 in
set_option maxHeartbeats 4000000 in
theorem t_X4_sort_59 {C : Cxt} {G : Glb} (hC : CX C G RX4 cX4_sort 5 (some .int) 4 0 0 84) (k41 : Nat → (Option Nat) → Int32 → Int32 → Mem → Option ((Int32) × Mem)) (hk41 : ∀ (a0 : Nat) (x41_2 : (Option Nat)) (x41_3 : Int32) (x41_4 : Int32) (σ : Mem), Wo C G 5 (QP C G rvI 0 0) (k41 a0 x41_2 x41_3 x41_4 σ) σ 0 0 41 [(0, va_rf (some a0)), (2, va_rf x41_2), (3, .int x41_3), (4, .int x41_4)] []) (a0 : Nat) (x59_2 : (Option Nat)) (x59_3 : Int32) (x59_4 : Int32) (σ : Mem) : Wo C G 5 (QP C G rvI 0 0) (b_X4_sort_59 k41 a0 x59_2 x59_3 x59_4 σ) σ 0 0 59 [(0, va_rf (some a0)), (2, va_rf x59_2), (3, .int x59_3), (4, .int x59_4)] [] := by
  unfold b_X4_sort_59
  refine r_iinc hC 3 (fun w => [(4, .int w), (0, va_rf (some a0)), (2, va_rf x59_2), (3, .int x59_3)]) 1 rfl (by decide) rfl (fun w => rfl) dX4_sort_59 (fun v29 => ?_)
  refine r_goto hC 41 dX4_sort_62 (by decide) ?_
  refine Wo.sub [1, 2, 3, 0] rfl ?_
  exact hk41 a0 x59_2 x59_3 v29 σ

set_option maxRecDepth 100000 in
set_option maxHeartbeats 4000000 in
theorem t_X4_sort_41 {C : Cxt} {G : Glb} (hC : CX C G RX4 cX4_sort 5 (some .int) 4 0 0 84) (k41 : Nat → (Option Nat) → Int32 → Int32 → Mem → Option ((Int32) × Mem)) (hk41 : ∀ (a0 : Nat) (x41_2 : (Option Nat)) (x41_3 : Int32) (x41_4 : Int32) (σ : Mem), Wo C G 5 (QP C G rvI 0 0) (k41 a0 x41_2 x41_3 x41_4 σ) σ 0 0 41 [(0, va_rf (some a0)), (2, va_rf x41_2), (3, .int x41_3), (4, .int x41_4)] []) (a0 : Nat) (x41_2 : (Option Nat)) (x41_3 : Int32) (x41_4 : Int32) (σ : Mem) : Wo C G 5 (QP C G rvI 0 0) (b_X4_sort_41 k41 a0 x41_2 x41_3 x41_4 σ) σ 0 0 41 [(0, va_rf (some a0)), (2, va_rf x41_2), (3, .int x41_3), (4, .int x41_4)] [] := by
  unfold b_X4_sort_41
  refine r_iload hC 3 rfl dX4_sort_41 ?_
  refine r_iconst hC (3) rfl dX4_sort_43 ?_
  refine r_icmp_ge hC 65 dX4_sort_44 (by decide) ?_ ?_
  · refine r_aloadn hC 0 (r := (some a0)) rfl rfl dX4_sort_65 ?_
    refine r_gI hC (k := 4) (r := (some a0)) cls_4 (by decide) rfl q_191 (Or.inl rfl) dX4_sort_66 (fun v9 => ?_)
    refine r_iloadn hC 2 rfl rfl dX4_sort_69 ?_
    refine r_iadd hC dX4_sort_70 (fun v10 => ?_)
    refine r_bipush hC (16) (by decide) dX4_sort_71 ?_
    refine r_icmp_gt hC 80 dX4_sort_73 (by decide) ?_ ?_
    · refine r_iconst hC (0) rfl dX4_sort_80 ?_
      refine Wo.sub [0, 1, 2] rfl ?_
      exact t_X4_sort_81 hC a0 x41_2 x41_3 0 σ
    · refine r_iconst hC (1) rfl dX4_sort_76 ?_
      refine r_goto hC 81 dX4_sort_77 (by decide) ?_
      refine Wo.sub [0, 1, 2] rfl ?_
      exact t_X4_sort_81 hC a0 x41_2 x41_3 1 σ
  · refine r_aloadn hC 1 (r := x41_2) rfl rfl dX4_sort_47 ?_
    refine r_iload hC 3 rfl dX4_sort_48 ?_
    refine call_V hC (av := [.int x41_4]) (st := []) (r := x41_2) (ci := 1) rfl rfl (fun h9 => ct_X1_dryOfGrade hC.hl G h9 x41_4 σ) q_636 q_637 q_638 q_14 q_639 yd_X1_dryOfGrade rfl ⟨Nat.le_of_ble_eq_true rfl, Nat.le_of_ble_eq_true rfl⟩ ⟨Nat.zero_le _, Nat.zero_le _⟩ rfl (Nat.le_of_ble_eq_true rfl) dX4_sort_50 (fun v26 σ27 => ?_)
    show Wo _ _ _ _ _ _ _ _ _ _ [.int v26]
    refine r_if_le hC 59 dX4_sort_53 (by decide) ?_ ?_
    · exact t_X4_sort_59 hC k41 hk41 a0 x41_2 x41_3 x41_4 σ27
    · refine r_iinc hC 2 (fun w => [(3, .int w), (0, va_rf (some a0)), (2, va_rf x41_2), (4, .int x41_4)]) 1 rfl (by decide) rfl (fun w => by simp [List.filter, cat_rf, cat_i, cat_j, cat_d, cat_a]) dX4_sort_56 (fun v30 => ?_)
      refine Wo.sub [1, 2, 0, 3] rfl ?_
      exact t_X4_sort_59 hC k41 hk41 a0 x41_2 v30 x41_4 σ27

set_option maxRecDepth 100000 in
set_option maxHeartbeats 4000000 in
theorem u_X4_sort_41 {C : Cxt} {G : Glb} (hC : CX C G RX4 cX4_sort 5 (some .int) 4 0 0 84) : ∀ (n : Nat) (a0 : Nat) (x41_2 : (Option Nat)) (x41_3 : Int32) (x41_4 : Int32) (σ : Mem), Wo C G 5 (QP C G rvI 0 0) (l_X4_sort_41  n a0 x41_2 x41_3 x41_4 σ) σ 0 0 41 [(0, va_rf (some a0)), (2, va_rf x41_2), (3, .int x41_3), (4, .int x41_4)] [] := by
  intro n
  induction n with
  | zero => intro a0 x41_2 x41_3 x41_4 σ; exact Wo.none
  | succ n ih => intro a0 x41_2 x41_3 x41_4 σ; exact t_X4_sort_41 hC (l_X4_sort_41  n) ih a0 x41_2 x41_3 x41_4 σ

set_option maxRecDepth 100000 in
set_option maxHeartbeats 4000000 in
theorem t_X4_sort_33 {C : Cxt} {G : Glb} (hC : CX C G RX4 cX4_sort 5 (some .int) 4 0 0 84) (a0 : Nat) (x33_2 : (Option Nat)) (y33_0 : Int32) (σ : Mem) : Wo C G 5 (QP C G rvI 0 0) (b_X4_sort_33  a0 x33_2 y33_0 σ) σ 0 0 33 [(0, va_rf (some a0)), (2, va_rf x33_2)] [.int y33_0] := by
  unfold b_X4_sort_33
  refine call_S hC (av := [.int y33_0]) (st := []) (ct_X4_requireState hC.hl G y33_0 σ) q_294 q_295 q_13 q_296 yd_X4_requireState rfl ⟨Nat.le_of_ble_eq_true rfl, Nat.le_of_ble_eq_true rfl⟩ ⟨Nat.zero_le _, Nat.zero_le _⟩ rfl (Nat.le_of_ble_eq_true rfl) dX4_sort_33 (fun u7 σ8 => ?_)
  show Wo _ _ _ _ _ _ _ _ _ _ []
  refine r_iconst hC (0) rfl dX4_sort_36 ?_
  refine r_istoren hC [(3, .int 0), (0, va_rf (some a0)), (2, va_rf x33_2)] (i := 3) rfl (by decide) (by simp [List.filter, cat_rf, cat_i, cat_j, cat_d, cat_a]) dX4_sort_37 ?_
  refine r_iconst hC (0) rfl dX4_sort_38 ?_
  refine r_istore hC [(4, .int 0), (3, .int 0), (0, va_rf (some a0)), (2, va_rf x33_2)] (i := 4) (by decide) rfl dX4_sort_39 ?_
  refine Wo.sub [2, 3, 1, 0] rfl ?_
  exact u_X4_sort_41 hC 40 a0 x33_2 0 0 σ8

set_option maxRecDepth 100000 in
set_option maxHeartbeats 4000000 in
theorem t_X4_sort_32 {C : Cxt} {G : Glb} (hC : CX C G RX4 cX4_sort 5 (some .int) 4 0 0 84) (a0 : Nat) (x32_2 : (Option Nat)) (σ : Mem) : Wo C G 5 (QP C G rvI 0 0) (b_X4_sort_32  a0 x32_2 σ) σ 0 0 32 [(0, va_rf (some a0)), (2, va_rf x32_2)] [] := by
  unfold b_X4_sort_32
  refine r_iconst hC (0) rfl dX4_sort_32 ?_
  exact t_X4_sort_33 hC a0 x32_2 0 σ

set_option maxRecDepth 100000 in
set_option maxHeartbeats 4000000 in
theorem t_X4_sort_0 {C : Cxt} {G : Glb} (hC : CX C G RX4 cX4_sort 5 (some .int) 4 0 0 84) (a0 : Nat) (p0 : Int32) (σ : Mem) : Wo C G 5 (QP C G rvI 0 0) (b_X4_sort_0  a0 p0 σ) σ 0 0 0 [(0, va_rf (some a0)), (1, .int p0)] [] := by
  unfold b_X4_sort_0
  refine r_aloadn hC 0 (r := (some a0)) rfl rfl dX4_sort_0 ?_
  refine r_iloadn hC 1 rfl rfl dX4_sort_1 ?_
  refine call_V hC (av := [.int p0]) (st := []) (r := (some a0)) (ci := 4) rfl rfl (fun h9 => ct_X4_lotAt hC.hl G h9 p0 σ) q_357 q_359 q_3 q_13 q_360 yd_X4_lotAt rfl ⟨Nat.le_of_ble_eq_true rfl, Nat.le_of_ble_eq_true rfl⟩ ⟨Nat.zero_le _, Nat.zero_le _⟩ rfl (Nat.le_of_ble_eq_true rfl) dX4_sort_2 (fun r1 σ2 => ?_)
  show Wo _ _ _ _ _ _ _ _ _ _ [va_rf r1]
  refine r_astoren hC [(2, va_rf r1), (0, va_rf (some a0)), (1, .int p0)] (r := r1) (i := 2) rfl (by decide) rfl dX4_sort_5 ?_
  refine r_aloadn hC 0 (r := r1) rfl rfl dX4_sort_6 ?_
  refine call_V hC (av := []) (st := []) (r := r1) (ci := 1) rfl rfl (fun h9 => ct_X1_isFreeMade hC.hl G h9 σ2) q_455 q_456 q_457 q_14 q_458 yd_X1_isFreeMade rfl ⟨Nat.le_of_ble_eq_true rfl, Nat.le_of_ble_eq_true rfl⟩ ⟨Nat.zero_le _, Nat.zero_le _⟩ rfl (Nat.le_of_ble_eq_true rfl) dX4_sort_7 (fun v4 σ5 => ?_)
  show Wo _ _ _ _ _ _ _ _ _ _ [.int v4]
  refine r_if_eq hC 32 dX4_sort_10 (by decide) ?_ ?_
  · refine Wo.sub [1, 0] rfl ?_
    exact t_X4_sort_32 hC a0 r1 σ5
  · refine r_aloadn hC 0 (r := r1) rfl rfl dX4_sort_13 ?_
    refine r_gI hC (k := 9) (r := r1) cls_1 (by decide) rfl q_83 (Or.inl rfl) dX4_sort_14 (fun v31 => ?_)
    refine r_iconst hC (-1) rfl dX4_sort_17 ?_
    refine r_icmp_ne hC 32 dX4_sort_18 (by decide) ?_ ?_
    · refine Wo.sub [1, 0] rfl ?_
      exact t_X4_sort_32 hC a0 r1 σ5
    · refine r_aloadn hC 0 (r := r1) rfl rfl dX4_sort_21 ?_
      refine r_gI hC (k := 12) (r := r1) cls_1 (by decide) rfl q_89 (Or.inl rfl) dX4_sort_22 (fun v32 => ?_)
      refine r_if_ne hC 32 dX4_sort_25 (by decide) ?_ ?_
      · refine Wo.sub [1, 0] rfl ?_
        exact t_X4_sort_32 hC a0 r1 σ5
      · refine r_iconst hC (1) rfl dX4_sort_28 ?_
        refine r_goto hC 33 dX4_sort_29 (by decide) ?_
        refine Wo.sub [1, 0] rfl ?_
        exact t_X4_sort_33 hC a0 r1 1 σ5

set_option maxRecDepth 100000 in
set_option maxHeartbeats 4000000 in
theorem ct_X4_sort {l : Launch} (hl : l.stackTraces = false) (G : Glb) (a0 : Nat) (p0 : Int32) (σ : Mem) : Ct rvI l yX4_sort (Cond.code yX4_sort cX4_sort 5 (some .int) :: uW) { frames := 4, cells := 0, slots := 0, locals := 84 } 0 0 G [.ref a0, .int p0] σ (f_X4_sort a0 p0 σ) := by
  refine Ct.of hl (by decide +kernel) (Nat.le_of_ble_eq_true rfl) (fun C hC hin => ?_)
  have e : lv_args 0 [.ref a0, .int p0] = [(0, .ref a0), (1, .int p0)] := rfl
  rw [e]
  exact t_X4_sort_0 hC a0 p0 σ

noncomputable def b_X4_requireDifferent_0 (p0 : Int32) (p1 : Int32) (σ : Mem) : Option ((Unit) × Mem) :=
if p0 = p1 then
none
else
some ((), σ)

noncomputable def f_X4_requireDifferent (p0 : Int32) (p1 : Int32) (σ : Mem) : Option ((Unit) × Mem) := b_X4_requireDifferent_0 p0 p1 σ
set_option maxRecDepth 100000 in
set_option maxHeartbeats 4000000 in
theorem t_X4_requireDifferent_0 {C : Cxt} {G : Glb} (hC : CX C G RX4 cX4_requireDifferent 2 none 0 0 0 0) (p0 : Int32) (p1 : Int32) (σ : Mem) : Wo C G 2 (QP C G rvU 0 0) (b_X4_requireDifferent_0  p0 p1 σ) σ 0 0 0 [(0, .int p0), (1, .int p1)] [] := by
  unfold b_X4_requireDifferent_0
  refine r_iloadn hC 0 rfl rfl dX4_requireDifferent_0 ?_
  refine r_iloadn hC 1 rfl rfl dX4_requireDifferent_1 ?_
  refine r_icmp_ne hC 13 dX4_requireDifferent_2 (by decide) ?_ ?_
  · exact e_U hC ⟨Nat.zero_le _, Nat.zero_le _⟩ dX4_requireDifferent_13
  · exact Wo.none

set_option maxRecDepth 100000 in
set_option maxHeartbeats 4000000 in
theorem ct_X4_requireDifferent {l : Launch} (hl : l.stackTraces = false) (G : Glb) (p0 : Int32) (p1 : Int32) (σ : Mem) : Ct rvU l yX4_requireDifferent (Cond.code yX4_requireDifferent cX4_requireDifferent 2 none :: uW) { frames := 0, cells := 0, slots := 0, locals := 0 } 0 0 G [.int p0, .int p1] σ (f_X4_requireDifferent p0 p1 σ) := by
  refine Ct.of hl (by decide +kernel) (Nat.le_of_ble_eq_true rfl) (fun C hC hin => ?_)
  have e : lv_args 0 [.int p0, .int p1] = [(0, .int p0), (1, .int p1)] := rfl
  rw [e]
  exact t_X4_requireDifferent_0 hC p0 p1 σ

noncomputable def b_X4_mix_134 (k134 : Nat → Int32 → Int32 → (Option Nat) → (Option Nat) → (Option Nat) → Int32 → Int32 → Mem → Option ((Int32) × Mem)) (a0 : Nat) (x134_2 : Int32) (x134_4 : Int32) (x134_5 : (Option Nat)) (x134_6 : (Option Nat)) (x134_7 : (Option Nat)) (x134_8 : Int32) (x134_9 : Int32) (σ : Mem) : Option ((Int32) × Mem) :=
if 3 ≤ x134_9 then
ob 1 σ x134_7 fun h29 => cl1 (f_X1_takeUnits h29 x134_5 x134_2 σ) fun u27 σ28 =>
ob 1 σ28 x134_7 fun h32 => cl1 (f_X1_takeUnits h32 x134_6 x134_4 σ28) fun u30 σ31 =>
gI 4 4 σ31 (some a0) fun v33 =>
nm (v33 - 1) fun v34 =>
some (v34, σ31)
else
gR 1 14 σ x134_7 fun r35 =>
ob 1 σ x134_5 fun h38 => cl1 (f_X1_noteOf h38 x134_9 σ) fun v36 σ37 =>
nm (v36 * x134_2) fun v39 =>
ob 1 σ37 x134_6 fun h42 => cl1 (f_X1_noteOf h42 x134_9 σ37) fun v40 σ41 =>
nm (v40 * x134_4) fun v43 =>
nm (v39 + v43) fun v44 =>
dv v44 x134_8 fun v45 =>
wI σ41 r35 x134_9 v45 fun σ46 =>
nm (x134_9 + 1) fun v47 =>
k134 a0 x134_2 x134_4 x134_5 x134_6 x134_7 x134_8 v47 σ46

noncomputable def l_X4_mix_134 (n : Nat) : Nat → Int32 → Int32 → (Option Nat) → (Option Nat) → (Option Nat) → Int32 → Int32 → Mem → Option ((Int32) × Mem) := itr (fun _ _ _ _ _ _ _ _ _ => none) (fun k => b_X4_mix_134  k) n

noncomputable def b_X4_mix_122 (a0 : Nat) (x122_2 : Int32) (x122_4 : Int32) (x122_5 : (Option Nat)) (x122_6 : (Option Nat)) (x122_7 : (Option Nat)) (y122_0 : Int32) (y122_1 : (Option Nat)) (σ : Mem) : Option ((Int32) × Mem) :=
pB 1 11 σ y122_1 y122_0 fun σ25 =>
nm (x122_2 + x122_4) fun v26 =>
l_X4_mix_134 40 a0 x122_2 x122_4 x122_5 x122_6 x122_7 v26 0 σ25

noncomputable def b_X4_mix_117 (a0 : Nat) (x117_2 : Int32) (x117_4 : Int32) (x117_5 : (Option Nat)) (x117_6 : (Option Nat)) (x117_7 : (Option Nat)) (y117_0 : (Option Nat)) (σ : Mem) : Option ((Int32) × Mem) :=
b_X4_mix_122 a0 x117_2 x117_4 x117_5 x117_6 x117_7 1 y117_0 σ

noncomputable def b_X4_mix_78 (a0 : Nat) (x78_2 : Int32) (x78_4 : Int32) (x78_5 : (Option Nat)) (x78_6 : (Option Nat)) (y78_0 : Int32) (σ : Mem) : Option ((Int32) × Mem) :=
cl1 (f_X4_requireState y78_0 σ) fun u17 σ18 =>
ob 4 σ18 (some a0) fun h21 => cl1 (f_X4_newLot h21 σ18) fun r19 σ20 =>
pI 1 0 σ20 r19 2 fun σ22 =>
pB 1 12 σ22 r19 1 fun σ23 =>
gI 1 11 σ23 x78_5 fun v24 =>
if v24 = 0 then
gI 1 11 σ23 x78_6 fun v48 =>
if v48 = 0 then
b_X4_mix_122 a0 x78_2 x78_4 x78_5 x78_6 r19 0 r19 σ23
else
b_X4_mix_117 a0 x78_2 x78_4 x78_5 x78_6 r19 r19 σ23
else
b_X4_mix_117 a0 x78_2 x78_4 x78_5 x78_6 r19 r19 σ23

noncomputable def b_X4_mix_77 (a0 : Nat) (x77_2 : Int32) (x77_4 : Int32) (x77_5 : (Option Nat)) (x77_6 : (Option Nat)) (σ : Mem) : Option ((Int32) × Mem) :=
b_X4_mix_78 a0 x77_2 x77_4 x77_5 x77_6 0 σ

noncomputable def b_X4_mix_46 (a0 : Nat) (x46_2 : Int32) (x46_4 : Int32) (x46_5 : (Option Nat)) (x46_6 : (Option Nat)) (y46_0 : Int32) (σ : Mem) : Option ((Int32) × Mem) :=
cl1 (f_X4_requireState y46_0 σ) fun u12 σ13 =>
ob 1 σ13 x46_6 fun h16 => cl1 (f_X1_isFreeMade h16 σ13) fun v14 σ15 =>
if v14 = 0 then
b_X4_mix_77 a0 x46_2 x46_4 x46_5 x46_6 σ15
else
if x46_4 < 1 then
b_X4_mix_77 a0 x46_2 x46_4 x46_5 x46_6 σ15
else
gI 1 1 σ15 x46_6 fun v49 =>
if v49 < x46_4 then
b_X4_mix_77 a0 x46_2 x46_4 x46_5 x46_6 σ15
else
b_X4_mix_78 a0 x46_2 x46_4 x46_5 x46_6 1 σ15

noncomputable def b_X4_mix_45 (a0 : Nat) (x45_2 : Int32) (x45_4 : Int32) (x45_5 : (Option Nat)) (x45_6 : (Option Nat)) (σ : Mem) : Option ((Int32) × Mem) :=
b_X4_mix_46 a0 x45_2 x45_4 x45_5 x45_6 0 σ

noncomputable def b_X4_mix_0 (a0 : Nat) (p0 : Int32) (p1 : Int32) (p2 : Int32) (p3 : Int32) (σ : Mem) : Option ((Int32) × Mem) :=
ob 4 σ (some a0) fun h3 => cl1 (f_X4_lotAt h3 p0 σ) fun r1 σ2 =>
ob 4 σ2 (some a0) fun h6 => cl1 (f_X4_lotAt h6 p2 σ2) fun r4 σ5 =>
cl1 (f_X4_requireDifferent p0 p2 σ5) fun u7 σ8 =>
ob 1 σ8 r1 fun h11 => cl1 (f_X1_isFreeMade h11 σ8) fun v9 σ10 =>
if v9 = 0 then
b_X4_mix_45 a0 p1 p3 r1 r4 σ10
else
if p1 < 1 then
b_X4_mix_45 a0 p1 p3 r1 r4 σ10
else
gI 1 1 σ10 r1 fun v50 =>
if v50 < p1 then
b_X4_mix_45 a0 p1 p3 r1 r4 σ10
else
b_X4_mix_46 a0 p1 p3 r1 r4 1 σ10

noncomputable def f_X4_mix (a0 : Nat) (p0 : Int32) (p1 : Int32) (p2 : Int32) (p3 : Int32) (σ : Mem) : Option ((Int32) × Mem) := b_X4_mix_0 a0 p0 p1 p2 p3 σ
set_option maxRecDepth 100000 in
set_option maxHeartbeats 4000000 in
theorem t_X4_mix_134 {C : Cxt} {G : Glb} (hC : CX C G RX4 cX4_mix 10 (some .int) 3 0 0 58) (k134 : Nat → Int32 → Int32 → (Option Nat) → (Option Nat) → (Option Nat) → Int32 → Int32 → Mem → Option ((Int32) × Mem)) (hk134 : ∀ (a0 : Nat) (x134_2 : Int32) (x134_4 : Int32) (x134_5 : (Option Nat)) (x134_6 : (Option Nat)) (x134_7 : (Option Nat)) (x134_8 : Int32) (x134_9 : Int32) (σ : Mem), Wo C G 10 (QP C G rvI 0 0) (k134 a0 x134_2 x134_4 x134_5 x134_6 x134_7 x134_8 x134_9 σ) σ 0 0 134 [(0, va_rf (some a0)), (2, .int x134_2), (4, .int x134_4), (5, va_rf x134_5), (6, va_rf x134_6), (7, va_rf x134_7), (8, .int x134_8), (9, .int x134_9)] []) (a0 : Nat) (x134_2 : Int32) (x134_4 : Int32) (x134_5 : (Option Nat)) (x134_6 : (Option Nat)) (x134_7 : (Option Nat)) (x134_8 : Int32) (x134_9 : Int32) (σ : Mem) : Wo C G 10 (QP C G rvI 0 0) (b_X4_mix_134 k134 a0 x134_2 x134_4 x134_5 x134_6 x134_7 x134_8 x134_9 σ) σ 0 0 134 [(0, va_rf (some a0)), (2, .int x134_2), (4, .int x134_4), (5, va_rf x134_5), (6, va_rf x134_6), (7, va_rf x134_7), (8, .int x134_8), (9, .int x134_9)] [] := by
  unfold b_X4_mix_134
  refine r_iload hC 7 rfl dX4_mix_134 ?_
  refine r_iconst hC (3) rfl dX4_mix_136 ?_
  refine r_icmp_ge hC 177 dX4_mix_137 (by decide) ?_ ?_
  · refine r_aload hC 5 (r := x134_7) rfl dX4_mix_177 ?_
    refine r_aload hC 3 (r := x134_5) rfl dX4_mix_179 ?_
    refine r_iloadn hC 1 rfl rfl dX4_mix_181 ?_
    refine call_V hC (av := [va_rf x134_5, .int x134_2]) (st := []) (r := x134_7) (ci := 1) rfl rfl (fun h9 => ct_X1_takeUnits hC.hl G h9 x134_5 x134_2 σ) q_659 q_660 q_661 q_14 q_662 yd_X1_takeUnits rfl ⟨Nat.le_of_ble_eq_true rfl, Nat.le_of_ble_eq_true rfl⟩ ⟨Nat.zero_le _, Nat.zero_le _⟩ rfl (Nat.le_of_ble_eq_true rfl) dX4_mix_182 (fun u27 σ28 => ?_)
    show Wo _ _ _ _ _ _ _ _ _ _ []
    refine r_aload hC 5 (r := x134_7) rfl dX4_mix_185 ?_
    refine r_aload hC 4 (r := x134_6) rfl dX4_mix_187 ?_
    refine r_iload hC 2 rfl dX4_mix_189 ?_
    refine call_V hC (av := [va_rf x134_6, .int x134_4]) (st := []) (r := x134_7) (ci := 1) rfl rfl (fun h9 => ct_X1_takeUnits hC.hl G h9 x134_6 x134_4 σ28) q_659 q_660 q_661 q_14 q_662 yd_X1_takeUnits rfl ⟨Nat.le_of_ble_eq_true rfl, Nat.le_of_ble_eq_true rfl⟩ ⟨Nat.zero_le _, Nat.zero_le _⟩ rfl (Nat.le_of_ble_eq_true rfl) dX4_mix_191 (fun u30 σ31 => ?_)
    show Wo _ _ _ _ _ _ _ _ _ _ []
    refine r_aloadn hC 0 (r := (some a0)) rfl rfl dX4_mix_194 ?_
    refine r_gI hC (k := 4) (r := (some a0)) cls_4 (by decide) rfl q_191 (Or.inl rfl) dX4_mix_195 (fun v33 => ?_)
    refine r_iconst hC (1) rfl dX4_mix_198 ?_
    refine r_isub hC dX4_mix_199 (fun v34 => ?_)
    exact e_I hC ⟨Nat.zero_le _, Nat.zero_le _⟩ dX4_mix_200
  · refine r_aload hC 5 (r := x134_7) rfl dX4_mix_140 ?_
    refine r_gR hC (k := 14) (r := x134_7) cls_1 (by decide) rfl q_93 (Or.inl rfl) dX4_mix_142 (fun r35 => ?_)
    refine r_iload hC 7 rfl dX4_mix_145 ?_
    refine r_aload hC 3 (r := x134_5) rfl dX4_mix_147 ?_
    refine r_iload hC 7 rfl dX4_mix_149 ?_
    refine call_V hC (av := [.int x134_9]) (st := [.int x134_9, va_rf r35]) (r := x134_5) (ci := 1) rfl rfl (fun h9 => ct_X1_noteOf hC.hl G h9 x134_9 σ) q_463 q_415 q_416 q_14 q_417 yd_X1_noteOf rfl ⟨Nat.le_of_ble_eq_true rfl, Nat.le_of_ble_eq_true rfl⟩ ⟨Nat.zero_le _, Nat.zero_le _⟩ rfl (by simp [cat_rf, cat_i, cat_j, cat_d, cat_a]) dX4_mix_151 (fun v36 σ37 => ?_)
    show Wo _ _ _ _ _ _ _ _ _ _ [.int v36, .int x134_9, va_rf r35]
    refine r_iloadn hC 1 rfl rfl dX4_mix_154 ?_
    refine r_imul hC dX4_mix_155 (fun v39 => ?_)
    refine r_aload hC 4 (r := x134_6) rfl dX4_mix_156 ?_
    refine r_iload hC 7 rfl dX4_mix_158 ?_
    refine call_V hC (av := [.int x134_9]) (st := [.int v39, .int x134_9, va_rf r35]) (r := x134_6) (ci := 1) rfl rfl (fun h9 => ct_X1_noteOf hC.hl G h9 x134_9 σ37) q_463 q_415 q_416 q_14 q_417 yd_X1_noteOf rfl ⟨Nat.le_of_ble_eq_true rfl, Nat.le_of_ble_eq_true rfl⟩ ⟨Nat.zero_le _, Nat.zero_le _⟩ rfl (by simp [cat_rf, cat_i, cat_j, cat_d, cat_a]) dX4_mix_160 (fun v40 σ41 => ?_)
    show Wo _ _ _ _ _ _ _ _ _ _ [.int v40, .int v39, .int x134_9, va_rf r35]
    refine r_iload hC 2 rfl dX4_mix_163 ?_
    refine r_imul hC dX4_mix_165 (fun v43 => ?_)
    refine r_iadd hC dX4_mix_166 (fun v44 => ?_)
    refine r_iload hC 6 rfl dX4_mix_167 ?_
    refine r_idiv hC dX4_mix_169 (fun v45 => ?_)
    refine r_wI hC (r := r35) dX4_mix_170 (fun σ46 => ?_)
    refine r_iinc hC 7 (fun w => [(9, .int w), (0, va_rf (some a0)), (2, .int x134_2), (4, .int x134_4), (5, va_rf x134_5), (6, va_rf x134_6), (7, va_rf x134_7), (8, .int x134_8)]) 1 rfl (by decide) rfl (fun w => rfl) dX4_mix_171 (fun v47 => ?_)
    refine r_goto hC 134 dX4_mix_174 (by decide) ?_
    refine Wo.sub [1, 2, 3, 4, 5, 6, 7, 0] rfl ?_
    exact hk134 a0 x134_2 x134_4 x134_5 x134_6 x134_7 x134_8 v47 σ46

set_option maxRecDepth 100000 in
set_option maxHeartbeats 4000000 in
theorem u_X4_mix_134 {C : Cxt} {G : Glb} (hC : CX C G RX4 cX4_mix 10 (some .int) 3 0 0 58) : ∀ (n : Nat) (a0 : Nat) (x134_2 : Int32) (x134_4 : Int32) (x134_5 : (Option Nat)) (x134_6 : (Option Nat)) (x134_7 : (Option Nat)) (x134_8 : Int32) (x134_9 : Int32) (σ : Mem), Wo C G 10 (QP C G rvI 0 0) (l_X4_mix_134  n a0 x134_2 x134_4 x134_5 x134_6 x134_7 x134_8 x134_9 σ) σ 0 0 134 [(0, va_rf (some a0)), (2, .int x134_2), (4, .int x134_4), (5, va_rf x134_5), (6, va_rf x134_6), (7, va_rf x134_7), (8, .int x134_8), (9, .int x134_9)] [] := by
  intro n
  induction n with
  | zero => intro a0 x134_2 x134_4 x134_5 x134_6 x134_7 x134_8 x134_9 σ; exact Wo.none
  | succ n ih => intro a0 x134_2 x134_4 x134_5 x134_6 x134_7 x134_8 x134_9 σ; exact t_X4_mix_134 hC (l_X4_mix_134  n) ih a0 x134_2 x134_4 x134_5 x134_6 x134_7 x134_8 x134_9 σ

set_option maxRecDepth 100000 in
set_option maxHeartbeats 4000000 in
theorem t_X4_mix_122 {C : Cxt} {G : Glb} (hC : CX C G RX4 cX4_mix 10 (some .int) 3 0 0 58) (a0 : Nat) (x122_2 : Int32) (x122_4 : Int32) (x122_5 : (Option Nat)) (x122_6 : (Option Nat)) (x122_7 : (Option Nat)) (y122_0 : Int32) (y122_1 : (Option Nat)) (σ : Mem) : Wo C G 10 (QP C G rvI 0 0) (b_X4_mix_122  a0 x122_2 x122_4 x122_5 x122_6 x122_7 y122_0 y122_1 σ) σ 0 0 122 [(0, va_rf (some a0)), (2, .int x122_2), (4, .int x122_4), (5, va_rf x122_5), (6, va_rf x122_6), (7, va_rf x122_7)] [.int y122_0, va_rf y122_1] := by
  unfold b_X4_mix_122
  refine r_pB hC (k := 11) (r := y122_1) cls_1 (by decide) rfl q_87 (Or.inl rfl) (Or.inl rfl) dX4_mix_122 (fun σ25 => ?_)
  refine r_iloadn hC 1 rfl rfl dX4_mix_125 ?_
  refine r_iload hC 2 rfl dX4_mix_126 ?_
  refine r_iadd hC dX4_mix_128 (fun v26 => ?_)
  refine r_istore hC [(8, .int v26), (0, va_rf (some a0)), (2, .int x122_2), (4, .int x122_4), (5, va_rf x122_5), (6, va_rf x122_6), (7, va_rf x122_7)] (i := 8) (by decide) (by simp [List.filter, cat_rf, cat_i, cat_j, cat_d, cat_a]) dX4_mix_129 ?_
  refine r_iconst hC (0) rfl dX4_mix_131 ?_
  refine r_istore hC [(9, .int 0), (8, .int v26), (0, va_rf (some a0)), (2, .int x122_2), (4, .int x122_4), (5, va_rf x122_5), (6, va_rf x122_6), (7, va_rf x122_7)] (i := 9) (by decide) rfl dX4_mix_132 ?_
  refine Wo.sub [2, 3, 4, 5, 6, 7, 1, 0] rfl ?_
  exact u_X4_mix_134 hC 40 a0 x122_2 x122_4 x122_5 x122_6 x122_7 v26 0 σ25

set_option maxRecDepth 100000 in
set_option maxHeartbeats 4000000 in
theorem t_X4_mix_117 {C : Cxt} {G : Glb} (hC : CX C G RX4 cX4_mix 10 (some .int) 3 0 0 58) (a0 : Nat) (x117_2 : Int32) (x117_4 : Int32) (x117_5 : (Option Nat)) (x117_6 : (Option Nat)) (x117_7 : (Option Nat)) (y117_0 : (Option Nat)) (σ : Mem) : Wo C G 10 (QP C G rvI 0 0) (b_X4_mix_117  a0 x117_2 x117_4 x117_5 x117_6 x117_7 y117_0 σ) σ 0 0 117 [(0, va_rf (some a0)), (2, .int x117_2), (4, .int x117_4), (5, va_rf x117_5), (6, va_rf x117_6), (7, va_rf x117_7)] [va_rf y117_0] := by
  unfold b_X4_mix_117
  refine r_iconst hC (1) rfl dX4_mix_117 ?_
  refine r_goto hC 122 dX4_mix_118 (by decide) ?_
  exact t_X4_mix_122 hC a0 x117_2 x117_4 x117_5 x117_6 x117_7 1 y117_0 σ

set_option maxRecDepth 100000 in
set_option maxHeartbeats 4000000 in
theorem t_X4_mix_78 {C : Cxt} {G : Glb} (hC : CX C G RX4 cX4_mix 10 (some .int) 3 0 0 58) (a0 : Nat) (x78_2 : Int32) (x78_4 : Int32) (x78_5 : (Option Nat)) (x78_6 : (Option Nat)) (y78_0 : Int32) (σ : Mem) : Wo C G 10 (QP C G rvI 0 0) (b_X4_mix_78  a0 x78_2 x78_4 x78_5 x78_6 y78_0 σ) σ 0 0 78 [(0, va_rf (some a0)), (2, .int x78_2), (4, .int x78_4), (5, va_rf x78_5), (6, va_rf x78_6)] [.int y78_0] := by
  unfold b_X4_mix_78
  refine call_S hC (av := [.int y78_0]) (st := []) (ct_X4_requireState hC.hl G y78_0 σ) q_294 q_295 q_13 q_296 yd_X4_requireState rfl ⟨Nat.le_of_ble_eq_true rfl, Nat.le_of_ble_eq_true rfl⟩ ⟨Nat.zero_le _, Nat.zero_le _⟩ rfl (Nat.le_of_ble_eq_true rfl) dX4_mix_78 (fun u17 σ18 => ?_)
  show Wo _ _ _ _ _ _ _ _ _ _ []
  refine r_aloadn hC 0 (r := (some a0)) rfl rfl dX4_mix_81 ?_
  refine call_V hC (av := []) (st := []) (r := (some a0)) (ci := 4) rfl rfl (fun h9 => ct_X4_newLot hC.hl G h9 σ18) q_345 q_347 q_2 q_13 q_348 yd_X4_newLot rfl ⟨Nat.le_of_ble_eq_true rfl, Nat.le_of_ble_eq_true rfl⟩ ⟨Nat.zero_le _, Nat.zero_le _⟩ rfl (Nat.le_of_ble_eq_true rfl) dX4_mix_82 (fun r19 σ20 => ?_)
  show Wo _ _ _ _ _ _ _ _ _ _ [va_rf r19]
  refine r_astore hC [(7, va_rf r19), (0, va_rf (some a0)), (2, .int x78_2), (4, .int x78_4), (5, va_rf x78_5), (6, va_rf x78_6)] (r := r19) (i := 7) (by decide) (by simp [List.filter, cat_rf, cat_i, cat_j, cat_d, cat_a]) dX4_mix_85 ?_
  refine r_aload hC 0 (r := r19) rfl dX4_mix_87 ?_
  refine r_iconst hC (2) rfl dX4_mix_89 ?_
  refine r_pI hC (k := 0) (r := r19) cls_1 (by decide) rfl q_65 (Or.inl rfl) (Or.inl rfl) dX4_mix_90 (fun σ22 => ?_)
  refine r_aload hC 0 (r := r19) rfl dX4_mix_93 ?_
  refine r_iconst hC (1) rfl dX4_mix_95 ?_
  refine r_pB hC (k := 12) (r := r19) cls_1 (by decide) rfl q_89 (Or.inl rfl) (Or.inl rfl) dX4_mix_96 (fun σ23 => ?_)
  refine r_aload hC 0 (r := r19) rfl dX4_mix_99 ?_
  refine r_aload hC 4 (r := x78_5) rfl dX4_mix_101 ?_
  refine r_gI hC (k := 11) (r := x78_5) cls_1 (by decide) rfl q_87 (Or.inl rfl) dX4_mix_103 (fun v24 => ?_)
  refine r_if_ne hC 117 dX4_mix_106 (by decide) ?_ ?_
  · refine Wo.sub [1, 2, 3, 4, 5, 0] rfl ?_
    exact t_X4_mix_117 hC a0 x78_2 x78_4 x78_5 x78_6 r19 r19 σ23
  · refine r_aload hC 5 (r := x78_6) rfl dX4_mix_109 ?_
    refine r_gI hC (k := 11) (r := x78_6) cls_1 (by decide) rfl q_87 (Or.inl rfl) dX4_mix_111 (fun v48 => ?_)
    refine r_if_eq hC 121 dX4_mix_114 (by decide) ?_ ?_
    · refine r_iconst hC (0) rfl dX4_mix_121 ?_
      refine Wo.sub [1, 2, 3, 4, 5, 0] rfl ?_
      exact t_X4_mix_122 hC a0 x78_2 x78_4 x78_5 x78_6 r19 0 r19 σ23
    · refine Wo.sub [1, 2, 3, 4, 5, 0] rfl ?_
      exact t_X4_mix_117 hC a0 x78_2 x78_4 x78_5 x78_6 r19 r19 σ23

set_option maxRecDepth 100000 in
set_option maxHeartbeats 4000000 in
theorem t_X4_mix_77 {C : Cxt} {G : Glb} (hC : CX C G RX4 cX4_mix 10 (some .int) 3 0 0 58) (a0 : Nat) (x77_2 : Int32) (x77_4 : Int32) (x77_5 : (Option Nat)) (x77_6 : (Option Nat)) (σ : Mem) : Wo C G 10 (QP C G rvI 0 0) (b_X4_mix_77  a0 x77_2 x77_4 x77_5 x77_6 σ) σ 0 0 77 [(0, va_rf (some a0)), (2, .int x77_2), (4, .int x77_4), (5, va_rf x77_5), (6, va_rf x77_6)] [] := by
  unfold b_X4_mix_77
  refine r_iconst hC (0) rfl dX4_mix_77 ?_
  exact t_X4_mix_78 hC a0 x77_2 x77_4 x77_5 x77_6 0 σ

set_option maxRecDepth 100000 in
set_option maxHeartbeats 4000000 in
theorem t_X4_mix_46 {C : Cxt} {G : Glb} (hC : CX C G RX4 cX4_mix 10 (some .int) 3 0 0 58) (a0 : Nat) (x46_2 : Int32) (x46_4 : Int32) (x46_5 : (Option Nat)) (x46_6 : (Option Nat)) (y46_0 : Int32) (σ : Mem) : Wo C G 10 (QP C G rvI 0 0) (b_X4_mix_46  a0 x46_2 x46_4 x46_5 x46_6 y46_0 σ) σ 0 0 46 [(0, va_rf (some a0)), (2, .int x46_2), (4, .int x46_4), (5, va_rf x46_5), (6, va_rf x46_6)] [.int y46_0] := by
  unfold b_X4_mix_46
  refine call_S hC (av := [.int y46_0]) (st := []) (ct_X4_requireState hC.hl G y46_0 σ) q_294 q_295 q_13 q_296 yd_X4_requireState rfl ⟨Nat.le_of_ble_eq_true rfl, Nat.le_of_ble_eq_true rfl⟩ ⟨Nat.zero_le _, Nat.zero_le _⟩ rfl (Nat.le_of_ble_eq_true rfl) dX4_mix_46 (fun u12 σ13 => ?_)
  show Wo _ _ _ _ _ _ _ _ _ _ []
  refine r_aload hC 4 (r := x46_6) rfl dX4_mix_49 ?_
  refine call_V hC (av := []) (st := []) (r := x46_6) (ci := 1) rfl rfl (fun h9 => ct_X1_isFreeMade hC.hl G h9 σ13) q_455 q_456 q_457 q_14 q_458 yd_X1_isFreeMade rfl ⟨Nat.le_of_ble_eq_true rfl, Nat.le_of_ble_eq_true rfl⟩ ⟨Nat.zero_le _, Nat.zero_le _⟩ rfl (Nat.le_of_ble_eq_true rfl) dX4_mix_51 (fun v14 σ15 => ?_)
  show Wo _ _ _ _ _ _ _ _ _ _ [.int v14]
  refine r_if_eq hC 77 dX4_mix_54 (by decide) ?_ ?_
  · exact t_X4_mix_77 hC a0 x46_2 x46_4 x46_5 x46_6 σ15
  · refine r_iload hC 2 rfl dX4_mix_57 ?_
    refine r_iconst hC (1) rfl dX4_mix_59 ?_
    refine r_icmp_lt hC 77 dX4_mix_60 (by decide) ?_ ?_
    · exact t_X4_mix_77 hC a0 x46_2 x46_4 x46_5 x46_6 σ15
    · refine r_iload hC 2 rfl dX4_mix_63 ?_
      refine r_aload hC 4 (r := x46_6) rfl dX4_mix_65 ?_
      refine r_gI hC (k := 1) (r := x46_6) cls_1 (by decide) rfl q_67 (Or.inl rfl) dX4_mix_67 (fun v49 => ?_)
      refine r_icmp_gt hC 77 dX4_mix_70 (by decide) ?_ ?_
      · exact t_X4_mix_77 hC a0 x46_2 x46_4 x46_5 x46_6 σ15
      · refine r_iconst hC (1) rfl dX4_mix_73 ?_
        refine r_goto hC 78 dX4_mix_74 (by decide) ?_
        exact t_X4_mix_78 hC a0 x46_2 x46_4 x46_5 x46_6 1 σ15

set_option maxRecDepth 100000 in
set_option maxHeartbeats 4000000 in
theorem t_X4_mix_45 {C : Cxt} {G : Glb} (hC : CX C G RX4 cX4_mix 10 (some .int) 3 0 0 58) (a0 : Nat) (x45_2 : Int32) (x45_4 : Int32) (x45_5 : (Option Nat)) (x45_6 : (Option Nat)) (σ : Mem) : Wo C G 10 (QP C G rvI 0 0) (b_X4_mix_45  a0 x45_2 x45_4 x45_5 x45_6 σ) σ 0 0 45 [(0, va_rf (some a0)), (2, .int x45_2), (4, .int x45_4), (5, va_rf x45_5), (6, va_rf x45_6)] [] := by
  unfold b_X4_mix_45
  refine r_iconst hC (0) rfl dX4_mix_45 ?_
  exact t_X4_mix_46 hC a0 x45_2 x45_4 x45_5 x45_6 0 σ

set_option maxRecDepth 100000 in
set_option maxHeartbeats 4000000 in
theorem t_X4_mix_0 {C : Cxt} {G : Glb} (hC : CX C G RX4 cX4_mix 10 (some .int) 3 0 0 58) (a0 : Nat) (p0 : Int32) (p1 : Int32) (p2 : Int32) (p3 : Int32) (σ : Mem) : Wo C G 10 (QP C G rvI 0 0) (b_X4_mix_0  a0 p0 p1 p2 p3 σ) σ 0 0 0 [(0, va_rf (some a0)), (1, .int p0), (2, .int p1), (3, .int p2), (4, .int p3)] [] := by
  unfold b_X4_mix_0
  refine r_aloadn hC 0 (r := (some a0)) rfl rfl dX4_mix_0 ?_
  refine r_iloadn hC 1 rfl rfl dX4_mix_1 ?_
  refine call_V hC (av := [.int p0]) (st := []) (r := (some a0)) (ci := 4) rfl rfl (fun h9 => ct_X4_lotAt hC.hl G h9 p0 σ) q_357 q_359 q_3 q_13 q_360 yd_X4_lotAt rfl ⟨Nat.le_of_ble_eq_true rfl, Nat.le_of_ble_eq_true rfl⟩ ⟨Nat.zero_le _, Nat.zero_le _⟩ rfl (Nat.le_of_ble_eq_true rfl) dX4_mix_2 (fun r1 σ2 => ?_)
  show Wo _ _ _ _ _ _ _ _ _ _ [va_rf r1]
  refine r_astore hC [(5, va_rf r1), (0, va_rf (some a0)), (1, .int p0), (2, .int p1), (3, .int p2), (4, .int p3)] (r := r1) (i := 5) (by decide) rfl dX4_mix_5 ?_
  refine r_aloadn hC 1 (r := (some a0)) rfl rfl dX4_mix_7 ?_
  refine r_iloadn hC 4 rfl rfl dX4_mix_8 ?_
  refine call_V hC (av := [.int p2]) (st := []) (r := (some a0)) (ci := 4) rfl rfl (fun h9 => ct_X4_lotAt hC.hl G h9 p2 σ2) q_357 q_359 q_3 q_13 q_360 yd_X4_lotAt rfl ⟨Nat.le_of_ble_eq_true rfl, Nat.le_of_ble_eq_true rfl⟩ ⟨Nat.zero_le _, Nat.zero_le _⟩ rfl (Nat.le_of_ble_eq_true rfl) dX4_mix_9 (fun r4 σ5 => ?_)
  show Wo _ _ _ _ _ _ _ _ _ _ [va_rf r4]
  refine r_astore hC [(6, va_rf r4), (5, va_rf r1), (0, va_rf (some a0)), (1, .int p0), (2, .int p1), (3, .int p2), (4, .int p3)] (r := r4) (i := 6) (by decide) (by simp [List.filter, cat_rf, cat_i, cat_j, cat_d, cat_a]) dX4_mix_12 ?_
  refine r_iloadn hC 3 rfl rfl dX4_mix_14 ?_
  refine r_iloadn hC 5 rfl rfl dX4_mix_15 ?_
  refine call_S hC (av := [.int p0, .int p2]) (st := []) (ct_X4_requireDifferent hC.hl G p0 p2 σ5) q_656 q_657 q_13 q_658 yd_X4_requireDifferent rfl ⟨Nat.le_of_ble_eq_true rfl, Nat.le_of_ble_eq_true rfl⟩ ⟨Nat.zero_le _, Nat.zero_le _⟩ rfl (Nat.le_of_ble_eq_true rfl) dX4_mix_16 (fun u7 σ8 => ?_)
  show Wo _ _ _ _ _ _ _ _ _ _ []
  refine r_aload hC 1 (r := r1) rfl dX4_mix_19 ?_
  refine call_V hC (av := []) (st := []) (r := r1) (ci := 1) rfl rfl (fun h9 => ct_X1_isFreeMade hC.hl G h9 σ8) q_455 q_456 q_457 q_14 q_458 yd_X1_isFreeMade rfl ⟨Nat.le_of_ble_eq_true rfl, Nat.le_of_ble_eq_true rfl⟩ ⟨Nat.zero_le _, Nat.zero_le _⟩ rfl (Nat.le_of_ble_eq_true rfl) dX4_mix_21 (fun v9 σ10 => ?_)
  show Wo _ _ _ _ _ _ _ _ _ _ [.int v9]
  refine r_if_eq hC 45 dX4_mix_24 (by decide) ?_ ?_
  · refine Wo.sub [2, 4, 6, 1, 0] rfl ?_
    exact t_X4_mix_45 hC a0 p1 p3 r1 r4 σ10
  · refine r_iloadn hC 4 rfl rfl dX4_mix_27 ?_
    refine r_iconst hC (1) rfl dX4_mix_28 ?_
    refine r_icmp_lt hC 45 dX4_mix_29 (by decide) ?_ ?_
    · refine Wo.sub [2, 4, 6, 1, 0] rfl ?_
      exact t_X4_mix_45 hC a0 p1 p3 r1 r4 σ10
    · refine r_iloadn hC 4 rfl rfl dX4_mix_32 ?_
      refine r_aload hC 1 (r := r1) rfl dX4_mix_33 ?_
      refine r_gI hC (k := 1) (r := r1) cls_1 (by decide) rfl q_67 (Or.inl rfl) dX4_mix_35 (fun v50 => ?_)
      refine r_icmp_gt hC 45 dX4_mix_38 (by decide) ?_ ?_
      · refine Wo.sub [2, 4, 6, 1, 0] rfl ?_
        exact t_X4_mix_45 hC a0 p1 p3 r1 r4 σ10
      · refine r_iconst hC (1) rfl dX4_mix_41 ?_
        refine r_goto hC 46 dX4_mix_42 (by decide) ?_
        refine Wo.sub [2, 4, 6, 1, 0] rfl ?_
        exact t_X4_mix_46 hC a0 p1 p3 r1 r4 1 σ10

set_option maxRecDepth 100000 in
set_option maxHeartbeats 4000000 in
theorem ct_X4_mix {l : Launch} (hl : l.stackTraces = false) (G : Glb) (a0 : Nat) (p0 : Int32) (p1 : Int32) (p2 : Int32) (p3 : Int32) (σ : Mem) : Ct rvI l yX4_mix (Cond.code yX4_mix cX4_mix 10 (some .int) :: uW) { frames := 3, cells := 0, slots := 0, locals := 58 } 0 0 G [.ref a0, .int p0, .int p1, .int p2, .int p3] σ (f_X4_mix a0 p0 p1 p2 p3 σ) := by
  refine Ct.of hl (by decide +kernel) (Nat.le_of_ble_eq_true rfl) (fun C hC hin => ?_)
  have e : lv_args 0 [.ref a0, .int p0, .int p1, .int p2, .int p3] = [(0, .ref a0), (1, .int p0), (2, .int p1), (3, .int p2), (4, .int p3)] := rfl
  rw [e]
  exact t_X4_mix_0 hC a0 p0 p1 p2 p3 σ

noncomputable def b_X4_tasterAt_0 (a0 : Nat) (p0 : Int32) (σ : Mem) : Option ((Option Nat) × Mem) :=
cl1 (f_X4_requireIndex p0 3 σ) fun u1 σ2 =>
gR 4 6 σ2 (some a0) fun r3 =>
aR 3 σ2 r3 p0 fun r4 =>
some (r4, σ2)

noncomputable def f_X4_tasterAt (a0 : Nat) (p0 : Int32) (σ : Mem) : Option ((Option Nat) × Mem) := b_X4_tasterAt_0 a0 p0 σ
set_option maxRecDepth 100000 in
set_option maxHeartbeats 4000000 in
theorem t_X4_tasterAt_0 {C : Cxt} {G : Glb} (hC : CX C G RX4 cX4_tasterAt 2 (some (.object "FlushGarden$Taster")) 1 0 0 21) (a0 : Nat) (p0 : Int32) (σ : Mem) : Wo C G 2 (QP C G rvR 0 0) (b_X4_tasterAt_0  a0 p0 σ) σ 0 0 0 [(0, va_rf (some a0)), (1, .int p0)] [] := by
  unfold b_X4_tasterAt_0
  refine r_iloadn hC 1 rfl rfl dX4_tasterAt_0 ?_
  refine r_iconst hC (3) rfl dX4_tasterAt_1 ?_
  refine call_S hC (av := [.int p0, .int 3]) (st := []) (ct_X4_requireIndex hC.hl G p0 3 σ) q_320 q_321 q_13 q_322 yd_X4_requireIndex rfl ⟨Nat.le_of_ble_eq_true rfl, Nat.le_of_ble_eq_true rfl⟩ ⟨Nat.zero_le _, Nat.zero_le _⟩ rfl (Nat.le_of_ble_eq_true rfl) dX4_tasterAt_2 (fun u1 σ2 => ?_)
  show Wo _ _ _ _ _ _ _ _ _ _ []
  refine r_aloadn hC 0 (r := (some a0)) rfl rfl dX4_tasterAt_5 ?_
  refine r_gR hC (k := 6) (r := (some a0)) cls_4 (by decide) rfl q_193 (Or.inl rfl) dX4_tasterAt_6 (fun r3 => ?_)
  refine r_iloadn hC 1 rfl rfl dX4_tasterAt_9 ?_
  refine r_aR hC (t := 3) (r := r3) rfl rfl dX4_tasterAt_10 (fun r4 => ?_)
  exact e_R hC (Or.inl ⟨_, rfl⟩) ⟨Nat.zero_le _, Nat.zero_le _⟩ dX4_tasterAt_11

set_option maxRecDepth 100000 in
set_option maxHeartbeats 4000000 in
theorem ct_X4_tasterAt {l : Launch} (hl : l.stackTraces = false) (G : Glb) (a0 : Nat) (p0 : Int32) (σ : Mem) : Ct rvR l yX4_tasterAt (Cond.code yX4_tasterAt cX4_tasterAt 2 (some (.object "FlushGarden$Taster")) :: uW) { frames := 1, cells := 0, slots := 0, locals := 21 } 0 0 G [.ref a0, .int p0] σ (f_X4_tasterAt a0 p0 σ) := by
  refine Ct.of hl (by decide +kernel) (Nat.le_of_ble_eq_true rfl) (fun C hC hin => ?_)
  have e : lv_args 0 [.ref a0, .int p0] = [(0, .ref a0), (1, .int p0)] := rfl
  rw [e]
  exact t_X4_tasterAt_0 hC a0 p0 σ

noncomputable def b_X4_lean_0 (a0 : Nat) (p0 : Int32) (p1 : Int32) (σ : Mem) : Option ((Int32) × Mem) :=
ob 4 σ (some a0) fun h3 => cl1 (f_X4_tasterAt h3 p0 σ) fun r1 σ2 =>
cl1 (f_X4_requireArgument p1 (-2) 2 σ2) fun u4 σ5 =>
gI 3 0 σ5 r1 fun v6 =>
pI 3 0 σ5 r1 p1 fun σ7 =>
some (v6, σ7)

noncomputable def f_X4_lean (a0 : Nat) (p0 : Int32) (p1 : Int32) (σ : Mem) : Option ((Int32) × Mem) := b_X4_lean_0 a0 p0 p1 σ
set_option maxRecDepth 100000 in
set_option maxHeartbeats 4000000 in
theorem t_X4_lean_0 {C : Cxt} {G : Glb} (hC : CX C G RX4 cX4_lean 5 (some .int) 2 0 0 42) (a0 : Nat) (p0 : Int32) (p1 : Int32) (σ : Mem) : Wo C G 5 (QP C G rvI 0 0) (b_X4_lean_0  a0 p0 p1 σ) σ 0 0 0 [(0, va_rf (some a0)), (1, .int p0), (2, .int p1)] [] := by
  unfold b_X4_lean_0
  refine r_aloadn hC 0 (r := (some a0)) rfl rfl dX4_lean_0 ?_
  refine r_iloadn hC 1 rfl rfl dX4_lean_1 ?_
  refine call_V hC (av := [.int p0]) (st := []) (r := (some a0)) (ci := 4) rfl rfl (fun h9 => ct_X4_tasterAt hC.hl G h9 p0 σ) q_544 q_546 q_10 q_13 q_547 yd_X4_tasterAt rfl ⟨Nat.le_of_ble_eq_true rfl, Nat.le_of_ble_eq_true rfl⟩ ⟨Nat.zero_le _, Nat.zero_le _⟩ rfl (Nat.le_of_ble_eq_true rfl) dX4_lean_2 (fun r1 σ2 => ?_)
  show Wo _ _ _ _ _ _ _ _ _ _ [va_rf r1]
  refine r_astoren hC [(3, va_rf r1), (0, va_rf (some a0)), (1, .int p0), (2, .int p1)] (r := r1) (i := 3) rfl (by decide) rfl dX4_lean_5 ?_
  refine r_iloadn hC 3 rfl rfl dX4_lean_6 ?_
  refine r_bipush hC (-2) (by decide) dX4_lean_7 ?_
  refine r_iconst hC (2) rfl dX4_lean_9 ?_
  refine call_S hC (av := [.int p1, .int (-2), .int 2]) (st := []) (ct_X4_requireArgument hC.hl G p1 (-2) 2 σ2) q_228 q_229 q_13 q_230 yd_X4_requireArgument rfl ⟨Nat.le_of_ble_eq_true rfl, Nat.le_of_ble_eq_true rfl⟩ ⟨Nat.zero_le _, Nat.zero_le _⟩ rfl (Nat.le_of_ble_eq_true rfl) dX4_lean_10 (fun u4 σ5 => ?_)
  show Wo _ _ _ _ _ _ _ _ _ _ []
  refine r_aloadn hC 0 (r := r1) rfl rfl dX4_lean_13 ?_
  refine r_gI hC (k := 0) (r := r1) cls_3 (by decide) rfl q_175 (Or.inl rfl) dX4_lean_14 (fun v6 => ?_)
  refine r_istore hC [(4, .int v6), (3, va_rf r1), (0, va_rf (some a0)), (1, .int p0), (2, .int p1)] (i := 4) (by decide) (by simp [List.filter, cat_rf, cat_i, cat_j, cat_d, cat_a]) dX4_lean_17 ?_
  refine r_aloadn hC 1 (r := r1) rfl rfl dX4_lean_19 ?_
  refine r_iloadn hC 4 rfl rfl dX4_lean_20 ?_
  refine r_pI hC (k := 0) (r := r1) cls_3 (by decide) rfl q_175 (Or.inl rfl) (Or.inl rfl) dX4_lean_21 (fun σ7 => ?_)
  refine r_iload hC 0 rfl dX4_lean_24 ?_
  exact e_I hC ⟨Nat.zero_le _, Nat.zero_le _⟩ dX4_lean_26

set_option maxRecDepth 100000 in
set_option maxHeartbeats 4000000 in
theorem ct_X4_lean {l : Launch} (hl : l.stackTraces = false) (G : Glb) (a0 : Nat) (p0 : Int32) (p1 : Int32) (σ : Mem) : Ct rvI l yX4_lean (Cond.code yX4_lean cX4_lean 5 (some .int) :: uW) { frames := 2, cells := 0, slots := 0, locals := 42 } 0 0 G [.ref a0, .int p0, .int p1] σ (f_X4_lean a0 p0 p1 σ) := by
  refine Ct.of hl (by decide +kernel) (Nat.le_of_ble_eq_true rfl) (fun C hC hin => ?_)
  have e : lv_args 0 [.ref a0, .int p0, .int p1] = [(0, .ref a0), (1, .int p0), (2, .int p1)] := rfl
  rw [e]
  exact t_X4_lean_0 hC a0 p0 p1 σ

noncomputable def b_X4_madeLotAt_19 (x19_2 : (Option Nat)) (y19_0 : Int32) (σ : Mem) : Option ((Option Nat) × Mem) :=
cl1 (f_X4_requireState y19_0 σ) fun u5 σ6 =>
some (x19_2, σ6)

noncomputable def b_X4_madeLotAt_0 (a0 : Nat) (p0 : Int32) (σ : Mem) : Option ((Option Nat) × Mem) :=
ob 4 σ (some a0) fun h3 => cl1 (f_X4_lotAt h3 p0 σ) fun r1 σ2 =>
gI 1 0 σ2 r1 fun v4 =>
if v4 = 2 then
b_X4_madeLotAt_19 r1 1 σ2
else
b_X4_madeLotAt_19 r1 0 σ2

noncomputable def f_X4_madeLotAt (a0 : Nat) (p0 : Int32) (σ : Mem) : Option ((Option Nat) × Mem) := b_X4_madeLotAt_0 a0 p0 σ
set_option maxRecDepth 100000 in
set_option maxHeartbeats 4000000 in
theorem t_X4_madeLotAt_19 {C : Cxt} {G : Glb} (hC : CX C G RX4 cX4_madeLotAt 3 (some (.object "FlushGarden$Lot")) 2 0 0 42) (x19_2 : (Option Nat)) (y19_0 : Int32) (σ : Mem) : Wo C G 3 (QP C G rvR 0 0) (b_X4_madeLotAt_19  x19_2 y19_0 σ) σ 0 0 19 [(2, va_rf x19_2)] [.int y19_0] := by
  unfold b_X4_madeLotAt_19
  refine call_S hC (av := [.int y19_0]) (st := []) (ct_X4_requireState hC.hl G y19_0 σ) q_294 q_295 q_13 q_296 yd_X4_requireState rfl ⟨Nat.le_of_ble_eq_true rfl, Nat.le_of_ble_eq_true rfl⟩ ⟨Nat.zero_le _, Nat.zero_le _⟩ rfl (Nat.le_of_ble_eq_true rfl) dX4_madeLotAt_19 (fun u5 σ6 => ?_)
  show Wo _ _ _ _ _ _ _ _ _ _ []
  refine r_aloadn hC 0 (r := x19_2) rfl rfl dX4_madeLotAt_22 ?_
  exact e_R hC (Or.inl ⟨_, rfl⟩) ⟨Nat.zero_le _, Nat.zero_le _⟩ dX4_madeLotAt_23

set_option maxRecDepth 100000 in
set_option maxHeartbeats 4000000 in
theorem t_X4_madeLotAt_0 {C : Cxt} {G : Glb} (hC : CX C G RX4 cX4_madeLotAt 3 (some (.object "FlushGarden$Lot")) 2 0 0 42) (a0 : Nat) (p0 : Int32) (σ : Mem) : Wo C G 3 (QP C G rvR 0 0) (b_X4_madeLotAt_0  a0 p0 σ) σ 0 0 0 [(0, va_rf (some a0)), (1, .int p0)] [] := by
  unfold b_X4_madeLotAt_0
  refine r_aloadn hC 0 (r := (some a0)) rfl rfl dX4_madeLotAt_0 ?_
  refine r_iloadn hC 1 rfl rfl dX4_madeLotAt_1 ?_
  refine call_V hC (av := [.int p0]) (st := []) (r := (some a0)) (ci := 4) rfl rfl (fun h9 => ct_X4_lotAt hC.hl G h9 p0 σ) q_357 q_359 q_3 q_13 q_360 yd_X4_lotAt rfl ⟨Nat.le_of_ble_eq_true rfl, Nat.le_of_ble_eq_true rfl⟩ ⟨Nat.zero_le _, Nat.zero_le _⟩ rfl (Nat.le_of_ble_eq_true rfl) dX4_madeLotAt_2 (fun r1 σ2 => ?_)
  show Wo _ _ _ _ _ _ _ _ _ _ [va_rf r1]
  refine r_astoren hC [(2, va_rf r1), (0, va_rf (some a0)), (1, .int p0)] (r := r1) (i := 2) rfl (by decide) rfl dX4_madeLotAt_5 ?_
  refine r_aloadn hC 0 (r := r1) rfl rfl dX4_madeLotAt_6 ?_
  refine r_gI hC (k := 0) (r := r1) cls_1 (by decide) rfl q_65 (Or.inl rfl) dX4_madeLotAt_7 (fun v4 => ?_)
  refine r_iconst hC (2) rfl dX4_madeLotAt_10 ?_
  refine r_icmp_ne hC 18 dX4_madeLotAt_11 (by decide) ?_ ?_
  · refine r_iconst hC (0) rfl dX4_madeLotAt_18 ?_
    refine Wo.sub [0] rfl ?_
    exact t_X4_madeLotAt_19 hC r1 0 σ2
  · refine r_iconst hC (1) rfl dX4_madeLotAt_14 ?_
    refine r_goto hC 19 dX4_madeLotAt_15 (by decide) ?_
    refine Wo.sub [0] rfl ?_
    exact t_X4_madeLotAt_19 hC r1 1 σ2

set_option maxRecDepth 100000 in
set_option maxHeartbeats 4000000 in
theorem ct_X4_madeLotAt {l : Launch} (hl : l.stackTraces = false) (G : Glb) (a0 : Nat) (p0 : Int32) (σ : Mem) : Ct rvR l yX4_madeLotAt (Cond.code yX4_madeLotAt cX4_madeLotAt 3 (some (.object "FlushGarden$Lot")) :: uW) { frames := 2, cells := 0, slots := 0, locals := 42 } 0 0 G [.ref a0, .int p0] σ (f_X4_madeLotAt a0 p0 σ) := by
  refine Ct.of hl (by decide +kernel) (Nat.le_of_ble_eq_true rfl) (fun C hC hin => ?_)
  have e : lv_args 0 [.ref a0, .int p0] = [(0, .ref a0), (1, .int p0)] := rfl
  rw [e]
  exact t_X4_madeLotAt_0 hC a0 p0 σ

noncomputable def b_X4_repeat_16 (k16 : (Option Nat) → (Option Nat) → Int32 → Mem → Option ((Int32) × Mem)) (x16_3 : (Option Nat)) (x16_4 : (Option Nat)) (x16_5 : Int32) (σ : Mem) : Option ((Int32) × Mem) :=
if 3 ≤ x16_5 then
gI 3 2 σ x16_3 fun v7 =>
nm (v7 + 1) fun v8 =>
pI 3 2 σ x16_3 v8 fun σ9 =>
ob 3 σ9 x16_3 fun h12 => cl1 (f_X3_guess h12 σ9) fun v10 σ11 =>
some (v10, σ11)
else
ob 1 σ x16_4 fun h15 => cl1 (f_X1_noteOf h15 x16_5 σ) fun v13 σ14 =>
gI 3 1 σ14 x16_3 fun v16 =>
ob 3 σ14 x16_3 fun h19 => cl1 (f_X3_tells h19 v13 σ14) fun v17 σ18 =>
nm (v17 - v13) fun v20 =>
nm (v16 + v20) fun v21 =>
pI 3 1 σ18 x16_3 v21 fun σ22 =>
nm (x16_5 + 1) fun v23 =>
k16 x16_3 x16_4 v23 σ22

noncomputable def l_X4_repeat_16 (n : Nat) : (Option Nat) → (Option Nat) → Int32 → Mem → Option ((Int32) × Mem) := itr (fun _ _ _ _ => none) (fun k => b_X4_repeat_16  k) n

noncomputable def b_X4_repeat_0 (a0 : Nat) (p0 : Int32) (p1 : Int32) (σ : Mem) : Option ((Int32) × Mem) :=
ob 4 σ (some a0) fun h3 => cl1 (f_X4_tasterAt h3 p0 σ) fun r1 σ2 =>
ob 4 σ2 (some a0) fun h6 => cl1 (f_X4_madeLotAt h6 p1 σ2) fun r4 σ5 =>
l_X4_repeat_16 40 r1 r4 0 σ5

noncomputable def f_X4_repeat (a0 : Nat) (p0 : Int32) (p1 : Int32) (σ : Mem) : Option ((Int32) × Mem) := b_X4_repeat_0 a0 p0 p1 σ
set_option maxRecDepth 100000 in
set_option maxHeartbeats 4000000 in
theorem t_X4_repeat_16 {C : Cxt} {G : Glb} (hC : CX C G RX4 cX4_repeat 7 (some .int) 3 0 0 64) (k16 : (Option Nat) → (Option Nat) → Int32 → Mem → Option ((Int32) × Mem)) (hk16 : ∀ (x16_3 : (Option Nat)) (x16_4 : (Option Nat)) (x16_5 : Int32) (σ : Mem), Wo C G 7 (QP C G rvI 0 0) (k16 x16_3 x16_4 x16_5 σ) σ 0 0 16 [(3, va_rf x16_3), (4, va_rf x16_4), (5, .int x16_5)] []) (x16_3 : (Option Nat)) (x16_4 : (Option Nat)) (x16_5 : Int32) (σ : Mem) : Wo C G 7 (QP C G rvI 0 0) (b_X4_repeat_16 k16 x16_3 x16_4 x16_5 σ) σ 0 0 16 [(3, va_rf x16_3), (4, va_rf x16_4), (5, .int x16_5)] [] := by
  unfold b_X4_repeat_16
  refine r_iload hC 2 rfl dX4_repeat_16 ?_
  refine r_iconst hC (3) rfl dX4_repeat_18 ?_
  refine r_icmp_ge hC 55 dX4_repeat_19 (by decide) ?_ ?_
  · refine r_aloadn hC 0 (r := x16_3) rfl rfl dX4_repeat_55 ?_
    refine r_dup hC (cat_rf _) dX4_repeat_56 ?_
    refine r_gI hC (k := 2) (r := x16_3) cls_3 (by decide) rfl q_179 (Or.inl rfl) dX4_repeat_57 (fun v7 => ?_)
    refine r_iconst hC (1) rfl dX4_repeat_60 ?_
    refine r_iadd hC dX4_repeat_61 (fun v8 => ?_)
    refine r_pI hC (k := 2) (r := x16_3) cls_3 (by decide) rfl q_179 (Or.inl rfl) (Or.inl rfl) dX4_repeat_62 (fun σ9 => ?_)
    refine r_aloadn hC 0 (r := x16_3) rfl rfl dX4_repeat_65 ?_
    refine call_V hC (av := []) (st := []) (r := x16_3) (ci := 3) rfl rfl (fun h9 => ct_X3_guess hC.hl G h9 σ9) q_492 q_493 q_494 q_17 q_495 yd_X3_guess rfl ⟨Nat.le_of_ble_eq_true rfl, Nat.le_of_ble_eq_true rfl⟩ ⟨Nat.zero_le _, Nat.zero_le _⟩ rfl (Nat.le_of_ble_eq_true rfl) dX4_repeat_66 (fun v10 σ11 => ?_)
    show Wo _ _ _ _ _ _ _ _ _ _ [.int v10]
    exact e_I hC ⟨Nat.zero_le _, Nat.zero_le _⟩ dX4_repeat_69
  · refine r_aload hC 1 (r := x16_4) rfl dX4_repeat_22 ?_
    refine r_iload hC 2 rfl dX4_repeat_24 ?_
    refine call_V hC (av := [.int x16_5]) (st := []) (r := x16_4) (ci := 1) rfl rfl (fun h9 => ct_X1_noteOf hC.hl G h9 x16_5 σ) q_463 q_415 q_416 q_14 q_417 yd_X1_noteOf rfl ⟨Nat.le_of_ble_eq_true rfl, Nat.le_of_ble_eq_true rfl⟩ ⟨Nat.zero_le _, Nat.zero_le _⟩ rfl (Nat.le_of_ble_eq_true rfl) dX4_repeat_26 (fun v13 σ14 => ?_)
    show Wo _ _ _ _ _ _ _ _ _ _ [.int v13]
    refine r_istore hC [(6, .int v13), (3, va_rf x16_3), (4, va_rf x16_4), (5, .int x16_5)] (i := 6) (by decide) rfl dX4_repeat_29 ?_
    refine r_aloadn hC 1 (r := x16_3) rfl rfl dX4_repeat_31 ?_
    refine r_dup hC (cat_rf _) dX4_repeat_32 ?_
    refine r_gI hC (k := 1) (r := x16_3) cls_3 (by decide) rfl q_177 (Or.inl rfl) dX4_repeat_33 (fun v16 => ?_)
    refine r_aloadn hC 1 (r := x16_3) rfl rfl dX4_repeat_36 ?_
    refine r_iload hC 0 rfl dX4_repeat_37 ?_
    refine call_V hC (av := [.int v13]) (st := [.int v16, va_rf x16_3]) (r := x16_3) (ci := 3) rfl rfl (fun h9 => ct_X3_tells hC.hl G h9 v13 σ14) q_487 q_488 q_489 q_17 q_490 yd_X3_tells rfl ⟨Nat.le_of_ble_eq_true rfl, Nat.le_of_ble_eq_true rfl⟩ ⟨Nat.zero_le _, Nat.zero_le _⟩ rfl (by simp [cat_rf, cat_i, cat_j, cat_d, cat_a]) dX4_repeat_39 (fun v17 σ18 => ?_)
    show Wo _ _ _ _ _ _ _ _ _ _ [.int v17, .int v16, va_rf x16_3]
    refine r_iload hC 0 rfl dX4_repeat_42 ?_
    refine r_isub hC dX4_repeat_44 (fun v20 => ?_)
    refine r_iadd hC dX4_repeat_45 (fun v21 => ?_)
    refine r_pI hC (k := 1) (r := x16_3) cls_3 (by decide) rfl q_177 (Or.inl rfl) (Or.inl rfl) dX4_repeat_46 (fun σ22 => ?_)
    refine r_iinc hC 3 (fun w => [(5, .int w), (6, .int v13), (3, va_rf x16_3), (4, va_rf x16_4)]) 1 rfl (by decide) rfl (fun w => by simp [List.filter, cat_rf, cat_i, cat_j, cat_d, cat_a]) dX4_repeat_49 (fun v23 => ?_)
    refine r_goto hC 16 dX4_repeat_52 (by decide) ?_
    refine Wo.sub [2, 3, 0] rfl ?_
    exact hk16 x16_3 x16_4 v23 σ22

set_option maxRecDepth 100000 in
set_option maxHeartbeats 4000000 in
theorem u_X4_repeat_16 {C : Cxt} {G : Glb} (hC : CX C G RX4 cX4_repeat 7 (some .int) 3 0 0 64) : ∀ (n : Nat) (x16_3 : (Option Nat)) (x16_4 : (Option Nat)) (x16_5 : Int32) (σ : Mem), Wo C G 7 (QP C G rvI 0 0) (l_X4_repeat_16  n x16_3 x16_4 x16_5 σ) σ 0 0 16 [(3, va_rf x16_3), (4, va_rf x16_4), (5, .int x16_5)] [] := by
  intro n
  induction n with
  | zero => intro x16_3 x16_4 x16_5 σ; exact Wo.none
  | succ n ih => intro x16_3 x16_4 x16_5 σ; exact t_X4_repeat_16 hC (l_X4_repeat_16  n) ih x16_3 x16_4 x16_5 σ

set_option maxRecDepth 100000 in
set_option maxHeartbeats 4000000 in
theorem t_X4_repeat_0 {C : Cxt} {G : Glb} (hC : CX C G RX4 cX4_repeat 7 (some .int) 3 0 0 64) (a0 : Nat) (p0 : Int32) (p1 : Int32) (σ : Mem) : Wo C G 7 (QP C G rvI 0 0) (b_X4_repeat_0  a0 p0 p1 σ) σ 0 0 0 [(0, va_rf (some a0)), (1, .int p0), (2, .int p1)] [] := by
  unfold b_X4_repeat_0
  refine r_aloadn hC 0 (r := (some a0)) rfl rfl dX4_repeat_0 ?_
  refine r_iloadn hC 1 rfl rfl dX4_repeat_1 ?_
  refine call_V hC (av := [.int p0]) (st := []) (r := (some a0)) (ci := 4) rfl rfl (fun h9 => ct_X4_tasterAt hC.hl G h9 p0 σ) q_544 q_546 q_10 q_13 q_547 yd_X4_tasterAt rfl ⟨Nat.le_of_ble_eq_true rfl, Nat.le_of_ble_eq_true rfl⟩ ⟨Nat.zero_le _, Nat.zero_le _⟩ rfl (Nat.le_of_ble_eq_true rfl) dX4_repeat_2 (fun r1 σ2 => ?_)
  show Wo _ _ _ _ _ _ _ _ _ _ [va_rf r1]
  refine r_astoren hC [(3, va_rf r1), (0, va_rf (some a0)), (1, .int p0), (2, .int p1)] (r := r1) (i := 3) rfl (by decide) rfl dX4_repeat_5 ?_
  refine r_aloadn hC 1 (r := (some a0)) rfl rfl dX4_repeat_6 ?_
  refine r_iloadn hC 3 rfl rfl dX4_repeat_7 ?_
  refine call_V hC (av := [.int p1]) (st := []) (r := (some a0)) (ci := 4) rfl rfl (fun h9 => ct_X4_madeLotAt hC.hl G h9 p1 σ2) q_601 q_603 q_11 q_13 q_604 yd_X4_madeLotAt rfl ⟨Nat.le_of_ble_eq_true rfl, Nat.le_of_ble_eq_true rfl⟩ ⟨Nat.zero_le _, Nat.zero_le _⟩ rfl (Nat.le_of_ble_eq_true rfl) dX4_repeat_8 (fun r4 σ5 => ?_)
  show Wo _ _ _ _ _ _ _ _ _ _ [va_rf r4]
  refine r_astore hC [(4, va_rf r4), (3, va_rf r1), (0, va_rf (some a0)), (1, .int p0), (2, .int p1)] (r := r4) (i := 4) (by decide) (by simp [List.filter, cat_rf, cat_i, cat_j, cat_d, cat_a]) dX4_repeat_11 ?_
  refine r_iconst hC (0) rfl dX4_repeat_13 ?_
  refine r_istore hC [(5, .int 0), (4, va_rf r4), (3, va_rf r1), (0, va_rf (some a0)), (1, .int p0), (2, .int p1)] (i := 5) (by decide) (by simp [List.filter, cat_rf, cat_i, cat_j, cat_d, cat_a]) dX4_repeat_14 ?_
  refine Wo.sub [2, 1, 0] rfl ?_
  exact u_X4_repeat_16 hC 40 r1 r4 0 σ5

set_option maxRecDepth 100000 in
set_option maxHeartbeats 4000000 in
theorem ct_X4_repeat {l : Launch} (hl : l.stackTraces = false) (G : Glb) (a0 : Nat) (p0 : Int32) (p1 : Int32) (σ : Mem) : Ct rvI l yX4_repeat (Cond.code yX4_repeat cX4_repeat 7 (some .int) :: uW) { frames := 3, cells := 0, slots := 0, locals := 64 } 0 0 G [.ref a0, .int p0, .int p1] σ (f_X4_repeat a0 p0 p1 σ) := by
  refine Ct.of hl (by decide +kernel) (Nat.le_of_ble_eq_true rfl) (fun C hC hin => ?_)
  have e : lv_args 0 [.ref a0, .int p0, .int p1] = [(0, .ref a0), (1, .int p0), (2, .int p1)] := rfl
  rw [e]
  exact t_X4_repeat_0 hC a0 p0 p1 σ

noncomputable def b_X4_purse_0 (a0 : Nat) (p0 : Int32) (p1 : Int32) (σ : Mem) : Option ((Int32) × Mem) :=
cl1 (f_X4_requireIndex p0 4 σ) fun u1 σ2 =>
cl1 (f_X4_requireArgument p1 1 9999 σ2) fun u3 σ4 =>
gR 4 7 σ4 (some a0) fun r5 =>
aI σ4 r5 p0 fun v6 =>
nm (v6 + p1) fun v7 =>
wI σ4 r5 p0 v7 fun σ8 =>
gR 4 7 σ8 (some a0) fun r9 =>
aI σ8 r9 p0 fun v10 =>
some (v10, σ8)

noncomputable def f_X4_purse (a0 : Nat) (p0 : Int32) (p1 : Int32) (σ : Mem) : Option ((Int32) × Mem) := b_X4_purse_0 a0 p0 p1 σ
set_option maxRecDepth 100000 in
set_option maxHeartbeats 4000000 in
theorem t_X4_purse_0 {C : Cxt} {G : Glb} (hC : CX C G RX4 cX4_purse 3 (some .int) 1 0 0 22) (a0 : Nat) (p0 : Int32) (p1 : Int32) (σ : Mem) : Wo C G 3 (QP C G rvI 0 0) (b_X4_purse_0  a0 p0 p1 σ) σ 0 0 0 [(0, va_rf (some a0)), (1, .int p0), (2, .int p1)] [] := by
  unfold b_X4_purse_0
  refine r_iloadn hC 1 rfl rfl dX4_purse_0 ?_
  refine r_iconst hC (4) rfl dX4_purse_1 ?_
  refine call_S hC (av := [.int p0, .int 4]) (st := []) (ct_X4_requireIndex hC.hl G p0 4 σ) q_320 q_321 q_13 q_322 yd_X4_requireIndex rfl ⟨Nat.le_of_ble_eq_true rfl, Nat.le_of_ble_eq_true rfl⟩ ⟨Nat.zero_le _, Nat.zero_le _⟩ rfl (Nat.le_of_ble_eq_true rfl) dX4_purse_2 (fun u1 σ2 => ?_)
  show Wo _ _ _ _ _ _ _ _ _ _ []
  refine r_iloadn hC 2 rfl rfl dX4_purse_5 ?_
  refine r_iconst hC (1) rfl dX4_purse_6 ?_
  refine r_sipush hC (9999) (by decide) dX4_purse_7 ?_
  refine call_S hC (av := [.int p1, .int 1, .int 9999]) (st := []) (ct_X4_requireArgument hC.hl G p1 1 9999 σ2) q_228 q_229 q_13 q_230 yd_X4_requireArgument rfl ⟨Nat.le_of_ble_eq_true rfl, Nat.le_of_ble_eq_true rfl⟩ ⟨Nat.zero_le _, Nat.zero_le _⟩ rfl (Nat.le_of_ble_eq_true rfl) dX4_purse_10 (fun u3 σ4 => ?_)
  show Wo _ _ _ _ _ _ _ _ _ _ []
  refine r_aloadn hC 0 (r := (some a0)) rfl rfl dX4_purse_13 ?_
  refine r_gR hC (k := 7) (r := (some a0)) cls_4 (by decide) rfl q_194 (Or.inl rfl) dX4_purse_14 (fun r5 => ?_)
  refine r_iloadn hC 1 rfl rfl dX4_purse_17 ?_
  refine r_dup2 hC rfl (cat_rf _) dX4_purse_18 ?_
  refine r_aI hC (r := r5) dX4_purse_19 (fun v6 => ?_)
  refine r_iloadn hC 2 rfl rfl dX4_purse_20 ?_
  refine r_iadd hC dX4_purse_21 (fun v7 => ?_)
  refine r_wI hC (r := r5) dX4_purse_22 (fun σ8 => ?_)
  refine r_aloadn hC 0 (r := (some a0)) rfl rfl dX4_purse_23 ?_
  refine r_gR hC (k := 7) (r := (some a0)) cls_4 (by decide) rfl q_194 (Or.inl rfl) dX4_purse_24 (fun r9 => ?_)
  refine r_iloadn hC 1 rfl rfl dX4_purse_27 ?_
  refine r_aI hC (r := r9) dX4_purse_28 (fun v10 => ?_)
  exact e_I hC ⟨Nat.zero_le _, Nat.zero_le _⟩ dX4_purse_29

set_option maxRecDepth 100000 in
set_option maxHeartbeats 4000000 in
theorem ct_X4_purse {l : Launch} (hl : l.stackTraces = false) (G : Glb) (a0 : Nat) (p0 : Int32) (p1 : Int32) (σ : Mem) : Ct rvI l yX4_purse (Cond.code yX4_purse cX4_purse 3 (some .int) :: uW) { frames := 1, cells := 0, slots := 0, locals := 22 } 0 0 G [.ref a0, .int p0, .int p1] σ (f_X4_purse a0 p0 p1 σ) := by
  refine Ct.of hl (by decide +kernel) (Nat.le_of_ble_eq_true rfl) (fun C hC hin => ?_)
  have e : lv_args 0 [.ref a0, .int p0, .int p1] = [(0, .ref a0), (1, .int p0), (2, .int p1)] := rfl
  rw [e]
  exact t_X4_purse_0 hC a0 p0 p1 σ

noncomputable def b_X4_offer_71 (k43 : Nat → Int32 → Int32 → Mem → Option ((Int32) × Mem)) (a0 : Nat) (x71_4 : Int32) (x71_5 : Int32) (σ : Mem) : Option ((Int32) × Mem) :=
nm (x71_5 + 1) fun v18 =>
k43 a0 x71_4 v18 σ

noncomputable def b_X4_offer_43 (k43 : Nat → Int32 → Int32 → Mem → Option ((Int32) × Mem)) (a0 : Nat) (x43_4 : Int32) (x43_5 : Int32) (σ : Mem) : Option ((Int32) × Mem) :=
gI 4 4 σ (some a0) fun v11 =>
if v11 ≤ x43_5 then
some (x43_4, σ)
else
gR 4 3 σ (some a0) fun r12 =>
aR 1 σ r12 x43_5 fun r13 =>
gR 1 15 σ r13 fun r14 =>
ob 0 σ r14 fun h17 => cl1 (f_X0_isOpen h17 σ) fun v15 σ16 =>
if v15 = 0 then
b_X4_offer_71 k43 a0 x43_4 x43_5 σ16
else
nm (x43_4 + 1) fun v19 =>
b_X4_offer_71 k43 a0 v19 x43_5 σ16

noncomputable def l_X4_offer_43 (n : Nat) : Nat → Int32 → Int32 → Mem → Option ((Int32) × Mem) := itr (fun _ _ _ _ => none) (fun k => b_X4_offer_43  k) n

noncomputable def b_X4_offer_26 (a0 : Nat) (x26_2 : Int32) (x26_3 : (Option Nat)) (y26_0 : Int32) (σ : Mem) : Option ((Int32) × Mem) :=
cl1 (f_X4_requireState y26_0 σ) fun u7 σ8 =>
gR 1 15 σ8 x26_3 fun r9 =>
pI 0 0 σ8 r9 x26_2 fun σ10 =>
l_X4_offer_43 40 a0 0 0 σ10

noncomputable def b_X4_offer_0 (a0 : Nat) (p0 : Int32) (p1 : Int32) (σ : Mem) : Option ((Int32) × Mem) :=
ob 4 σ (some a0) fun h3 => cl1 (f_X4_lotAt h3 p0 σ) fun r1 σ2 =>
cl1 (f_X4_requireArgument p1 1 99 σ2) fun u4 σ5 =>
gI 1 0 σ5 r1 fun v6 =>
if v6 = 2 then
b_X4_offer_26 a0 p1 r1 1 σ5
else
b_X4_offer_26 a0 p1 r1 0 σ5

noncomputable def f_X4_offer (a0 : Nat) (p0 : Int32) (p1 : Int32) (σ : Mem) : Option ((Int32) × Mem) := b_X4_offer_0 a0 p0 p1 σ
set_option maxRecDepth 100000 in
set_option maxHeartbeats 4000000 in
theorem t_X4_offer_71 {C : Cxt} {G : Glb} (hC : CX C G RX4 cX4_offer 6 (some .int) 2 0 0 42) (k43 : Nat → Int32 → Int32 → Mem → Option ((Int32) × Mem)) (hk43 : ∀ (a0 : Nat) (x43_4 : Int32) (x43_5 : Int32) (σ : Mem), Wo C G 6 (QP C G rvI 0 0) (k43 a0 x43_4 x43_5 σ) σ 0 0 43 [(0, va_rf (some a0)), (4, .int x43_4), (5, .int x43_5)] []) (a0 : Nat) (x71_4 : Int32) (x71_5 : Int32) (σ : Mem) : Wo C G 6 (QP C G rvI 0 0) (b_X4_offer_71 k43 a0 x71_4 x71_5 σ) σ 0 0 71 [(0, va_rf (some a0)), (4, .int x71_4), (5, .int x71_5)] [] := by
  unfold b_X4_offer_71
  refine r_iinc hC 2 (fun w => [(5, .int w), (0, va_rf (some a0)), (4, .int x71_4)]) 1 rfl (by decide) rfl (fun w => rfl) dX4_offer_71 (fun v18 => ?_)
  refine r_goto hC 43 dX4_offer_74 (by decide) ?_
  refine Wo.sub [1, 2, 0] rfl ?_
  exact hk43 a0 x71_4 v18 σ

set_option maxRecDepth 100000 in
set_option maxHeartbeats 4000000 in
theorem t_X4_offer_43 {C : Cxt} {G : Glb} (hC : CX C G RX4 cX4_offer 6 (some .int) 2 0 0 42) (k43 : Nat → Int32 → Int32 → Mem → Option ((Int32) × Mem)) (hk43 : ∀ (a0 : Nat) (x43_4 : Int32) (x43_5 : Int32) (σ : Mem), Wo C G 6 (QP C G rvI 0 0) (k43 a0 x43_4 x43_5 σ) σ 0 0 43 [(0, va_rf (some a0)), (4, .int x43_4), (5, .int x43_5)] []) (a0 : Nat) (x43_4 : Int32) (x43_5 : Int32) (σ : Mem) : Wo C G 6 (QP C G rvI 0 0) (b_X4_offer_43 k43 a0 x43_4 x43_5 σ) σ 0 0 43 [(0, va_rf (some a0)), (4, .int x43_4), (5, .int x43_5)] [] := by
  unfold b_X4_offer_43
  refine r_iload hC 2 rfl dX4_offer_43 ?_
  refine r_aloadn hC 0 (r := (some a0)) rfl rfl dX4_offer_45 ?_
  refine r_gI hC (k := 4) (r := (some a0)) cls_4 (by decide) rfl q_191 (Or.inl rfl) dX4_offer_46 (fun v11 => ?_)
  refine r_icmp_ge hC 77 dX4_offer_49 (by decide) ?_ ?_
  · refine r_iload hC 1 rfl dX4_offer_77 ?_
    exact e_I hC ⟨Nat.zero_le _, Nat.zero_le _⟩ dX4_offer_79
  · refine r_aloadn hC 0 (r := (some a0)) rfl rfl dX4_offer_52 ?_
    refine r_gR hC (k := 3) (r := (some a0)) cls_4 (by decide) rfl q_190 (Or.inl rfl) dX4_offer_53 (fun r12 => ?_)
    refine r_iload hC 2 rfl dX4_offer_56 ?_
    refine r_aR hC (t := 1) (r := r12) rfl rfl dX4_offer_58 (fun r13 => ?_)
    refine r_gR hC (k := 15) (r := r13) cls_1 (by decide) rfl q_95 (Or.inl rfl) dX4_offer_59 (fun r14 => ?_)
    refine call_V hC (av := []) (st := []) (r := r14) (ci := 0) rfl rfl (fun h9 => ct_X0_isOpen hC.hl G h9 σ) q_361 q_362 q_363 q_15 q_364 yd_X0_isOpen rfl ⟨Nat.le_of_ble_eq_true rfl, Nat.le_of_ble_eq_true rfl⟩ ⟨Nat.zero_le _, Nat.zero_le _⟩ rfl (Nat.le_of_ble_eq_true rfl) dX4_offer_62 (fun v15 σ16 => ?_)
    show Wo _ _ _ _ _ _ _ _ _ _ [.int v15]
    refine r_if_eq hC 71 dX4_offer_65 (by decide) ?_ ?_
    · exact t_X4_offer_71 hC k43 hk43 a0 x43_4 x43_5 σ16
    · refine r_iinc hC 1 (fun w => [(4, .int w), (0, va_rf (some a0)), (5, .int x43_5)]) 1 rfl (by decide) rfl (fun w => rfl) dX4_offer_68 (fun v19 => ?_)
      refine Wo.sub [1, 0, 2] rfl ?_
      exact t_X4_offer_71 hC k43 hk43 a0 v19 x43_5 σ16

set_option maxRecDepth 100000 in
set_option maxHeartbeats 4000000 in
theorem u_X4_offer_43 {C : Cxt} {G : Glb} (hC : CX C G RX4 cX4_offer 6 (some .int) 2 0 0 42) : ∀ (n : Nat) (a0 : Nat) (x43_4 : Int32) (x43_5 : Int32) (σ : Mem), Wo C G 6 (QP C G rvI 0 0) (l_X4_offer_43  n a0 x43_4 x43_5 σ) σ 0 0 43 [(0, va_rf (some a0)), (4, .int x43_4), (5, .int x43_5)] [] := by
  intro n
  induction n with
  | zero => intro a0 x43_4 x43_5 σ; exact Wo.none
  | succ n ih => intro a0 x43_4 x43_5 σ; exact t_X4_offer_43 hC (l_X4_offer_43  n) ih a0 x43_4 x43_5 σ

set_option maxRecDepth 100000 in
set_option maxHeartbeats 4000000 in
theorem t_X4_offer_26 {C : Cxt} {G : Glb} (hC : CX C G RX4 cX4_offer 6 (some .int) 2 0 0 42) (a0 : Nat) (x26_2 : Int32) (x26_3 : (Option Nat)) (y26_0 : Int32) (σ : Mem) : Wo C G 6 (QP C G rvI 0 0) (b_X4_offer_26  a0 x26_2 x26_3 y26_0 σ) σ 0 0 26 [(0, va_rf (some a0)), (2, .int x26_2), (3, va_rf x26_3)] [.int y26_0] := by
  unfold b_X4_offer_26
  refine call_S hC (av := [.int y26_0]) (st := []) (ct_X4_requireState hC.hl G y26_0 σ) q_294 q_295 q_13 q_296 yd_X4_requireState rfl ⟨Nat.le_of_ble_eq_true rfl, Nat.le_of_ble_eq_true rfl⟩ ⟨Nat.zero_le _, Nat.zero_le _⟩ rfl (Nat.le_of_ble_eq_true rfl) dX4_offer_26 (fun u7 σ8 => ?_)
  show Wo _ _ _ _ _ _ _ _ _ _ []
  refine r_aloadn hC 2 (r := x26_3) rfl rfl dX4_offer_29 ?_
  refine r_gR hC (k := 15) (r := x26_3) cls_1 (by decide) rfl q_95 (Or.inl rfl) dX4_offer_30 (fun r9 => ?_)
  refine r_iloadn hC 1 rfl rfl dX4_offer_33 ?_
  refine r_pI hC (k := 0) (r := r9) cls_0 (by decide) rfl q_49 (Or.inl rfl) (Or.inl rfl) dX4_offer_34 (fun σ10 => ?_)
  refine r_iconst hC (0) rfl dX4_offer_37 ?_
  refine r_istore hC [(4, .int 0), (0, va_rf (some a0)), (2, .int x26_2), (3, va_rf x26_3)] (i := 4) (by decide) (by simp [List.filter, cat_rf, cat_i, cat_j, cat_d, cat_a]) dX4_offer_38 ?_
  refine r_iconst hC (0) rfl dX4_offer_40 ?_
  refine r_istore hC [(5, .int 0), (4, .int 0), (0, va_rf (some a0)), (2, .int x26_2), (3, va_rf x26_3)] (i := 5) (by decide) rfl dX4_offer_41 ?_
  refine Wo.sub [2, 1, 0] rfl ?_
  exact u_X4_offer_43 hC 40 a0 0 0 σ10

set_option maxRecDepth 100000 in
set_option maxHeartbeats 4000000 in
theorem t_X4_offer_0 {C : Cxt} {G : Glb} (hC : CX C G RX4 cX4_offer 6 (some .int) 2 0 0 42) (a0 : Nat) (p0 : Int32) (p1 : Int32) (σ : Mem) : Wo C G 6 (QP C G rvI 0 0) (b_X4_offer_0  a0 p0 p1 σ) σ 0 0 0 [(0, va_rf (some a0)), (1, .int p0), (2, .int p1)] [] := by
  unfold b_X4_offer_0
  refine r_aloadn hC 0 (r := (some a0)) rfl rfl dX4_offer_0 ?_
  refine r_iloadn hC 1 rfl rfl dX4_offer_1 ?_
  refine call_V hC (av := [.int p0]) (st := []) (r := (some a0)) (ci := 4) rfl rfl (fun h9 => ct_X4_lotAt hC.hl G h9 p0 σ) q_357 q_359 q_3 q_13 q_360 yd_X4_lotAt rfl ⟨Nat.le_of_ble_eq_true rfl, Nat.le_of_ble_eq_true rfl⟩ ⟨Nat.zero_le _, Nat.zero_le _⟩ rfl (Nat.le_of_ble_eq_true rfl) dX4_offer_2 (fun r1 σ2 => ?_)
  show Wo _ _ _ _ _ _ _ _ _ _ [va_rf r1]
  refine r_astoren hC [(3, va_rf r1), (0, va_rf (some a0)), (1, .int p0), (2, .int p1)] (r := r1) (i := 3) rfl (by decide) rfl dX4_offer_5 ?_
  refine r_iloadn hC 3 rfl rfl dX4_offer_6 ?_
  refine r_iconst hC (1) rfl dX4_offer_7 ?_
  refine r_bipush hC (99) (by decide) dX4_offer_8 ?_
  refine call_S hC (av := [.int p1, .int 1, .int 99]) (st := []) (ct_X4_requireArgument hC.hl G p1 1 99 σ2) q_228 q_229 q_13 q_230 yd_X4_requireArgument rfl ⟨Nat.le_of_ble_eq_true rfl, Nat.le_of_ble_eq_true rfl⟩ ⟨Nat.zero_le _, Nat.zero_le _⟩ rfl (Nat.le_of_ble_eq_true rfl) dX4_offer_10 (fun u4 σ5 => ?_)
  show Wo _ _ _ _ _ _ _ _ _ _ []
  refine r_aloadn hC 0 (r := r1) rfl rfl dX4_offer_13 ?_
  refine r_gI hC (k := 0) (r := r1) cls_1 (by decide) rfl q_65 (Or.inl rfl) dX4_offer_14 (fun v6 => ?_)
  refine r_iconst hC (2) rfl dX4_offer_17 ?_
  refine r_icmp_ne hC 25 dX4_offer_18 (by decide) ?_ ?_
  · refine r_iconst hC (0) rfl dX4_offer_25 ?_
    refine Wo.sub [1, 3, 0] rfl ?_
    exact t_X4_offer_26 hC a0 p1 r1 0 σ5
  · refine r_iconst hC (1) rfl dX4_offer_21 ?_
    refine r_goto hC 26 dX4_offer_22 (by decide) ?_
    refine Wo.sub [1, 3, 0] rfl ?_
    exact t_X4_offer_26 hC a0 p1 r1 1 σ5

set_option maxRecDepth 100000 in
set_option maxHeartbeats 4000000 in
theorem ct_X4_offer {l : Launch} (hl : l.stackTraces = false) (G : Glb) (a0 : Nat) (p0 : Int32) (p1 : Int32) (σ : Mem) : Ct rvI l yX4_offer (Cond.code yX4_offer cX4_offer 6 (some .int) :: uW) { frames := 2, cells := 0, slots := 0, locals := 42 } 0 0 G [.ref a0, .int p0, .int p1] σ (f_X4_offer a0 p0 p1 σ) := by
  refine Ct.of hl (by decide +kernel) (Nat.le_of_ble_eq_true rfl) (fun C hC hin => ?_)
  have e : lv_args 0 [.ref a0, .int p0, .int p1] = [(0, .ref a0), (1, .int p0), (2, .int p1)] := rfl
  rw [e]
  exact t_X4_offer_0 hC a0 p0 p1 σ

noncomputable def b_X4_bid_0 (a0 : Nat) (p0 : Int32) (p1 : Int32) (p2 : Int32) (σ : Mem) : Option ((Int32) × Mem) :=
cl1 (f_X4_requireIndex p0 4 σ) fun u1 σ2 =>
ob 4 σ2 (some a0) fun h5 => cl1 (f_X4_lotAt h5 p1 σ2) fun r3 σ4 =>
cl1 (f_X4_requireArgument p2 1 99 σ4) fun u6 σ7 =>
gR 1 15 σ7 r3 fun r8 =>
ob 0 σ7 r8 fun h11 => cl1 (f_X0_isOpen h11 σ7) fun v9 σ10 =>
cl1 (f_X4_requireState v9 σ10) fun u12 σ13 =>
gR 1 15 σ13 r3 fun r14 =>
ob 0 σ13 r14 fun h17 => cl1 (f_X0_place h17 p0 p2 σ13) fun u15 σ16 =>
gR 1 15 σ16 r3 fun r18 =>
ob 0 σ16 r18 fun h21 => cl1 (f_X0_countBids h21 σ16) fun v19 σ20 =>
some (v19, σ20)

noncomputable def f_X4_bid (a0 : Nat) (p0 : Int32) (p1 : Int32) (p2 : Int32) (σ : Mem) : Option ((Int32) × Mem) := b_X4_bid_0 a0 p0 p1 p2 σ
set_option maxRecDepth 100000 in
set_option maxHeartbeats 4000000 in
theorem t_X4_bid_0 {C : Cxt} {G : Glb} (hC : CX C G RX4 cX4_bid 5 (some .int) 2 0 0 43) (a0 : Nat) (p0 : Int32) (p1 : Int32) (p2 : Int32) (σ : Mem) : Wo C G 5 (QP C G rvI 0 0) (b_X4_bid_0  a0 p0 p1 p2 σ) σ 0 0 0 [(0, va_rf (some a0)), (1, .int p0), (2, .int p1), (3, .int p2)] [] := by
  unfold b_X4_bid_0
  refine r_iloadn hC 1 rfl rfl dX4_bid_0 ?_
  refine r_iconst hC (4) rfl dX4_bid_1 ?_
  refine call_S hC (av := [.int p0, .int 4]) (st := []) (ct_X4_requireIndex hC.hl G p0 4 σ) q_320 q_321 q_13 q_322 yd_X4_requireIndex rfl ⟨Nat.le_of_ble_eq_true rfl, Nat.le_of_ble_eq_true rfl⟩ ⟨Nat.zero_le _, Nat.zero_le _⟩ rfl (Nat.le_of_ble_eq_true rfl) dX4_bid_2 (fun u1 σ2 => ?_)
  show Wo _ _ _ _ _ _ _ _ _ _ []
  refine r_aloadn hC 0 (r := (some a0)) rfl rfl dX4_bid_5 ?_
  refine r_iloadn hC 2 rfl rfl dX4_bid_6 ?_
  refine call_V hC (av := [.int p1]) (st := []) (r := (some a0)) (ci := 4) rfl rfl (fun h9 => ct_X4_lotAt hC.hl G h9 p1 σ2) q_357 q_359 q_3 q_13 q_360 yd_X4_lotAt rfl ⟨Nat.le_of_ble_eq_true rfl, Nat.le_of_ble_eq_true rfl⟩ ⟨Nat.zero_le _, Nat.zero_le _⟩ rfl (Nat.le_of_ble_eq_true rfl) dX4_bid_7 (fun r3 σ4 => ?_)
  show Wo _ _ _ _ _ _ _ _ _ _ [va_rf r3]
  refine r_astore hC [(4, va_rf r3), (0, va_rf (some a0)), (1, .int p0), (2, .int p1), (3, .int p2)] (r := r3) (i := 4) (by decide) rfl dX4_bid_10 ?_
  refine r_iloadn hC 4 rfl rfl dX4_bid_12 ?_
  refine r_iconst hC (1) rfl dX4_bid_13 ?_
  refine r_bipush hC (99) (by decide) dX4_bid_14 ?_
  refine call_S hC (av := [.int p2, .int 1, .int 99]) (st := []) (ct_X4_requireArgument hC.hl G p2 1 99 σ4) q_228 q_229 q_13 q_230 yd_X4_requireArgument rfl ⟨Nat.le_of_ble_eq_true rfl, Nat.le_of_ble_eq_true rfl⟩ ⟨Nat.zero_le _, Nat.zero_le _⟩ rfl (Nat.le_of_ble_eq_true rfl) dX4_bid_16 (fun u6 σ7 => ?_)
  show Wo _ _ _ _ _ _ _ _ _ _ []
  refine r_aload hC 0 (r := r3) rfl dX4_bid_19 ?_
  refine r_gR hC (k := 15) (r := r3) cls_1 (by decide) rfl q_95 (Or.inl rfl) dX4_bid_21 (fun r8 => ?_)
  refine call_V hC (av := []) (st := []) (r := r8) (ci := 0) rfl rfl (fun h9 => ct_X0_isOpen hC.hl G h9 σ7) q_361 q_362 q_363 q_15 q_364 yd_X0_isOpen rfl ⟨Nat.le_of_ble_eq_true rfl, Nat.le_of_ble_eq_true rfl⟩ ⟨Nat.zero_le _, Nat.zero_le _⟩ rfl (Nat.le_of_ble_eq_true rfl) dX4_bid_24 (fun v9 σ10 => ?_)
  show Wo _ _ _ _ _ _ _ _ _ _ [.int v9]
  refine call_S hC (av := [.int v9]) (st := []) (ct_X4_requireState hC.hl G v9 σ10) q_294 q_295 q_13 q_296 yd_X4_requireState rfl ⟨Nat.le_of_ble_eq_true rfl, Nat.le_of_ble_eq_true rfl⟩ ⟨Nat.zero_le _, Nat.zero_le _⟩ rfl (Nat.le_of_ble_eq_true rfl) dX4_bid_27 (fun u12 σ13 => ?_)
  show Wo _ _ _ _ _ _ _ _ _ _ []
  refine r_aload hC 0 (r := r3) rfl dX4_bid_30 ?_
  refine r_gR hC (k := 15) (r := r3) cls_1 (by decide) rfl q_95 (Or.inl rfl) dX4_bid_32 (fun r14 => ?_)
  refine r_iloadn hC 2 rfl rfl dX4_bid_35 ?_
  refine r_iloadn hC 4 rfl rfl dX4_bid_36 ?_
  refine call_V hC (av := [.int p0, .int p2]) (st := []) (r := r14) (ci := 0) rfl rfl (fun h9 => ct_X0_place hC.hl G h9 p0 p2 σ13) q_369 q_370 q_371 q_15 q_372 yd_X0_place rfl ⟨Nat.le_of_ble_eq_true rfl, Nat.le_of_ble_eq_true rfl⟩ ⟨Nat.zero_le _, Nat.zero_le _⟩ rfl (Nat.le_of_ble_eq_true rfl) dX4_bid_37 (fun u15 σ16 => ?_)
  show Wo _ _ _ _ _ _ _ _ _ _ []
  refine r_aload hC 0 (r := r3) rfl dX4_bid_40 ?_
  refine r_gR hC (k := 15) (r := r3) cls_1 (by decide) rfl q_95 (Or.inl rfl) dX4_bid_42 (fun r18 => ?_)
  refine call_V hC (av := []) (st := []) (r := r18) (ci := 0) rfl rfl (fun h9 => ct_X0_countBids hC.hl G h9 σ16) q_373 q_374 q_375 q_15 q_376 yd_X0_countBids rfl ⟨Nat.le_of_ble_eq_true rfl, Nat.le_of_ble_eq_true rfl⟩ ⟨Nat.zero_le _, Nat.zero_le _⟩ rfl (Nat.le_of_ble_eq_true rfl) dX4_bid_45 (fun v19 σ20 => ?_)
  show Wo _ _ _ _ _ _ _ _ _ _ [.int v19]
  exact e_I hC ⟨Nat.zero_le _, Nat.zero_le _⟩ dX4_bid_48

set_option maxRecDepth 100000 in
set_option maxHeartbeats 4000000 in
theorem ct_X4_bid {l : Launch} (hl : l.stackTraces = false) (G : Glb) (a0 : Nat) (p0 : Int32) (p1 : Int32) (p2 : Int32) (σ : Mem) : Ct rvI l yX4_bid (Cond.code yX4_bid cX4_bid 5 (some .int) :: uW) { frames := 2, cells := 0, slots := 0, locals := 43 } 0 0 G [.ref a0, .int p0, .int p1, .int p2] σ (f_X4_bid a0 p0 p1 p2 σ) := by
  refine Ct.of hl (by decide +kernel) (Nat.le_of_ble_eq_true rfl) (fun C hC hin => ?_)
  have e : lv_args 0 [.ref a0, .int p0, .int p1, .int p2] = [(0, .ref a0), (1, .int p0), (2, .int p1), (3, .int p2)] := rfl
  rw [e]
  exact t_X4_bid_0 hC a0 p0 p1 p2 σ

noncomputable def b_X4_costOf_0 (p0 : (Option Nat)) (p1 : Int32) (σ : Mem) : Option ((Int32) × Mem) :=
gI 1 1 σ p0 fun v1 =>
nm (p1 * v1) fun v2 =>
dv v2 10 fun v3 =>
some (v3, σ)

noncomputable def f_X4_costOf (p0 : (Option Nat)) (p1 : Int32) (σ : Mem) : Option ((Int32) × Mem) := b_X4_costOf_0 p0 p1 σ
set_option maxRecDepth 100000 in
set_option maxHeartbeats 4000000 in
theorem t_X4_costOf_0 {C : Cxt} {G : Glb} (hC : CX C G RX4 cX4_costOf 2 (some .int) 0 0 0 0) (p0 : (Option Nat)) (p1 : Int32) (σ : Mem) : Wo C G 2 (QP C G rvI 0 0) (b_X4_costOf_0  p0 p1 σ) σ 0 0 0 [(0, va_rf p0), (1, .int p1)] [] := by
  unfold b_X4_costOf_0
  refine r_iloadn hC 1 rfl rfl dX4_costOf_0 ?_
  refine r_aloadn hC 0 (r := p0) rfl rfl dX4_costOf_1 ?_
  refine r_gI hC (k := 1) (r := p0) cls_1 (by decide) rfl q_67 (Or.inl rfl) dX4_costOf_2 (fun v1 => ?_)
  refine r_imul hC dX4_costOf_5 (fun v2 => ?_)
  refine r_bipush hC (10) (by decide) dX4_costOf_6 ?_
  refine r_idiv hC dX4_costOf_8 (fun v3 => ?_)
  exact e_I hC ⟨Nat.zero_le _, Nat.zero_le _⟩ dX4_costOf_9

set_option maxRecDepth 100000 in
set_option maxHeartbeats 4000000 in
theorem ct_X4_costOf {l : Launch} (hl : l.stackTraces = false) (G : Glb) (p0 : (Option Nat)) (p1 : Int32) (σ : Mem) : Ct rvI l yX4_costOf (Cond.code yX4_costOf cX4_costOf 2 (some .int) :: uW) { frames := 0, cells := 0, slots := 0, locals := 0 } 0 0 G [va_rf p0, .int p1] σ (f_X4_costOf p0 p1 σ) := by
  refine Ct.of hl (by decide +kernel) (by simp [lg_sl, cat_rf, cat_i, cat_j, cat_d, cat_a]) (fun C hC hin => ?_)
  have e : lv_args 0 [va_rf p0, .int p1] = [(0, va_rf p0), (1, .int p1)] := by simp [lv_args, cat_rf, cat_i, cat_j, cat_d, cat_a]
  rw [e]
  exact t_X4_costOf_0 hC p0 p1 σ

noncomputable def b_X4_mayBuy_51 (y51_0 : Int32) (σ : Mem) : Option ((Int32) × Mem) :=
bo y51_0 (some (y51_0, σ))

noncomputable def b_X4_mayBuy_50 (σ : Mem) : Option ((Int32) × Mem) :=
b_X4_mayBuy_51 0 σ

noncomputable def b_X4_mayBuy_0 (a0 : Nat) (p0 : (Option Nat)) (p1 : Int32) (σ : Mem) : Option ((Int32) × Mem) :=
gR 1 15 σ p0 fun r1 =>
gR 0 2 σ r1 fun r2 =>
aI σ r2 p1 fun v3 =>
gR 1 15 σ p0 fun r4 =>
ob 0 σ r4 fun h7 => cl1 (f_X0_hasBid h7 p1 σ) fun v5 σ6 =>
if v5 = 0 then
b_X4_mayBuy_50 σ6
else
gR 1 15 σ6 p0 fun r8 =>
gI 0 0 σ6 r8 fun v9 =>
if v3 < v9 then
b_X4_mayBuy_50 σ6
else
gR 4 7 σ6 (some a0) fun r10 =>
aI σ6 r10 p1 fun v11 =>
cl1 (f_X4_costOf p0 v3 σ6) fun v12 σ13 =>
if v11 < v12 then
b_X4_mayBuy_50 σ13
else
b_X4_mayBuy_51 1 σ13

noncomputable def f_X4_mayBuy (a0 : Nat) (p0 : (Option Nat)) (p1 : Int32) (σ : Mem) : Option ((Int32) × Mem) := b_X4_mayBuy_0 a0 p0 p1 σ
set_option maxRecDepth 100000 in
set_option maxHeartbeats 4000000 in
theorem t_X4_mayBuy_51 {C : Cxt} {G : Glb} (hC : CX C G RX4 cX4_mayBuy 4 (some .boolean) 1 0 0 21) (y51_0 : Int32) (σ : Mem) : Wo C G 4 (QP C G rvI 0 0) (b_X4_mayBuy_51  y51_0 σ) σ 0 0 51 [] [.int y51_0] := by
  unfold b_X4_mayBuy_51
  exact e_B hC ⟨Nat.zero_le _, Nat.zero_le _⟩ dX4_mayBuy_51

set_option maxRecDepth 100000 in
set_option maxHeartbeats 4000000 in
theorem t_X4_mayBuy_50 {C : Cxt} {G : Glb} (hC : CX C G RX4 cX4_mayBuy 4 (some .boolean) 1 0 0 21) (σ : Mem) : Wo C G 4 (QP C G rvI 0 0) (b_X4_mayBuy_50   σ) σ 0 0 50 [] [] := by
  unfold b_X4_mayBuy_50
  refine r_iconst hC (0) rfl dX4_mayBuy_50 ?_
  exact t_X4_mayBuy_51 hC 0 σ

set_option maxRecDepth 100000 in
set_option maxHeartbeats 4000000 in
theorem t_X4_mayBuy_0 {C : Cxt} {G : Glb} (hC : CX C G RX4 cX4_mayBuy 4 (some .boolean) 1 0 0 21) (a0 : Nat) (p0 : (Option Nat)) (p1 : Int32) (σ : Mem) : Wo C G 4 (QP C G rvI 0 0) (b_X4_mayBuy_0  a0 p0 p1 σ) σ 0 0 0 [(0, va_rf (some a0)), (1, va_rf p0), (2, .int p1)] [] := by
  unfold b_X4_mayBuy_0
  refine r_aloadn hC 1 (r := p0) rfl rfl dX4_mayBuy_0 ?_
  refine r_gR hC (k := 15) (r := p0) cls_1 (by decide) rfl q_95 (Or.inl rfl) dX4_mayBuy_1 (fun r1 => ?_)
  refine r_gR hC (k := 2) (r := r1) cls_0 (by decide) rfl q_52 (Or.inl rfl) dX4_mayBuy_4 (fun r2 => ?_)
  refine r_iloadn hC 2 rfl rfl dX4_mayBuy_7 ?_
  refine r_aI hC (r := r2) dX4_mayBuy_8 (fun v3 => ?_)
  refine r_istoren hC [(3, .int v3), (0, va_rf (some a0)), (1, va_rf p0), (2, .int p1)] (i := 3) rfl (by decide) rfl dX4_mayBuy_9 ?_
  refine r_aloadn hC 2 (r := p0) rfl rfl dX4_mayBuy_10 ?_
  refine r_gR hC (k := 15) (r := p0) cls_1 (by decide) rfl q_95 (Or.inl rfl) dX4_mayBuy_11 (fun r4 => ?_)
  refine r_iloadn hC 3 rfl rfl dX4_mayBuy_14 ?_
  refine call_V hC (av := [.int p1]) (st := []) (r := r4) (ci := 0) rfl rfl (fun h9 => ct_X0_hasBid hC.hl G h9 p1 σ) q_393 q_378 q_379 q_15 q_380 yd_X0_hasBid rfl ⟨Nat.le_of_ble_eq_true rfl, Nat.le_of_ble_eq_true rfl⟩ ⟨Nat.zero_le _, Nat.zero_le _⟩ rfl (Nat.le_of_ble_eq_true rfl) dX4_mayBuy_15 (fun v5 σ6 => ?_)
  show Wo _ _ _ _ _ _ _ _ _ _ [.int v5]
  refine r_if_eq hC 50 dX4_mayBuy_18 (by decide) ?_ ?_
  · refine Wo.sub [] rfl ?_
    exact t_X4_mayBuy_50 hC  σ6
  · refine r_iloadn hC 0 rfl rfl dX4_mayBuy_21 ?_
    refine r_aloadn hC 2 (r := p0) rfl rfl dX4_mayBuy_22 ?_
    refine r_gR hC (k := 15) (r := p0) cls_1 (by decide) rfl q_95 (Or.inl rfl) dX4_mayBuy_23 (fun r8 => ?_)
    refine r_gI hC (k := 0) (r := r8) cls_0 (by decide) rfl q_49 (Or.inl rfl) dX4_mayBuy_26 (fun v9 => ?_)
    refine r_icmp_lt hC 50 dX4_mayBuy_29 (by decide) ?_ ?_
    · refine Wo.sub [] rfl ?_
      exact t_X4_mayBuy_50 hC  σ6
    · refine r_aloadn hC 1 (r := (some a0)) rfl rfl dX4_mayBuy_32 ?_
      refine r_gR hC (k := 7) (r := (some a0)) cls_4 (by decide) rfl q_194 (Or.inl rfl) dX4_mayBuy_33 (fun r10 => ?_)
      refine r_iloadn hC 3 rfl rfl dX4_mayBuy_36 ?_
      refine r_aI hC (r := r10) dX4_mayBuy_37 (fun v11 => ?_)
      refine r_aloadn hC 2 (r := p0) rfl rfl dX4_mayBuy_38 ?_
      refine r_iloadn hC 0 rfl rfl dX4_mayBuy_39 ?_
      refine call_S hC (av := [va_rf p0, .int v3]) (st := [.int v11]) (ct_X4_costOf hC.hl G p0 v3 σ6) q_528 q_529 q_13 q_530 yd_X4_costOf rfl ⟨Nat.le_of_ble_eq_true rfl, Nat.le_of_ble_eq_true rfl⟩ ⟨Nat.zero_le _, Nat.zero_le _⟩ rfl (by simp [cat_rf, cat_i, cat_j, cat_d, cat_a]) dX4_mayBuy_40 (fun v12 σ13 => ?_)
      show Wo _ _ _ _ _ _ _ _ _ _ [.int v12, .int v11]
      refine r_icmp_lt hC 50 dX4_mayBuy_43 (by decide) ?_ ?_
      · refine Wo.sub [] rfl ?_
        exact t_X4_mayBuy_50 hC  σ13
      · refine r_iconst hC (1) rfl dX4_mayBuy_46 ?_
        refine r_goto hC 51 dX4_mayBuy_47 (by decide) ?_
        refine Wo.sub [] rfl ?_
        exact t_X4_mayBuy_51 hC 1 σ13

set_option maxRecDepth 100000 in
set_option maxHeartbeats 4000000 in
theorem ct_X4_mayBuy {l : Launch} (hl : l.stackTraces = false) (G : Glb) (a0 : Nat) (p0 : (Option Nat)) (p1 : Int32) (σ : Mem) : Ct rvI l yX4_mayBuy (Cond.code yX4_mayBuy cX4_mayBuy 4 (some .boolean) :: uW) { frames := 1, cells := 0, slots := 0, locals := 21 } 0 0 G [.ref a0, va_rf p0, .int p1] σ (f_X4_mayBuy a0 p0 p1 σ) := by
  refine Ct.of hl (by decide +kernel) (by simp [lg_sl, cat_rf, cat_i, cat_j, cat_d, cat_a]) (fun C hC hin => ?_)
  have e : lv_args 0 [.ref a0, va_rf p0, .int p1] = [(0, .ref a0), (1, va_rf p0), (2, .int p1)] := by simp [lv_args, cat_rf, cat_i, cat_j, cat_d, cat_a]
  rw [e]
  exact t_X4_mayBuy_0 hC a0 p0 p1 σ

noncomputable def b_X4_winnerOf_37 (k4 : Nat → (Option Nat) → Int32 → Int32 → Mem → Option ((Int32) × Mem)) (a0 : Nat) (x37_1 : (Option Nat)) (x37_2 : Int32) (x37_3 : Int32) (σ : Mem) : Option ((Int32) × Mem) :=
nm (x37_3 + 1) fun v4 =>
k4 a0 x37_1 x37_2 v4 σ

noncomputable def b_X4_winnerOf_35 (k4 : Nat → (Option Nat) → Int32 → Int32 → Mem → Option ((Int32) × Mem)) (a0 : Nat) (x35_1 : (Option Nat)) (x35_3 : Int32) (σ : Mem) : Option ((Int32) × Mem) :=
b_X4_winnerOf_37 k4 a0 x35_1 x35_3 x35_3 σ

noncomputable def b_X4_winnerOf_4 (k4 : Nat → (Option Nat) → Int32 → Int32 → Mem → Option ((Int32) × Mem)) (a0 : Nat) (x4_1 : (Option Nat)) (x4_2 : Int32) (x4_3 : Int32) (σ : Mem) : Option ((Int32) × Mem) :=
if 4 ≤ x4_3 then
some (x4_2, σ)
else
ob 4 σ (some a0) fun h3 => cl1 (f_X4_mayBuy h3 x4_1 x4_3 σ) fun v1 σ2 =>
if v1 = 0 then
b_X4_winnerOf_37 k4 a0 x4_1 x4_2 x4_3 σ2
else
if x4_2 = (-1) then
b_X4_winnerOf_35 k4 a0 x4_1 x4_3 σ2
else
gR 1 15 σ2 x4_1 fun r5 =>
ob 0 σ2 r5 fun h8 => cl1 (f_X0_isAhead h8 x4_3 x4_2 σ2) fun v6 σ7 =>
if v6 = 0 then
b_X4_winnerOf_37 k4 a0 x4_1 x4_2 x4_3 σ7
else
b_X4_winnerOf_35 k4 a0 x4_1 x4_3 σ7

noncomputable def l_X4_winnerOf_4 (n : Nat) : Nat → (Option Nat) → Int32 → Int32 → Mem → Option ((Int32) × Mem) := itr (fun _ _ _ _ _ => none) (fun k => b_X4_winnerOf_4  k) n

noncomputable def b_X4_winnerOf_0 (a0 : Nat) (p0 : (Option Nat)) (σ : Mem) : Option ((Int32) × Mem) :=
l_X4_winnerOf_4 40 a0 p0 (-1) 0 σ

noncomputable def f_X4_winnerOf (a0 : Nat) (p0 : (Option Nat)) (σ : Mem) : Option ((Int32) × Mem) := b_X4_winnerOf_0 a0 p0 σ
set_option maxRecDepth 100000 in
set_option maxHeartbeats 4000000 in
theorem t_X4_winnerOf_37 {C : Cxt} {G : Glb} (hC : CX C G RX4 cX4_winnerOf 4 (some .int) 2 0 0 44) (k4 : Nat → (Option Nat) → Int32 → Int32 → Mem → Option ((Int32) × Mem)) (hk4 : ∀ (a0 : Nat) (x4_1 : (Option Nat)) (x4_2 : Int32) (x4_3 : Int32) (σ : Mem), Wo C G 4 (QP C G rvI 0 0) (k4 a0 x4_1 x4_2 x4_3 σ) σ 0 0 4 [(0, va_rf (some a0)), (1, va_rf x4_1), (2, .int x4_2), (3, .int x4_3)] []) (a0 : Nat) (x37_1 : (Option Nat)) (x37_2 : Int32) (x37_3 : Int32) (σ : Mem) : Wo C G 4 (QP C G rvI 0 0) (b_X4_winnerOf_37 k4 a0 x37_1 x37_2 x37_3 σ) σ 0 0 37 [(0, va_rf (some a0)), (1, va_rf x37_1), (2, .int x37_2), (3, .int x37_3)] [] := by
  unfold b_X4_winnerOf_37
  refine r_iinc hC 3 (fun w => [(3, .int w), (0, va_rf (some a0)), (1, va_rf x37_1), (2, .int x37_2)]) 1 rfl (by decide) rfl (fun w => rfl) dX4_winnerOf_37 (fun v4 => ?_)
  refine r_goto hC 4 dX4_winnerOf_40 (by decide) ?_
  refine Wo.sub [1, 2, 3, 0] rfl ?_
  exact hk4 a0 x37_1 x37_2 v4 σ

set_option maxRecDepth 100000 in
set_option maxHeartbeats 4000000 in
theorem t_X4_winnerOf_35 {C : Cxt} {G : Glb} (hC : CX C G RX4 cX4_winnerOf 4 (some .int) 2 0 0 44) (k4 : Nat → (Option Nat) → Int32 → Int32 → Mem → Option ((Int32) × Mem)) (hk4 : ∀ (a0 : Nat) (x4_1 : (Option Nat)) (x4_2 : Int32) (x4_3 : Int32) (σ : Mem), Wo C G 4 (QP C G rvI 0 0) (k4 a0 x4_1 x4_2 x4_3 σ) σ 0 0 4 [(0, va_rf (some a0)), (1, va_rf x4_1), (2, .int x4_2), (3, .int x4_3)] []) (a0 : Nat) (x35_1 : (Option Nat)) (x35_3 : Int32) (σ : Mem) : Wo C G 4 (QP C G rvI 0 0) (b_X4_winnerOf_35 k4 a0 x35_1 x35_3 σ) σ 0 0 35 [(0, va_rf (some a0)), (1, va_rf x35_1), (3, .int x35_3)] [] := by
  unfold b_X4_winnerOf_35
  refine r_iloadn hC 2 rfl rfl dX4_winnerOf_35 ?_
  refine r_istoren hC [(2, .int x35_3), (0, va_rf (some a0)), (1, va_rf x35_1), (3, .int x35_3)] (i := 2) rfl (by decide) (by simp [List.filter, cat_rf, cat_i, cat_j, cat_d, cat_a]) dX4_winnerOf_36 ?_
  refine Wo.sub [1, 2, 0, 3] rfl ?_
  exact t_X4_winnerOf_37 hC k4 hk4 a0 x35_1 x35_3 x35_3 σ

set_option maxRecDepth 100000 in
set_option maxHeartbeats 4000000 in
theorem t_X4_winnerOf_4 {C : Cxt} {G : Glb} (hC : CX C G RX4 cX4_winnerOf 4 (some .int) 2 0 0 44) (k4 : Nat → (Option Nat) → Int32 → Int32 → Mem → Option ((Int32) × Mem)) (hk4 : ∀ (a0 : Nat) (x4_1 : (Option Nat)) (x4_2 : Int32) (x4_3 : Int32) (σ : Mem), Wo C G 4 (QP C G rvI 0 0) (k4 a0 x4_1 x4_2 x4_3 σ) σ 0 0 4 [(0, va_rf (some a0)), (1, va_rf x4_1), (2, .int x4_2), (3, .int x4_3)] []) (a0 : Nat) (x4_1 : (Option Nat)) (x4_2 : Int32) (x4_3 : Int32) (σ : Mem) : Wo C G 4 (QP C G rvI 0 0) (b_X4_winnerOf_4 k4 a0 x4_1 x4_2 x4_3 σ) σ 0 0 4 [(0, va_rf (some a0)), (1, va_rf x4_1), (2, .int x4_2), (3, .int x4_3)] [] := by
  unfold b_X4_winnerOf_4
  refine r_iloadn hC 3 rfl rfl dX4_winnerOf_4 ?_
  refine r_iconst hC (4) rfl dX4_winnerOf_5 ?_
  refine r_icmp_ge hC 43 dX4_winnerOf_6 (by decide) ?_ ?_
  · refine r_iloadn hC 2 rfl rfl dX4_winnerOf_43 ?_
    exact e_I hC ⟨Nat.zero_le _, Nat.zero_le _⟩ dX4_winnerOf_44
  · refine r_aloadn hC 0 (r := (some a0)) rfl rfl dX4_winnerOf_9 ?_
    refine r_aloadn hC 1 (r := x4_1) rfl rfl dX4_winnerOf_10 ?_
    refine r_iloadn hC 3 rfl rfl dX4_winnerOf_11 ?_
    refine call_V hC (av := [va_rf x4_1, .int x4_3]) (st := []) (r := (some a0)) (ci := 4) rfl rfl (fun h9 => ct_X4_mayBuy hC.hl G h9 x4_1 x4_3 σ) q_524 q_526 q_8 q_13 q_527 yd_X4_mayBuy rfl ⟨Nat.le_of_ble_eq_true rfl, Nat.le_of_ble_eq_true rfl⟩ ⟨Nat.zero_le _, Nat.zero_le _⟩ rfl (Nat.le_of_ble_eq_true rfl) dX4_winnerOf_12 (fun v1 σ2 => ?_)
    show Wo _ _ _ _ _ _ _ _ _ _ [.int v1]
    refine r_if_eq hC 37 dX4_winnerOf_15 (by decide) ?_ ?_
    · exact t_X4_winnerOf_37 hC k4 hk4 a0 x4_1 x4_2 x4_3 σ2
    · refine r_iloadn hC 2 rfl rfl dX4_winnerOf_18 ?_
      refine r_iconst hC (-1) rfl dX4_winnerOf_19 ?_
      refine r_icmp_eq hC 35 dX4_winnerOf_20 (by decide) ?_ ?_
      · refine Wo.sub [0, 1, 3] rfl ?_
        exact t_X4_winnerOf_35 hC k4 hk4 a0 x4_1 x4_3 σ2
      · refine r_aloadn hC 1 (r := x4_1) rfl rfl dX4_winnerOf_23 ?_
        refine r_gR hC (k := 15) (r := x4_1) cls_1 (by decide) rfl q_95 (Or.inl rfl) dX4_winnerOf_24 (fun r5 => ?_)
        refine r_iloadn hC 3 rfl rfl dX4_winnerOf_27 ?_
        refine r_iloadn hC 2 rfl rfl dX4_winnerOf_28 ?_
        refine call_V hC (av := [.int x4_3, .int x4_2]) (st := []) (r := r5) (ci := 0) rfl rfl (fun h9 => ct_X0_isAhead hC.hl G h9 x4_3 x4_2 σ2) q_531 q_532 q_533 q_15 q_534 yd_X0_isAhead rfl ⟨Nat.le_of_ble_eq_true rfl, Nat.le_of_ble_eq_true rfl⟩ ⟨Nat.zero_le _, Nat.zero_le _⟩ rfl (Nat.le_of_ble_eq_true rfl) dX4_winnerOf_29 (fun v6 σ7 => ?_)
        show Wo _ _ _ _ _ _ _ _ _ _ [.int v6]
        refine r_if_eq hC 37 dX4_winnerOf_32 (by decide) ?_ ?_
        · exact t_X4_winnerOf_37 hC k4 hk4 a0 x4_1 x4_2 x4_3 σ7
        · refine Wo.sub [0, 1, 3] rfl ?_
          exact t_X4_winnerOf_35 hC k4 hk4 a0 x4_1 x4_3 σ7

set_option maxRecDepth 100000 in
set_option maxHeartbeats 4000000 in
theorem u_X4_winnerOf_4 {C : Cxt} {G : Glb} (hC : CX C G RX4 cX4_winnerOf 4 (some .int) 2 0 0 44) : ∀ (n : Nat) (a0 : Nat) (x4_1 : (Option Nat)) (x4_2 : Int32) (x4_3 : Int32) (σ : Mem), Wo C G 4 (QP C G rvI 0 0) (l_X4_winnerOf_4  n a0 x4_1 x4_2 x4_3 σ) σ 0 0 4 [(0, va_rf (some a0)), (1, va_rf x4_1), (2, .int x4_2), (3, .int x4_3)] [] := by
  intro n
  induction n with
  | zero => intro a0 x4_1 x4_2 x4_3 σ; exact Wo.none
  | succ n ih => intro a0 x4_1 x4_2 x4_3 σ; exact t_X4_winnerOf_4 hC (l_X4_winnerOf_4  n) ih a0 x4_1 x4_2 x4_3 σ

set_option maxRecDepth 100000 in
set_option maxHeartbeats 4000000 in
theorem t_X4_winnerOf_0 {C : Cxt} {G : Glb} (hC : CX C G RX4 cX4_winnerOf 4 (some .int) 2 0 0 44) (a0 : Nat) (p0 : (Option Nat)) (σ : Mem) : Wo C G 4 (QP C G rvI 0 0) (b_X4_winnerOf_0  a0 p0 σ) σ 0 0 0 [(0, va_rf (some a0)), (1, va_rf p0)] [] := by
  unfold b_X4_winnerOf_0
  refine r_iconst hC (-1) rfl dX4_winnerOf_0 ?_
  refine r_istoren hC [(2, .int (-1)), (0, va_rf (some a0)), (1, va_rf p0)] (i := 2) rfl (by decide) (by simp [List.filter, cat_rf, cat_i, cat_j, cat_d, cat_a]) dX4_winnerOf_1 ?_
  refine r_iconst hC (0) rfl dX4_winnerOf_2 ?_
  refine r_istoren hC [(3, .int 0), (2, .int (-1)), (0, va_rf (some a0)), (1, va_rf p0)] (i := 3) rfl (by decide) rfl dX4_winnerOf_3 ?_
  refine Wo.sub [2, 3, 1, 0] rfl ?_
  exact u_X4_winnerOf_4 hC 40 a0 p0 (-1) 0 σ

set_option maxRecDepth 100000 in
set_option maxHeartbeats 4000000 in
theorem ct_X4_winnerOf {l : Launch} (hl : l.stackTraces = false) (G : Glb) (a0 : Nat) (p0 : (Option Nat)) (σ : Mem) : Ct rvI l yX4_winnerOf (Cond.code yX4_winnerOf cX4_winnerOf 4 (some .int) :: uW) { frames := 2, cells := 0, slots := 0, locals := 44 } 0 0 G [.ref a0, va_rf p0] σ (f_X4_winnerOf a0 p0 σ) := by
  refine Ct.of hl (by decide +kernel) (by simp [lg_sl, cat_rf, cat_i, cat_j, cat_d, cat_a]) (fun C hC hin => ?_)
  have e : lv_args 0 [.ref a0, va_rf p0] = [(0, .ref a0), (1, va_rf p0)] := by simp [lv_args, cat_rf, cat_i, cat_j, cat_d, cat_a]
  rw [e]
  exact t_X4_winnerOf_0 hC a0 p0 σ

noncomputable def b_X4_priceFor_78 (y78_0 : Int32) (σ : Mem) : Option ((Int32) × Mem) :=
some (y78_0, σ)

noncomputable def b_X4_priceFor_42 (k5 : Nat → (Option Nat) → Int32 → Int32 → Int32 → Mem → Option ((Int32) × Mem)) (a0 : Nat) (x42_1 : (Option Nat)) (x42_2 : Int32) (x42_3 : Int32) (x42_4 : Int32) (σ : Mem) : Option ((Int32) × Mem) :=
nm (x42_4 + 1) fun v8 =>
k5 a0 x42_1 x42_2 x42_3 v8 σ

noncomputable def b_X4_priceFor_5 (k5 : Nat → (Option Nat) → Int32 → Int32 → Int32 → Mem → Option ((Int32) × Mem)) (a0 : Nat) (x5_1 : (Option Nat)) (x5_2 : Int32) (x5_3 : Int32) (x5_4 : Int32) (σ : Mem) : Option ((Int32) × Mem) :=
if 4 ≤ x5_4 then
if x5_3 = (-1) then
gR 1 15 σ x5_1 fun r6 =>
gI 0 0 σ r6 fun v7 =>
b_X4_priceFor_78 v7 σ
else
gR 1 15 σ x5_1 fun r1 =>
gR 0 2 σ r1 fun r2 =>
aI σ r2 x5_2 fun v3 =>
nm (x5_3 + 1) fun v4 =>
nm (if v4 < v3 then v4 else v3) fun v5 =>
b_X4_priceFor_78 v5 σ
else
if x5_4 = x5_2 then
b_X4_priceFor_42 k5 a0 x5_1 x5_2 x5_3 x5_4 σ
else
ob 4 σ (some a0) fun h11 => cl1 (f_X4_mayBuy h11 x5_1 x5_4 σ) fun v9 σ10 =>
if v9 = 0 then
b_X4_priceFor_42 k5 a0 x5_1 x5_2 x5_3 x5_4 σ10
else
gR 1 15 σ10 x5_1 fun r12 =>
gR 0 2 σ10 r12 fun r13 =>
aI σ10 r13 x5_4 fun v14 =>
nm (if x5_3 < v14 then v14 else x5_3) fun v15 =>
b_X4_priceFor_42 k5 a0 x5_1 x5_2 v15 x5_4 σ10

noncomputable def l_X4_priceFor_5 (n : Nat) : Nat → (Option Nat) → Int32 → Int32 → Int32 → Mem → Option ((Int32) × Mem) := itr (fun _ _ _ _ _ _ => none) (fun k => b_X4_priceFor_5  k) n

noncomputable def b_X4_priceFor_0 (a0 : Nat) (p0 : (Option Nat)) (p1 : Int32) (σ : Mem) : Option ((Int32) × Mem) :=
l_X4_priceFor_5 40 a0 p0 p1 (-1) 0 σ

noncomputable def f_X4_priceFor (a0 : Nat) (p0 : (Option Nat)) (p1 : Int32) (σ : Mem) : Option ((Int32) × Mem) := b_X4_priceFor_0 a0 p0 p1 σ
set_option maxRecDepth 100000 in
set_option maxHeartbeats 4000000 in
theorem t_X4_priceFor_78 {C : Cxt} {G : Glb} (hC : CX C G RX4 cX4_priceFor 5 (some .int) 2 0 0 44) (y78_0 : Int32) (σ : Mem) : Wo C G 5 (QP C G rvI 0 0) (b_X4_priceFor_78  y78_0 σ) σ 0 0 78 [] [.int y78_0] := by
  unfold b_X4_priceFor_78
  exact e_I hC ⟨Nat.zero_le _, Nat.zero_le _⟩ dX4_priceFor_78

set_option maxRecDepth 100000 in
set_option maxHeartbeats 4000000 in
theorem t_X4_priceFor_42 {C : Cxt} {G : Glb} (hC : CX C G RX4 cX4_priceFor 5 (some .int) 2 0 0 44) (k5 : Nat → (Option Nat) → Int32 → Int32 → Int32 → Mem → Option ((Int32) × Mem)) (hk5 : ∀ (a0 : Nat) (x5_1 : (Option Nat)) (x5_2 : Int32) (x5_3 : Int32) (x5_4 : Int32) (σ : Mem), Wo C G 5 (QP C G rvI 0 0) (k5 a0 x5_1 x5_2 x5_3 x5_4 σ) σ 0 0 5 [(0, va_rf (some a0)), (1, va_rf x5_1), (2, .int x5_2), (3, .int x5_3), (4, .int x5_4)] []) (a0 : Nat) (x42_1 : (Option Nat)) (x42_2 : Int32) (x42_3 : Int32) (x42_4 : Int32) (σ : Mem) : Wo C G 5 (QP C G rvI 0 0) (b_X4_priceFor_42 k5 a0 x42_1 x42_2 x42_3 x42_4 σ) σ 0 0 42 [(0, va_rf (some a0)), (1, va_rf x42_1), (2, .int x42_2), (3, .int x42_3), (4, .int x42_4)] [] := by
  unfold b_X4_priceFor_42
  refine r_iinc hC 4 (fun w => [(4, .int w), (0, va_rf (some a0)), (1, va_rf x42_1), (2, .int x42_2), (3, .int x42_3)]) 1 rfl (by decide) rfl (fun w => rfl) dX4_priceFor_42 (fun v8 => ?_)
  refine r_goto hC 5 dX4_priceFor_45 (by decide) ?_
  refine Wo.sub [1, 2, 3, 4, 0] rfl ?_
  exact hk5 a0 x42_1 x42_2 x42_3 v8 σ

set_option maxRecDepth 100000 in
set_option maxHeartbeats 4000000 in
theorem t_X4_priceFor_5 {C : Cxt} {G : Glb} (hC : CX C G RX4 cX4_priceFor 5 (some .int) 2 0 0 44) (k5 : Nat → (Option Nat) → Int32 → Int32 → Int32 → Mem → Option ((Int32) × Mem)) (hk5 : ∀ (a0 : Nat) (x5_1 : (Option Nat)) (x5_2 : Int32) (x5_3 : Int32) (x5_4 : Int32) (σ : Mem), Wo C G 5 (QP C G rvI 0 0) (k5 a0 x5_1 x5_2 x5_3 x5_4 σ) σ 0 0 5 [(0, va_rf (some a0)), (1, va_rf x5_1), (2, .int x5_2), (3, .int x5_3), (4, .int x5_4)] []) (a0 : Nat) (x5_1 : (Option Nat)) (x5_2 : Int32) (x5_3 : Int32) (x5_4 : Int32) (σ : Mem) : Wo C G 5 (QP C G rvI 0 0) (b_X4_priceFor_5 k5 a0 x5_1 x5_2 x5_3 x5_4 σ) σ 0 0 5 [(0, va_rf (some a0)), (1, va_rf x5_1), (2, .int x5_2), (3, .int x5_3), (4, .int x5_4)] [] := by
  unfold b_X4_priceFor_5
  refine r_iload hC 4 rfl dX4_priceFor_5 ?_
  refine r_iconst hC (4) rfl dX4_priceFor_7 ?_
  refine r_icmp_ge hC 48 dX4_priceFor_8 (by decide) ?_ ?_
  · refine r_iloadn hC 3 rfl rfl dX4_priceFor_48 ?_
    refine r_iconst hC (-1) rfl dX4_priceFor_49 ?_
    refine r_icmp_ne hC 63 dX4_priceFor_50 (by decide) ?_ ?_
    · refine r_aloadn hC 1 (r := x5_1) rfl rfl dX4_priceFor_63 ?_
      refine r_gR hC (k := 15) (r := x5_1) cls_1 (by decide) rfl q_95 (Or.inl rfl) dX4_priceFor_64 (fun r1 => ?_)
      refine r_gR hC (k := 2) (r := r1) cls_0 (by decide) rfl q_52 (Or.inl rfl) dX4_priceFor_67 (fun r2 => ?_)
      refine r_iloadn hC 2 rfl rfl dX4_priceFor_70 ?_
      refine r_aI hC (r := r2) dX4_priceFor_71 (fun v3 => ?_)
      refine r_iloadn hC 3 rfl rfl dX4_priceFor_72 ?_
      refine r_iconst hC (1) rfl dX4_priceFor_73 ?_
      refine r_iadd hC dX4_priceFor_74 (fun v4 => ?_)
      refine r_min hC q_342 q_343 q_24 q_344 (Nat.le_of_ble_eq_true rfl) (Nat.le_of_ble_eq_true rfl) ⟨Nat.zero_le _, Nat.zero_le _⟩ dX4_priceFor_75 (fun v5 => ?_)
      refine Wo.sub [] rfl ?_
      exact t_X4_priceFor_78 hC v5 σ
    · refine r_aloadn hC 1 (r := x5_1) rfl rfl dX4_priceFor_53 ?_
      refine r_gR hC (k := 15) (r := x5_1) cls_1 (by decide) rfl q_95 (Or.inl rfl) dX4_priceFor_54 (fun r6 => ?_)
      refine r_gI hC (k := 0) (r := r6) cls_0 (by decide) rfl q_49 (Or.inl rfl) dX4_priceFor_57 (fun v7 => ?_)
      refine r_goto hC 78 dX4_priceFor_60 (by decide) ?_
      refine Wo.sub [] rfl ?_
      exact t_X4_priceFor_78 hC v7 σ
  · refine r_iload hC 4 rfl dX4_priceFor_11 ?_
    refine r_iloadn hC 2 rfl rfl dX4_priceFor_13 ?_
    refine r_icmp_eq hC 42 dX4_priceFor_14 (by decide) ?_ ?_
    · exact t_X4_priceFor_42 hC k5 hk5 a0 x5_1 x5_2 x5_3 x5_4 σ
    · refine r_aloadn hC 0 (r := (some a0)) rfl rfl dX4_priceFor_17 ?_
      refine r_aloadn hC 1 (r := x5_1) rfl rfl dX4_priceFor_18 ?_
      refine r_iload hC 4 rfl dX4_priceFor_19 ?_
      refine call_V hC (av := [va_rf x5_1, .int x5_4]) (st := []) (r := (some a0)) (ci := 4) rfl rfl (fun h9 => ct_X4_mayBuy hC.hl G h9 x5_1 x5_4 σ) q_524 q_526 q_8 q_13 q_527 yd_X4_mayBuy rfl ⟨Nat.le_of_ble_eq_true rfl, Nat.le_of_ble_eq_true rfl⟩ ⟨Nat.zero_le _, Nat.zero_le _⟩ rfl (Nat.le_of_ble_eq_true rfl) dX4_priceFor_21 (fun v9 σ10 => ?_)
      show Wo _ _ _ _ _ _ _ _ _ _ [.int v9]
      refine r_if_eq hC 42 dX4_priceFor_24 (by decide) ?_ ?_
      · exact t_X4_priceFor_42 hC k5 hk5 a0 x5_1 x5_2 x5_3 x5_4 σ10
      · refine r_iloadn hC 3 rfl rfl dX4_priceFor_27 ?_
        refine r_aloadn hC 1 (r := x5_1) rfl rfl dX4_priceFor_28 ?_
        refine r_gR hC (k := 15) (r := x5_1) cls_1 (by decide) rfl q_95 (Or.inl rfl) dX4_priceFor_29 (fun r12 => ?_)
        refine r_gR hC (k := 2) (r := r12) cls_0 (by decide) rfl q_52 (Or.inl rfl) dX4_priceFor_32 (fun r13 => ?_)
        refine r_iload hC 4 rfl dX4_priceFor_35 ?_
        refine r_aI hC (r := r13) dX4_priceFor_37 (fun v14 => ?_)
        refine r_max hC q_425 q_426 q_24 q_427 (Nat.le_of_ble_eq_true rfl) (Nat.le_of_ble_eq_true rfl) ⟨Nat.zero_le _, Nat.zero_le _⟩ dX4_priceFor_38 (fun v15 => ?_)
        refine r_istoren hC [(3, .int v15), (0, va_rf (some a0)), (1, va_rf x5_1), (2, .int x5_2), (4, .int x5_4)] (i := 3) rfl (by decide) rfl dX4_priceFor_41 ?_
        refine Wo.sub [1, 2, 3, 0, 4] rfl ?_
        exact t_X4_priceFor_42 hC k5 hk5 a0 x5_1 x5_2 v15 x5_4 σ10

set_option maxRecDepth 100000 in
set_option maxHeartbeats 4000000 in
theorem u_X4_priceFor_5 {C : Cxt} {G : Glb} (hC : CX C G RX4 cX4_priceFor 5 (some .int) 2 0 0 44) : ∀ (n : Nat) (a0 : Nat) (x5_1 : (Option Nat)) (x5_2 : Int32) (x5_3 : Int32) (x5_4 : Int32) (σ : Mem), Wo C G 5 (QP C G rvI 0 0) (l_X4_priceFor_5  n a0 x5_1 x5_2 x5_3 x5_4 σ) σ 0 0 5 [(0, va_rf (some a0)), (1, va_rf x5_1), (2, .int x5_2), (3, .int x5_3), (4, .int x5_4)] [] := by
  intro n
  induction n with
  | zero => intro a0 x5_1 x5_2 x5_3 x5_4 σ; exact Wo.none
  | succ n ih => intro a0 x5_1 x5_2 x5_3 x5_4 σ; exact t_X4_priceFor_5 hC (l_X4_priceFor_5  n) ih a0 x5_1 x5_2 x5_3 x5_4 σ

set_option maxRecDepth 100000 in
set_option maxHeartbeats 4000000 in
theorem t_X4_priceFor_0 {C : Cxt} {G : Glb} (hC : CX C G RX4 cX4_priceFor 5 (some .int) 2 0 0 44) (a0 : Nat) (p0 : (Option Nat)) (p1 : Int32) (σ : Mem) : Wo C G 5 (QP C G rvI 0 0) (b_X4_priceFor_0  a0 p0 p1 σ) σ 0 0 0 [(0, va_rf (some a0)), (1, va_rf p0), (2, .int p1)] [] := by
  unfold b_X4_priceFor_0
  refine r_iconst hC (-1) rfl dX4_priceFor_0 ?_
  refine r_istoren hC [(3, .int (-1)), (0, va_rf (some a0)), (1, va_rf p0), (2, .int p1)] (i := 3) rfl (by decide) rfl dX4_priceFor_1 ?_
  refine r_iconst hC (0) rfl dX4_priceFor_2 ?_
  refine r_istore hC [(4, .int 0), (3, .int (-1)), (0, va_rf (some a0)), (1, va_rf p0), (2, .int p1)] (i := 4) (by decide) rfl dX4_priceFor_3 ?_
  refine Wo.sub [2, 3, 4, 1, 0] rfl ?_
  exact u_X4_priceFor_5 hC 40 a0 p0 p1 (-1) 0 σ

set_option maxRecDepth 100000 in
set_option maxHeartbeats 4000000 in
theorem ct_X4_priceFor {l : Launch} (hl : l.stackTraces = false) (G : Glb) (a0 : Nat) (p0 : (Option Nat)) (p1 : Int32) (σ : Mem) : Ct rvI l yX4_priceFor (Cond.code yX4_priceFor cX4_priceFor 5 (some .int) :: uW) { frames := 2, cells := 0, slots := 0, locals := 44 } 0 0 G [.ref a0, va_rf p0, .int p1] σ (f_X4_priceFor a0 p0 p1 σ) := by
  refine Ct.of hl (by decide +kernel) (by simp [lg_sl, cat_rf, cat_i, cat_j, cat_d, cat_a]) (fun C hC hin => ?_)
  have e : lv_args 0 [.ref a0, va_rf p0, .int p1] = [(0, .ref a0), (1, va_rf p0), (2, .int p1)] := by simp [lv_args, cat_rf, cat_i, cat_j, cat_d, cat_a]
  rw [e]
  exact t_X4_priceFor_0 hC a0 p0 p1 σ

noncomputable def b_X4_knock_88 (x88_2 : (Option Nat)) (x88_3 : Int32) (σ : Mem) : Option ((Int32) × Mem) :=
gR 1 15 σ x88_2 fun r13 =>
ob 0 σ r13 fun h16 => cl1 (f_X0_close h16 σ) fun u14 σ15 =>
some (x88_3, σ15)

noncomputable def b_X4_knock_0 (a0 : Nat) (p0 : Int32) (σ : Mem) : Option ((Int32) × Mem) :=
ob 4 σ (some a0) fun h3 => cl1 (f_X4_lotAt h3 p0 σ) fun r1 σ2 =>
gR 1 15 σ2 r1 fun r4 =>
ob 0 σ2 r4 fun h7 => cl1 (f_X0_isOpen h7 σ2) fun v5 σ6 =>
cl1 (f_X4_requireState v5 σ6) fun u8 σ9 =>
ob 4 σ9 (some a0) fun h12 => cl1 (f_X4_winnerOf h12 r1 σ9) fun v10 σ11 =>
if v10 = (-1) then
b_X4_knock_88 r1 v10 σ11
else
ob 4 σ11 (some a0) fun h19 => cl1 (f_X4_priceFor h19 r1 v10 σ11) fun v17 σ18 =>
cl1 (f_X4_costOf r1 v17 σ18) fun v20 σ21 =>
gR 4 7 σ21 (some a0) fun r22 =>
aI σ21 r22 v10 fun v23 =>
nm (v23 - v20) fun v24 =>
wI σ21 r22 v10 v24 fun σ25 =>
gI 4 8 σ25 (some a0) fun v26 =>
nm (v26 + v20) fun v27 =>
pI 4 8 σ25 (some a0) v27 fun σ28 =>
gI 4 9 σ28 (some a0) fun v29 =>
nm (v29 + 1) fun v30 =>
pI 4 9 σ28 (some a0) v30 fun σ31 =>
gI 4 10 σ31 (some a0) fun v32 =>
gI 1 1 σ31 r1 fun v33 =>
nm (v32 + v33) fun v34 =>
pI 4 10 σ31 (some a0) v34 fun σ35 =>
ob 1 σ35 r1 fun h38 => cl1 (f_X1_vanish h38 σ35) fun u36 σ37 =>
b_X4_knock_88 r1 v10 σ37

noncomputable def f_X4_knock (a0 : Nat) (p0 : Int32) (σ : Mem) : Option ((Int32) × Mem) := b_X4_knock_0 a0 p0 σ
set_option maxRecDepth 100000 in
set_option maxHeartbeats 4000000 in
theorem t_X4_knock_88 {C : Cxt} {G : Glb} (hC : CX C G RX4 cX4_knock 5 (some .int) 3 0 0 68) (x88_2 : (Option Nat)) (x88_3 : Int32) (σ : Mem) : Wo C G 5 (QP C G rvI 0 0) (b_X4_knock_88  x88_2 x88_3 σ) σ 0 0 88 [(2, va_rf x88_2), (3, .int x88_3)] [] := by
  unfold b_X4_knock_88
  refine r_aloadn hC 0 (r := x88_2) rfl rfl dX4_knock_88 ?_
  refine r_gR hC (k := 15) (r := x88_2) cls_1 (by decide) rfl q_95 (Or.inl rfl) dX4_knock_89 (fun r13 => ?_)
  refine call_V hC (av := []) (st := []) (r := r13) (ci := 0) rfl rfl (fun h9 => ct_X0_close hC.hl G h9 σ) q_585 q_586 q_587 q_15 q_588 yd_X0_close rfl ⟨Nat.le_of_ble_eq_true rfl, Nat.le_of_ble_eq_true rfl⟩ ⟨Nat.zero_le _, Nat.zero_le _⟩ rfl (Nat.le_of_ble_eq_true rfl) dX4_knock_92 (fun u14 σ15 => ?_)
  show Wo _ _ _ _ _ _ _ _ _ _ []
  refine r_iloadn hC 1 rfl rfl dX4_knock_95 ?_
  exact e_I hC ⟨Nat.zero_le _, Nat.zero_le _⟩ dX4_knock_96

set_option maxRecDepth 100000 in
set_option maxHeartbeats 4000000 in
theorem t_X4_knock_0 {C : Cxt} {G : Glb} (hC : CX C G RX4 cX4_knock 5 (some .int) 3 0 0 68) (a0 : Nat) (p0 : Int32) (σ : Mem) : Wo C G 5 (QP C G rvI 0 0) (b_X4_knock_0  a0 p0 σ) σ 0 0 0 [(0, va_rf (some a0)), (1, .int p0)] [] := by
  unfold b_X4_knock_0
  refine r_aloadn hC 0 (r := (some a0)) rfl rfl dX4_knock_0 ?_
  refine r_iloadn hC 1 rfl rfl dX4_knock_1 ?_
  refine call_V hC (av := [.int p0]) (st := []) (r := (some a0)) (ci := 4) rfl rfl (fun h9 => ct_X4_lotAt hC.hl G h9 p0 σ) q_357 q_359 q_3 q_13 q_360 yd_X4_lotAt rfl ⟨Nat.le_of_ble_eq_true rfl, Nat.le_of_ble_eq_true rfl⟩ ⟨Nat.zero_le _, Nat.zero_le _⟩ rfl (Nat.le_of_ble_eq_true rfl) dX4_knock_2 (fun r1 σ2 => ?_)
  show Wo _ _ _ _ _ _ _ _ _ _ [va_rf r1]
  refine r_astoren hC [(2, va_rf r1), (0, va_rf (some a0)), (1, .int p0)] (r := r1) (i := 2) rfl (by decide) rfl dX4_knock_5 ?_
  refine r_aloadn hC 0 (r := r1) rfl rfl dX4_knock_6 ?_
  refine r_gR hC (k := 15) (r := r1) cls_1 (by decide) rfl q_95 (Or.inl rfl) dX4_knock_7 (fun r4 => ?_)
  refine call_V hC (av := []) (st := []) (r := r4) (ci := 0) rfl rfl (fun h9 => ct_X0_isOpen hC.hl G h9 σ2) q_361 q_362 q_363 q_15 q_364 yd_X0_isOpen rfl ⟨Nat.le_of_ble_eq_true rfl, Nat.le_of_ble_eq_true rfl⟩ ⟨Nat.zero_le _, Nat.zero_le _⟩ rfl (Nat.le_of_ble_eq_true rfl) dX4_knock_10 (fun v5 σ6 => ?_)
  show Wo _ _ _ _ _ _ _ _ _ _ [.int v5]
  refine call_S hC (av := [.int v5]) (st := []) (ct_X4_requireState hC.hl G v5 σ6) q_294 q_295 q_13 q_296 yd_X4_requireState rfl ⟨Nat.le_of_ble_eq_true rfl, Nat.le_of_ble_eq_true rfl⟩ ⟨Nat.zero_le _, Nat.zero_le _⟩ rfl (Nat.le_of_ble_eq_true rfl) dX4_knock_13 (fun u8 σ9 => ?_)
  show Wo _ _ _ _ _ _ _ _ _ _ []
  refine r_aloadn hC 1 (r := (some a0)) rfl rfl dX4_knock_16 ?_
  refine r_aloadn hC 0 (r := r1) rfl rfl dX4_knock_17 ?_
  refine call_V hC (av := [va_rf r1]) (st := []) (r := (some a0)) (ci := 4) rfl rfl (fun h9 => ct_X4_winnerOf hC.hl G h9 r1 σ9) q_520 q_522 q_7 q_13 q_523 yd_X4_winnerOf rfl ⟨Nat.le_of_ble_eq_true rfl, Nat.le_of_ble_eq_true rfl⟩ ⟨Nat.zero_le _, Nat.zero_le _⟩ rfl (Nat.le_of_ble_eq_true rfl) dX4_knock_18 (fun v10 σ11 => ?_)
  show Wo _ _ _ _ _ _ _ _ _ _ [.int v10]
  refine r_istoren hC [(3, .int v10), (2, va_rf r1), (0, va_rf (some a0)), (1, .int p0)] (i := 3) rfl (by decide) (by simp [List.filter, cat_rf, cat_i, cat_j, cat_d, cat_a]) dX4_knock_21 ?_
  refine r_iloadn hC 0 rfl rfl dX4_knock_22 ?_
  refine r_iconst hC (-1) rfl dX4_knock_23 ?_
  refine r_icmp_eq hC 88 dX4_knock_24 (by decide) ?_ ?_
  · refine Wo.sub [1, 0] rfl ?_
    exact t_X4_knock_88 hC r1 v10 σ11
  · refine r_aloadn hC 1 (r := r1) rfl rfl dX4_knock_27 ?_
    refine r_aloadn hC 2 (r := (some a0)) rfl rfl dX4_knock_28 ?_
    refine r_aloadn hC 1 (r := r1) rfl rfl dX4_knock_29 ?_
    refine r_iloadn hC 0 rfl rfl dX4_knock_30 ?_
    refine call_V hC (av := [va_rf r1, .int v10]) (st := [va_rf r1]) (r := (some a0)) (ci := 4) rfl rfl (fun h9 => ct_X4_priceFor hC.hl G h9 r1 v10 σ11) q_535 q_537 q_9 q_13 q_538 yd_X4_priceFor rfl ⟨Nat.le_of_ble_eq_true rfl, Nat.le_of_ble_eq_true rfl⟩ ⟨Nat.zero_le _, Nat.zero_le _⟩ rfl (by simp [cat_rf, cat_i, cat_j, cat_d, cat_a]) dX4_knock_31 (fun v17 σ18 => ?_)
    show Wo _ _ _ _ _ _ _ _ _ _ [.int v17, va_rf r1]
    refine call_S hC (av := [va_rf r1, .int v17]) (st := []) (ct_X4_costOf hC.hl G r1 v17 σ18) q_528 q_529 q_13 q_530 yd_X4_costOf rfl ⟨Nat.le_of_ble_eq_true rfl, Nat.le_of_ble_eq_true rfl⟩ ⟨Nat.zero_le _, Nat.zero_le _⟩ rfl (Nat.le_of_ble_eq_true rfl) dX4_knock_34 (fun v20 σ21 => ?_)
    show Wo _ _ _ _ _ _ _ _ _ _ [.int v20]
    refine r_istore hC [(4, .int v20), (3, .int v10), (2, va_rf r1), (0, va_rf (some a0)), (1, .int p0)] (i := 4) (by decide) rfl dX4_knock_37 ?_
    refine r_aloadn hC 3 (r := (some a0)) rfl rfl dX4_knock_39 ?_
    refine r_gR hC (k := 7) (r := (some a0)) cls_4 (by decide) rfl q_194 (Or.inl rfl) dX4_knock_40 (fun r22 => ?_)
    refine r_iloadn hC 1 rfl rfl dX4_knock_43 ?_
    refine r_dup2 hC rfl (cat_rf _) dX4_knock_44 ?_
    refine r_aI hC (r := r22) dX4_knock_45 (fun v23 => ?_)
    refine r_iload hC 0 rfl dX4_knock_46 ?_
    refine r_isub hC dX4_knock_48 (fun v24 => ?_)
    refine r_wI hC (r := r22) dX4_knock_49 (fun σ25 => ?_)
    refine r_aloadn hC 3 (r := (some a0)) rfl rfl dX4_knock_50 ?_
    refine r_dup hC (cat_rf _) dX4_knock_51 ?_
    refine r_gI hC (k := 8) (r := (some a0)) cls_4 (by decide) rfl q_195 (Or.inl rfl) dX4_knock_52 (fun v26 => ?_)
    refine r_iload hC 0 rfl dX4_knock_55 ?_
    refine r_iadd hC dX4_knock_57 (fun v27 => ?_)
    refine r_pI hC (k := 8) (r := (some a0)) cls_4 (by decide) rfl q_195 (Or.inl rfl) (Or.inl rfl) dX4_knock_58 (fun σ28 => ?_)
    refine r_aloadn hC 3 (r := (some a0)) rfl rfl dX4_knock_61 ?_
    refine r_dup hC (cat_rf _) dX4_knock_62 ?_
    refine r_gI hC (k := 9) (r := (some a0)) cls_4 (by decide) rfl q_196 (Or.inl rfl) dX4_knock_63 (fun v29 => ?_)
    refine r_iconst hC (1) rfl dX4_knock_66 ?_
    refine r_iadd hC dX4_knock_67 (fun v30 => ?_)
    refine r_pI hC (k := 9) (r := (some a0)) cls_4 (by decide) rfl q_196 (Or.inl rfl) (Or.inl rfl) dX4_knock_68 (fun σ31 => ?_)
    refine r_aloadn hC 3 (r := (some a0)) rfl rfl dX4_knock_71 ?_
    refine r_dup hC (cat_rf _) dX4_knock_72 ?_
    refine r_gI hC (k := 10) (r := (some a0)) cls_4 (by decide) rfl q_197 (Or.inl rfl) dX4_knock_73 (fun v32 => ?_)
    refine r_aloadn hC 2 (r := r1) rfl rfl dX4_knock_76 ?_
    refine r_gI hC (k := 1) (r := r1) cls_1 (by decide) rfl q_67 (Or.inl rfl) dX4_knock_77 (fun v33 => ?_)
    refine r_iadd hC dX4_knock_80 (fun v34 => ?_)
    refine r_pI hC (k := 10) (r := (some a0)) cls_4 (by decide) rfl q_197 (Or.inl rfl) (Or.inl rfl) dX4_knock_81 (fun σ35 => ?_)
    refine r_aloadn hC 2 (r := r1) rfl rfl dX4_knock_84 ?_
    refine call_V hC (av := []) (st := []) (r := r1) (ci := 1) rfl rfl (fun h9 => ct_X1_vanish hC.hl G h9 σ35) q_581 q_582 q_583 q_14 q_584 yd_X1_vanish rfl ⟨Nat.le_of_ble_eq_true rfl, Nat.le_of_ble_eq_true rfl⟩ ⟨Nat.zero_le _, Nat.zero_le _⟩ rfl (Nat.le_of_ble_eq_true rfl) dX4_knock_85 (fun u36 σ37 => ?_)
    show Wo _ _ _ _ _ _ _ _ _ _ []
    refine Wo.sub [2, 1] rfl ?_
    exact t_X4_knock_88 hC r1 v10 σ37

set_option maxRecDepth 100000 in
set_option maxHeartbeats 4000000 in
theorem ct_X4_knock {l : Launch} (hl : l.stackTraces = false) (G : Glb) (a0 : Nat) (p0 : Int32) (σ : Mem) : Ct rvI l yX4_knock (Cond.code yX4_knock cX4_knock 5 (some .int) :: uW) { frames := 3, cells := 0, slots := 0, locals := 68 } 0 0 G [.ref a0, .int p0] σ (f_X4_knock a0 p0 σ) := by
  refine Ct.of hl (by decide +kernel) (Nat.le_of_ble_eq_true rfl) (fun C hC hin => ?_)
  have e : lv_args 0 [.ref a0, .int p0] = [(0, .ref a0), (1, .int p0)] := rfl
  rw [e]
  exact t_X4_knock_0 hC a0 p0 σ

noncomputable def b_X4_ofSection_107 (x107_2 : Int32) (x107_3 : (Option Nat)) (σ : Mem) : Option ((Int32) × Mem) :=
gR 2 7 σ x107_3 fun r12 =>
nm (x107_2 - 6) fun v13 =>
aI σ r12 v13 fun v14 =>
some (v14, σ)

noncomputable def b_X4_ofSection_0 (a0 : Nat) (p0 : Int32) (p1 : Int32) (σ : Mem) : Option ((Int32) × Mem) :=
ob 4 σ (some a0) fun h3 => cl1 (f_X4_sectionAt h3 p0 σ) fun r1 σ2 =>
cl1 (f_X4_requireArgument p1 0 10 σ2) fun u4 σ5 =>
if p1 = 0 then
gI 2 0 σ5 r1 fun v6 =>
some (v6, σ5)
else if p1 = 1 then
gI 2 1 σ5 r1 fun v7 =>
some (v7, σ5)
else if p1 = 2 then
gI 2 2 σ5 r1 fun v8 =>
some (v8, σ5)
else if p1 = 3 then
gI 2 3 σ5 r1 fun v9 =>
some (v9, σ5)
else if p1 = 4 then
gI 2 4 σ5 r1 fun v10 =>
some (v10, σ5)
else if p1 = 5 then
gI 2 5 σ5 r1 fun v11 =>
some (v11, σ5)
else if p1 = 6 then
b_X4_ofSection_107 p1 r1 σ5
else if p1 = 7 then
b_X4_ofSection_107 p1 r1 σ5
else if p1 = 8 then
b_X4_ofSection_107 p1 r1 σ5
else if p1 = 9 then
b_X4_ofSection_107 p1 r1 σ5
else if p1 = 10 then
gI 2 6 σ5 r1 fun v15 =>
some (v15, σ5)
else 
b_X4_ofSection_107 p1 r1 σ5

noncomputable def f_X4_ofSection (a0 : Nat) (p0 : Int32) (p1 : Int32) (σ : Mem) : Option ((Int32) × Mem) := b_X4_ofSection_0 a0 p0 p1 σ
set_option maxRecDepth 100000 in
set_option maxHeartbeats 4000000 in
theorem t_X4_ofSection_107 {C : Cxt} {G : Glb} (hC : CX C G RX4 cX4_ofSection 4 (some .int) 2 0 0 42) (x107_2 : Int32) (x107_3 : (Option Nat)) (σ : Mem) : Wo C G 4 (QP C G rvI 0 0) (b_X4_ofSection_107  x107_2 x107_3 σ) σ 0 0 107 [(2, .int x107_2), (3, va_rf x107_3)] [] := by
  unfold b_X4_ofSection_107
  refine r_aloadn hC 1 (r := x107_3) rfl rfl dX4_ofSection_107 ?_
  refine r_gR hC (k := 7) (r := x107_3) cls_2 (by decide) rfl q_151 (Or.inl rfl) dX4_ofSection_108 (fun r12 => ?_)
  refine r_iloadn hC 0 rfl rfl dX4_ofSection_111 ?_
  refine r_bipush hC (6) (by decide) dX4_ofSection_112 ?_
  refine r_isub hC dX4_ofSection_114 (fun v13 => ?_)
  refine r_aI hC (r := r12) dX4_ofSection_115 (fun v14 => ?_)
  exact e_I hC ⟨Nat.zero_le _, Nat.zero_le _⟩ dX4_ofSection_116

set_option maxRecDepth 100000 in
set_option maxHeartbeats 4000000 in
theorem t_X4_ofSection_0 {C : Cxt} {G : Glb} (hC : CX C G RX4 cX4_ofSection 4 (some .int) 2 0 0 42) (a0 : Nat) (p0 : Int32) (p1 : Int32) (σ : Mem) : Wo C G 4 (QP C G rvI 0 0) (b_X4_ofSection_0  a0 p0 p1 σ) σ 0 0 0 [(0, va_rf (some a0)), (1, .int p0), (2, .int p1)] [] := by
  unfold b_X4_ofSection_0
  refine r_aloadn hC 0 (r := (some a0)) rfl rfl dX4_ofSection_0 ?_
  refine r_iloadn hC 1 rfl rfl dX4_ofSection_1 ?_
  refine call_V hC (av := [.int p0]) (st := []) (r := (some a0)) (ci := 4) rfl rfl (fun h9 => ct_X4_sectionAt hC.hl G h9 p0 σ) q_316 q_318 q_1 q_13 q_319 yd_X4_sectionAt rfl ⟨Nat.le_of_ble_eq_true rfl, Nat.le_of_ble_eq_true rfl⟩ ⟨Nat.zero_le _, Nat.zero_le _⟩ rfl (Nat.le_of_ble_eq_true rfl) dX4_ofSection_2 (fun r1 σ2 => ?_)
  show Wo _ _ _ _ _ _ _ _ _ _ [va_rf r1]
  refine r_astoren hC [(3, va_rf r1), (0, va_rf (some a0)), (1, .int p0), (2, .int p1)] (r := r1) (i := 3) rfl (by decide) rfl dX4_ofSection_5 ?_
  refine r_iloadn hC 3 rfl rfl dX4_ofSection_6 ?_
  refine r_iconst hC (0) rfl dX4_ofSection_7 ?_
  refine r_bipush hC (10) (by decide) dX4_ofSection_8 ?_
  refine call_S hC (av := [.int p1, .int 0, .int 10]) (st := []) (ct_X4_requireArgument hC.hl G p1 0 10 σ2) q_228 q_229 q_13 q_230 yd_X4_requireArgument rfl ⟨Nat.le_of_ble_eq_true rfl, Nat.le_of_ble_eq_true rfl⟩ ⟨Nat.zero_le _, Nat.zero_le _⟩ rfl (Nat.le_of_ble_eq_true rfl) dX4_ofSection_10 (fun u4 σ5 => ?_)
  show Wo _ _ _ _ _ _ _ _ _ _ []
  refine r_iloadn hC 3 rfl rfl dX4_ofSection_13 ?_
  refine Wo.ite (fun h14_0 => ?_) (fun h14_0 => ?_)
  · refine r_tab hC 72 dX4_ofSection_14 (by rw [h14_0]; decide) (by rw [h14_0]; decide) (by rw [h14_0]; rfl) (by decide) ?_
    refine r_aloadn hC 0 (r := r1) rfl rfl dX4_ofSection_72 ?_
    refine r_gI hC (k := 0) (r := r1) cls_2 (by decide) rfl q_137 (Or.inl rfl) dX4_ofSection_73 (fun v6 => ?_)
    exact e_I hC ⟨Nat.zero_le _, Nat.zero_le _⟩ dX4_ofSection_76
  refine Wo.ite (fun h14_1 => ?_) (fun h14_1 => ?_)
  · refine r_tab hC 77 dX4_ofSection_14 (by rw [h14_1]; decide) (by rw [h14_1]; decide) (by rw [h14_1]; rfl) (by decide) ?_
    refine r_aloadn hC 0 (r := r1) rfl rfl dX4_ofSection_77 ?_
    refine r_gI hC (k := 1) (r := r1) cls_2 (by decide) rfl q_139 (Or.inl rfl) dX4_ofSection_78 (fun v7 => ?_)
    exact e_I hC ⟨Nat.zero_le _, Nat.zero_le _⟩ dX4_ofSection_81
  refine Wo.ite (fun h14_2 => ?_) (fun h14_2 => ?_)
  · refine r_tab hC 82 dX4_ofSection_14 (by rw [h14_2]; decide) (by rw [h14_2]; decide) (by rw [h14_2]; rfl) (by decide) ?_
    refine r_aloadn hC 0 (r := r1) rfl rfl dX4_ofSection_82 ?_
    refine r_gI hC (k := 2) (r := r1) cls_2 (by decide) rfl q_141 (Or.inl rfl) dX4_ofSection_83 (fun v8 => ?_)
    exact e_I hC ⟨Nat.zero_le _, Nat.zero_le _⟩ dX4_ofSection_86
  refine Wo.ite (fun h14_3 => ?_) (fun h14_3 => ?_)
  · refine r_tab hC 87 dX4_ofSection_14 (by rw [h14_3]; decide) (by rw [h14_3]; decide) (by rw [h14_3]; rfl) (by decide) ?_
    refine r_aloadn hC 0 (r := r1) rfl rfl dX4_ofSection_87 ?_
    refine r_gI hC (k := 3) (r := r1) cls_2 (by decide) rfl q_143 (Or.inl rfl) dX4_ofSection_88 (fun v9 => ?_)
    exact e_I hC ⟨Nat.zero_le _, Nat.zero_le _⟩ dX4_ofSection_91
  refine Wo.ite (fun h14_4 => ?_) (fun h14_4 => ?_)
  · refine r_tab hC 92 dX4_ofSection_14 (by rw [h14_4]; decide) (by rw [h14_4]; decide) (by rw [h14_4]; rfl) (by decide) ?_
    refine r_aloadn hC 0 (r := r1) rfl rfl dX4_ofSection_92 ?_
    refine r_gI hC (k := 4) (r := r1) cls_2 (by decide) rfl q_145 (Or.inl rfl) dX4_ofSection_93 (fun v10 => ?_)
    exact e_I hC ⟨Nat.zero_le _, Nat.zero_le _⟩ dX4_ofSection_96
  refine Wo.ite (fun h14_5 => ?_) (fun h14_5 => ?_)
  · refine r_tab hC 97 dX4_ofSection_14 (by rw [h14_5]; decide) (by rw [h14_5]; decide) (by rw [h14_5]; rfl) (by decide) ?_
    refine r_aloadn hC 0 (r := r1) rfl rfl dX4_ofSection_97 ?_
    refine r_gI hC (k := 5) (r := r1) cls_2 (by decide) rfl q_147 (Or.inl rfl) dX4_ofSection_98 (fun v11 => ?_)
    exact e_I hC ⟨Nat.zero_le _, Nat.zero_le _⟩ dX4_ofSection_101
  refine Wo.ite (fun h14_6 => ?_) (fun h14_6 => ?_)
  · refine r_tab hC 107 dX4_ofSection_14 (by rw [h14_6]; decide) (by rw [h14_6]; decide) (by rw [h14_6]; rfl) (by decide) ?_
    refine Wo.sub [3, 0] rfl ?_
    exact t_X4_ofSection_107 hC p1 r1 σ5
  refine Wo.ite (fun h14_7 => ?_) (fun h14_7 => ?_)
  · refine r_tab hC 107 dX4_ofSection_14 (by rw [h14_7]; decide) (by rw [h14_7]; decide) (by rw [h14_7]; rfl) (by decide) ?_
    refine Wo.sub [3, 0] rfl ?_
    exact t_X4_ofSection_107 hC p1 r1 σ5
  refine Wo.ite (fun h14_8 => ?_) (fun h14_8 => ?_)
  · refine r_tab hC 107 dX4_ofSection_14 (by rw [h14_8]; decide) (by rw [h14_8]; decide) (by rw [h14_8]; rfl) (by decide) ?_
    refine Wo.sub [3, 0] rfl ?_
    exact t_X4_ofSection_107 hC p1 r1 σ5
  refine Wo.ite (fun h14_9 => ?_) (fun h14_9 => ?_)
  · refine r_tab hC 107 dX4_ofSection_14 (by rw [h14_9]; decide) (by rw [h14_9]; decide) (by rw [h14_9]; rfl) (by decide) ?_
    refine Wo.sub [3, 0] rfl ?_
    exact t_X4_ofSection_107 hC p1 r1 σ5
  refine Wo.ite (fun h14_10 => ?_) (fun h14_10 => ?_)
  · refine r_tab hC 102 dX4_ofSection_14 (by rw [h14_10]; decide) (by rw [h14_10]; decide) (by rw [h14_10]; rfl) (by decide) ?_
    refine r_aloadn hC 0 (r := r1) rfl rfl dX4_ofSection_102 ?_
    refine r_gI hC (k := 6) (r := r1) cls_2 (by decide) rfl q_149 (Or.inl rfl) dX4_ofSection_103 (fun v15 => ?_)
    exact e_I hC ⟨Nat.zero_le _, Nat.zero_le _⟩ dX4_ofSection_106
  refine r_tabD hC 107 (n := 11) dX4_ofSection_14 (Nat.le_of_ble_eq_true rfl) (fun i hi => match i, hi with
    | 0, _ => h14_0
    | 1, _ => h14_1
    | 2, _ => h14_2
    | 3, _ => h14_3
    | 4, _ => h14_4
    | 5, _ => h14_5
    | 6, _ => h14_6
    | 7, _ => h14_7
    | 8, _ => h14_8
    | 9, _ => h14_9
    | 10, _ => h14_10
    | i + 11, hi => absurd hi (by omega)) (by decide) ?_
  refine Wo.sub [3, 0] rfl ?_
  exact t_X4_ofSection_107 hC p1 r1 σ5

set_option maxRecDepth 100000 in
set_option maxHeartbeats 4000000 in
theorem ct_X4_ofSection {l : Launch} (hl : l.stackTraces = false) (G : Glb) (a0 : Nat) (p0 : Int32) (p1 : Int32) (σ : Mem) : Ct rvI l yX4_ofSection (Cond.code yX4_ofSection cX4_ofSection 4 (some .int) :: uW) { frames := 2, cells := 0, slots := 0, locals := 42 } 0 0 G [.ref a0, .int p0, .int p1] σ (f_X4_ofSection a0 p0 p1 σ) := by
  refine Ct.of hl (by decide +kernel) (Nat.le_of_ble_eq_true rfl) (fun C hC hin => ?_)
  have e : lv_args 0 [.ref a0, .int p0, .int p1] = [(0, .ref a0), (1, .int p0), (2, .int p1)] := rfl
  rw [e]
  exact t_X4_ofSection_0 hC a0 p0 p1 σ

noncomputable def b_X4_ofLot_146 (y146_0 : Int32) (σ : Mem) : Option ((Int32) × Mem) :=
some (y146_0, σ)

noncomputable def b_X4_ofLot_159 (y159_0 : Int32) (σ : Mem) : Option ((Int32) × Mem) :=
some (y159_0, σ)

noncomputable def b_X4_ofLot_172 (y172_0 : Int32) (σ : Mem) : Option ((Int32) × Mem) :=
some (y172_0, σ)

noncomputable def b_X4_ofLot_0 (a0 : Nat) (p0 : Int32) (p1 : Int32) (σ : Mem) : Option ((Int32) × Mem) :=
ob 4 σ (some a0) fun h3 => cl1 (f_X4_lotAt h3 p0 σ) fun r1 σ2 =>
cl1 (f_X4_requireArgument p1 0 17 σ2) fun u4 σ5 =>
if p1 = 0 then
gI 1 0 σ5 r1 fun v6 =>
some (v6, σ5)
else if p1 = 1 then
gI 1 1 σ5 r1 fun v7 =>
some (v7, σ5)
else if p1 = 2 then
gI 1 2 σ5 r1 fun v8 =>
some (v8, σ5)
else if p1 = 3 then
gI 1 3 σ5 r1 fun v9 =>
some (v9, σ5)
else if p1 = 4 then
gI 1 4 σ5 r1 fun v10 =>
some (v10, σ5)
else if p1 = 5 then
gI 1 5 σ5 r1 fun v11 =>
some (v11, σ5)
else if p1 = 6 then
gI 1 6 σ5 r1 fun v12 =>
some (v12, σ5)
else if p1 = 7 then
gI 1 7 σ5 r1 fun v13 =>
some (v13, σ5)
else if p1 = 8 then
gI 1 8 σ5 r1 fun v14 =>
some (v14, σ5)
else if p1 = 9 then
gI 1 9 σ5 r1 fun v15 =>
some (v15, σ5)
else if p1 = 10 then
gI 1 10 σ5 r1 fun v16 =>
if v16 = 0 then
b_X4_ofLot_146 0 σ5
else
b_X4_ofLot_146 1 σ5
else if p1 = 11 then
gI 1 11 σ5 r1 fun v17 =>
if v17 = 0 then
b_X4_ofLot_159 0 σ5
else
b_X4_ofLot_159 1 σ5
else if p1 = 12 then
gI 1 12 σ5 r1 fun v18 =>
if v18 = 0 then
b_X4_ofLot_172 0 σ5
else
b_X4_ofLot_172 1 σ5
else if p1 = 13 then
gR 1 15 σ5 r1 fun r19 =>
gI 0 0 σ5 r19 fun v20 =>
some (v20, σ5)
else 
gR 1 13 σ5 r1 fun r21 =>
nm (p1 - 14) fun v22 =>
aI σ5 r21 v22 fun v23 =>
some (v23, σ5)

noncomputable def f_X4_ofLot (a0 : Nat) (p0 : Int32) (p1 : Int32) (σ : Mem) : Option ((Int32) × Mem) := b_X4_ofLot_0 a0 p0 p1 σ
set_option maxRecDepth 100000 in
set_option maxHeartbeats 4000000 in
theorem t_X4_ofLot_146 {C : Cxt} {G : Glb} (hC : CX C G RX4 cX4_ofLot 4 (some .int) 2 0 0 42) (y146_0 : Int32) (σ : Mem) : Wo C G 4 (QP C G rvI 0 0) (b_X4_ofLot_146  y146_0 σ) σ 0 0 146 [] [.int y146_0] := by
  unfold b_X4_ofLot_146
  exact e_I hC ⟨Nat.zero_le _, Nat.zero_le _⟩ dX4_ofLot_146

set_option maxRecDepth 100000 in
set_option maxHeartbeats 4000000 in
theorem t_X4_ofLot_159 {C : Cxt} {G : Glb} (hC : CX C G RX4 cX4_ofLot 4 (some .int) 2 0 0 42) (y159_0 : Int32) (σ : Mem) : Wo C G 4 (QP C G rvI 0 0) (b_X4_ofLot_159  y159_0 σ) σ 0 0 159 [] [.int y159_0] := by
  unfold b_X4_ofLot_159
  exact e_I hC ⟨Nat.zero_le _, Nat.zero_le _⟩ dX4_ofLot_159

set_option maxRecDepth 100000 in
set_option maxHeartbeats 4000000 in
theorem t_X4_ofLot_172 {C : Cxt} {G : Glb} (hC : CX C G RX4 cX4_ofLot 4 (some .int) 2 0 0 42) (y172_0 : Int32) (σ : Mem) : Wo C G 4 (QP C G rvI 0 0) (b_X4_ofLot_172  y172_0 σ) σ 0 0 172 [] [.int y172_0] := by
  unfold b_X4_ofLot_172
  exact e_I hC ⟨Nat.zero_le _, Nat.zero_le _⟩ dX4_ofLot_172

set_option maxRecDepth 100000 in
set_option maxHeartbeats 4000000 in
theorem t_X4_ofLot_0 {C : Cxt} {G : Glb} (hC : CX C G RX4 cX4_ofLot 4 (some .int) 2 0 0 42) (a0 : Nat) (p0 : Int32) (p1 : Int32) (σ : Mem) : Wo C G 4 (QP C G rvI 0 0) (b_X4_ofLot_0  a0 p0 p1 σ) σ 0 0 0 [(0, va_rf (some a0)), (1, .int p0), (2, .int p1)] [] := by
  unfold b_X4_ofLot_0
  refine r_aloadn hC 0 (r := (some a0)) rfl rfl dX4_ofLot_0 ?_
  refine r_iloadn hC 1 rfl rfl dX4_ofLot_1 ?_
  refine call_V hC (av := [.int p0]) (st := []) (r := (some a0)) (ci := 4) rfl rfl (fun h9 => ct_X4_lotAt hC.hl G h9 p0 σ) q_357 q_359 q_3 q_13 q_360 yd_X4_lotAt rfl ⟨Nat.le_of_ble_eq_true rfl, Nat.le_of_ble_eq_true rfl⟩ ⟨Nat.zero_le _, Nat.zero_le _⟩ rfl (Nat.le_of_ble_eq_true rfl) dX4_ofLot_2 (fun r1 σ2 => ?_)
  show Wo _ _ _ _ _ _ _ _ _ _ [va_rf r1]
  refine r_astoren hC [(3, va_rf r1), (0, va_rf (some a0)), (1, .int p0), (2, .int p1)] (r := r1) (i := 3) rfl (by decide) rfl dX4_ofLot_5 ?_
  refine r_iloadn hC 3 rfl rfl dX4_ofLot_6 ?_
  refine r_iconst hC (0) rfl dX4_ofLot_7 ?_
  refine r_bipush hC (17) (by decide) dX4_ofLot_8 ?_
  refine call_S hC (av := [.int p1, .int 0, .int 17]) (st := []) (ct_X4_requireArgument hC.hl G p1 0 17 σ2) q_228 q_229 q_13 q_230 yd_X4_requireArgument rfl ⟨Nat.le_of_ble_eq_true rfl, Nat.le_of_ble_eq_true rfl⟩ ⟨Nat.zero_le _, Nat.zero_le _⟩ rfl (Nat.le_of_ble_eq_true rfl) dX4_ofLot_10 (fun u4 σ5 => ?_)
  show Wo _ _ _ _ _ _ _ _ _ _ []
  refine r_iloadn hC 3 rfl rfl dX4_ofLot_13 ?_
  refine Wo.ite (fun h14_0 => ?_) (fun h14_0 => ?_)
  · refine r_tab hC 84 dX4_ofLot_14 (by rw [h14_0]; decide) (by rw [h14_0]; decide) (by rw [h14_0]; rfl) (by decide) ?_
    refine r_aloadn hC 0 (r := r1) rfl rfl dX4_ofLot_84 ?_
    refine r_gI hC (k := 0) (r := r1) cls_1 (by decide) rfl q_65 (Or.inl rfl) dX4_ofLot_85 (fun v6 => ?_)
    exact e_I hC ⟨Nat.zero_le _, Nat.zero_le _⟩ dX4_ofLot_88
  refine Wo.ite (fun h14_1 => ?_) (fun h14_1 => ?_)
  · refine r_tab hC 89 dX4_ofLot_14 (by rw [h14_1]; decide) (by rw [h14_1]; decide) (by rw [h14_1]; rfl) (by decide) ?_
    refine r_aloadn hC 0 (r := r1) rfl rfl dX4_ofLot_89 ?_
    refine r_gI hC (k := 1) (r := r1) cls_1 (by decide) rfl q_67 (Or.inl rfl) dX4_ofLot_90 (fun v7 => ?_)
    exact e_I hC ⟨Nat.zero_le _, Nat.zero_le _⟩ dX4_ofLot_93
  refine Wo.ite (fun h14_2 => ?_) (fun h14_2 => ?_)
  · refine r_tab hC 94 dX4_ofLot_14 (by rw [h14_2]; decide) (by rw [h14_2]; decide) (by rw [h14_2]; rfl) (by decide) ?_
    refine r_aloadn hC 0 (r := r1) rfl rfl dX4_ofLot_94 ?_
    refine r_gI hC (k := 2) (r := r1) cls_1 (by decide) rfl q_69 (Or.inl rfl) dX4_ofLot_95 (fun v8 => ?_)
    exact e_I hC ⟨Nat.zero_le _, Nat.zero_le _⟩ dX4_ofLot_98
  refine Wo.ite (fun h14_3 => ?_) (fun h14_3 => ?_)
  · refine r_tab hC 99 dX4_ofLot_14 (by rw [h14_3]; decide) (by rw [h14_3]; decide) (by rw [h14_3]; rfl) (by decide) ?_
    refine r_aloadn hC 0 (r := r1) rfl rfl dX4_ofLot_99 ?_
    refine r_gI hC (k := 3) (r := r1) cls_1 (by decide) rfl q_71 (Or.inl rfl) dX4_ofLot_100 (fun v9 => ?_)
    exact e_I hC ⟨Nat.zero_le _, Nat.zero_le _⟩ dX4_ofLot_103
  refine Wo.ite (fun h14_4 => ?_) (fun h14_4 => ?_)
  · refine r_tab hC 104 dX4_ofLot_14 (by rw [h14_4]; decide) (by rw [h14_4]; decide) (by rw [h14_4]; rfl) (by decide) ?_
    refine r_aloadn hC 0 (r := r1) rfl rfl dX4_ofLot_104 ?_
    refine r_gI hC (k := 4) (r := r1) cls_1 (by decide) rfl q_73 (Or.inl rfl) dX4_ofLot_105 (fun v10 => ?_)
    exact e_I hC ⟨Nat.zero_le _, Nat.zero_le _⟩ dX4_ofLot_108
  refine Wo.ite (fun h14_5 => ?_) (fun h14_5 => ?_)
  · refine r_tab hC 109 dX4_ofLot_14 (by rw [h14_5]; decide) (by rw [h14_5]; decide) (by rw [h14_5]; rfl) (by decide) ?_
    refine r_aloadn hC 0 (r := r1) rfl rfl dX4_ofLot_109 ?_
    refine r_gI hC (k := 5) (r := r1) cls_1 (by decide) rfl q_75 (Or.inl rfl) dX4_ofLot_110 (fun v11 => ?_)
    exact e_I hC ⟨Nat.zero_le _, Nat.zero_le _⟩ dX4_ofLot_113
  refine Wo.ite (fun h14_6 => ?_) (fun h14_6 => ?_)
  · refine r_tab hC 114 dX4_ofLot_14 (by rw [h14_6]; decide) (by rw [h14_6]; decide) (by rw [h14_6]; rfl) (by decide) ?_
    refine r_aloadn hC 0 (r := r1) rfl rfl dX4_ofLot_114 ?_
    refine r_gI hC (k := 6) (r := r1) cls_1 (by decide) rfl q_77 (Or.inl rfl) dX4_ofLot_115 (fun v12 => ?_)
    exact e_I hC ⟨Nat.zero_le _, Nat.zero_le _⟩ dX4_ofLot_118
  refine Wo.ite (fun h14_7 => ?_) (fun h14_7 => ?_)
  · refine r_tab hC 119 dX4_ofLot_14 (by rw [h14_7]; decide) (by rw [h14_7]; decide) (by rw [h14_7]; rfl) (by decide) ?_
    refine r_aloadn hC 0 (r := r1) rfl rfl dX4_ofLot_119 ?_
    refine r_gI hC (k := 7) (r := r1) cls_1 (by decide) rfl q_79 (Or.inl rfl) dX4_ofLot_120 (fun v13 => ?_)
    exact e_I hC ⟨Nat.zero_le _, Nat.zero_le _⟩ dX4_ofLot_123
  refine Wo.ite (fun h14_8 => ?_) (fun h14_8 => ?_)
  · refine r_tab hC 124 dX4_ofLot_14 (by rw [h14_8]; decide) (by rw [h14_8]; decide) (by rw [h14_8]; rfl) (by decide) ?_
    refine r_aloadn hC 0 (r := r1) rfl rfl dX4_ofLot_124 ?_
    refine r_gI hC (k := 8) (r := r1) cls_1 (by decide) rfl q_81 (Or.inl rfl) dX4_ofLot_125 (fun v14 => ?_)
    exact e_I hC ⟨Nat.zero_le _, Nat.zero_le _⟩ dX4_ofLot_128
  refine Wo.ite (fun h14_9 => ?_) (fun h14_9 => ?_)
  · refine r_tab hC 129 dX4_ofLot_14 (by rw [h14_9]; decide) (by rw [h14_9]; decide) (by rw [h14_9]; rfl) (by decide) ?_
    refine r_aloadn hC 0 (r := r1) rfl rfl dX4_ofLot_129 ?_
    refine r_gI hC (k := 9) (r := r1) cls_1 (by decide) rfl q_83 (Or.inl rfl) dX4_ofLot_130 (fun v15 => ?_)
    exact e_I hC ⟨Nat.zero_le _, Nat.zero_le _⟩ dX4_ofLot_133
  refine Wo.ite (fun h14_10 => ?_) (fun h14_10 => ?_)
  · refine r_tab hC 134 dX4_ofLot_14 (by rw [h14_10]; decide) (by rw [h14_10]; decide) (by rw [h14_10]; rfl) (by decide) ?_
    refine r_aloadn hC 0 (r := r1) rfl rfl dX4_ofLot_134 ?_
    refine r_gI hC (k := 10) (r := r1) cls_1 (by decide) rfl q_85 (Or.inl rfl) dX4_ofLot_135 (fun v16 => ?_)
    refine r_if_eq hC 145 dX4_ofLot_138 (by decide) ?_ ?_
    · refine r_iconst hC (0) rfl dX4_ofLot_145 ?_
      refine Wo.sub [] rfl ?_
      exact t_X4_ofLot_146 hC 0 σ5
    · refine r_iconst hC (1) rfl dX4_ofLot_141 ?_
      refine r_goto hC 146 dX4_ofLot_142 (by decide) ?_
      refine Wo.sub [] rfl ?_
      exact t_X4_ofLot_146 hC 1 σ5
  refine Wo.ite (fun h14_11 => ?_) (fun h14_11 => ?_)
  · refine r_tab hC 147 dX4_ofLot_14 (by rw [h14_11]; decide) (by rw [h14_11]; decide) (by rw [h14_11]; rfl) (by decide) ?_
    refine r_aloadn hC 0 (r := r1) rfl rfl dX4_ofLot_147 ?_
    refine r_gI hC (k := 11) (r := r1) cls_1 (by decide) rfl q_87 (Or.inl rfl) dX4_ofLot_148 (fun v17 => ?_)
    refine r_if_eq hC 158 dX4_ofLot_151 (by decide) ?_ ?_
    · refine r_iconst hC (0) rfl dX4_ofLot_158 ?_
      refine Wo.sub [] rfl ?_
      exact t_X4_ofLot_159 hC 0 σ5
    · refine r_iconst hC (1) rfl dX4_ofLot_154 ?_
      refine r_goto hC 159 dX4_ofLot_155 (by decide) ?_
      refine Wo.sub [] rfl ?_
      exact t_X4_ofLot_159 hC 1 σ5
  refine Wo.ite (fun h14_12 => ?_) (fun h14_12 => ?_)
  · refine r_tab hC 160 dX4_ofLot_14 (by rw [h14_12]; decide) (by rw [h14_12]; decide) (by rw [h14_12]; rfl) (by decide) ?_
    refine r_aloadn hC 0 (r := r1) rfl rfl dX4_ofLot_160 ?_
    refine r_gI hC (k := 12) (r := r1) cls_1 (by decide) rfl q_89 (Or.inl rfl) dX4_ofLot_161 (fun v18 => ?_)
    refine r_if_eq hC 171 dX4_ofLot_164 (by decide) ?_ ?_
    · refine r_iconst hC (0) rfl dX4_ofLot_171 ?_
      refine Wo.sub [] rfl ?_
      exact t_X4_ofLot_172 hC 0 σ5
    · refine r_iconst hC (1) rfl dX4_ofLot_167 ?_
      refine r_goto hC 172 dX4_ofLot_168 (by decide) ?_
      refine Wo.sub [] rfl ?_
      exact t_X4_ofLot_172 hC 1 σ5
  refine Wo.ite (fun h14_13 => ?_) (fun h14_13 => ?_)
  · refine r_tab hC 173 dX4_ofLot_14 (by rw [h14_13]; decide) (by rw [h14_13]; decide) (by rw [h14_13]; rfl) (by decide) ?_
    refine r_aloadn hC 0 (r := r1) rfl rfl dX4_ofLot_173 ?_
    refine r_gR hC (k := 15) (r := r1) cls_1 (by decide) rfl q_95 (Or.inl rfl) dX4_ofLot_174 (fun r19 => ?_)
    refine r_gI hC (k := 0) (r := r19) cls_0 (by decide) rfl q_49 (Or.inl rfl) dX4_ofLot_177 (fun v20 => ?_)
    exact e_I hC ⟨Nat.zero_le _, Nat.zero_le _⟩ dX4_ofLot_180
  refine r_tabD hC 181 (n := 14) dX4_ofLot_14 (Nat.le_of_ble_eq_true rfl) (fun i hi => match i, hi with
    | 0, _ => h14_0
    | 1, _ => h14_1
    | 2, _ => h14_2
    | 3, _ => h14_3
    | 4, _ => h14_4
    | 5, _ => h14_5
    | 6, _ => h14_6
    | 7, _ => h14_7
    | 8, _ => h14_8
    | 9, _ => h14_9
    | 10, _ => h14_10
    | 11, _ => h14_11
    | 12, _ => h14_12
    | 13, _ => h14_13
    | i + 14, hi => absurd hi (by omega)) (by decide) ?_
  refine r_aloadn hC 0 (r := r1) rfl rfl dX4_ofLot_181 ?_
  refine r_gR hC (k := 13) (r := r1) cls_1 (by decide) rfl q_91 (Or.inl rfl) dX4_ofLot_182 (fun r21 => ?_)
  refine r_iloadn hC 3 rfl rfl dX4_ofLot_185 ?_
  refine r_bipush hC (14) (by decide) dX4_ofLot_186 ?_
  refine r_isub hC dX4_ofLot_188 (fun v22 => ?_)
  refine r_aI hC (r := r21) dX4_ofLot_189 (fun v23 => ?_)
  exact e_I hC ⟨Nat.zero_le _, Nat.zero_le _⟩ dX4_ofLot_190

set_option maxRecDepth 100000 in
set_option maxHeartbeats 4000000 in
theorem ct_X4_ofLot {l : Launch} (hl : l.stackTraces = false) (G : Glb) (a0 : Nat) (p0 : Int32) (p1 : Int32) (σ : Mem) : Ct rvI l yX4_ofLot (Cond.code yX4_ofLot cX4_ofLot 4 (some .int) :: uW) { frames := 2, cells := 0, slots := 0, locals := 42 } 0 0 G [.ref a0, .int p0, .int p1] σ (f_X4_ofLot a0 p0 p1 σ) := by
  refine Ct.of hl (by decide +kernel) (Nat.le_of_ble_eq_true rfl) (fun C hC hin => ?_)
  have e : lv_args 0 [.ref a0, .int p0, .int p1] = [(0, .ref a0), (1, .int p0), (2, .int p1)] := rfl
  rw [e]
  exact t_X4_ofLot_0 hC a0 p0 p1 σ

noncomputable def b_X4_note_25 (x25_2 : Int32) (x25_3 : (Option Nat)) (y25_0 : Int32) (σ : Mem) : Option ((Int32) × Mem) :=
cl1 (f_X4_requireState y25_0 σ) fun u7 σ8 =>
ob 1 σ8 x25_3 fun h11 => cl1 (f_X1_noteOf h11 x25_2 σ8) fun v9 σ10 =>
some (v9, σ10)

noncomputable def b_X4_note_0 (a0 : Nat) (p0 : Int32) (p1 : Int32) (σ : Mem) : Option ((Int32) × Mem) :=
ob 4 σ (some a0) fun h3 => cl1 (f_X4_lotAt h3 p0 σ) fun r1 σ2 =>
cl1 (f_X4_requireArgument p1 0 2 σ2) fun u4 σ5 =>
gI 1 0 σ5 r1 fun v6 =>
if v6 = 2 then
b_X4_note_25 p1 r1 1 σ5
else
b_X4_note_25 p1 r1 0 σ5

noncomputable def f_X4_note (a0 : Nat) (p0 : Int32) (p1 : Int32) (σ : Mem) : Option ((Int32) × Mem) := b_X4_note_0 a0 p0 p1 σ
set_option maxRecDepth 100000 in
set_option maxHeartbeats 4000000 in
theorem t_X4_note_25 {C : Cxt} {G : Glb} (hC : CX C G RX4 cX4_note 4 (some .int) 3 0 0 58) (x25_2 : Int32) (x25_3 : (Option Nat)) (y25_0 : Int32) (σ : Mem) : Wo C G 4 (QP C G rvI 0 0) (b_X4_note_25  x25_2 x25_3 y25_0 σ) σ 0 0 25 [(2, .int x25_2), (3, va_rf x25_3)] [.int y25_0] := by
  unfold b_X4_note_25
  refine call_S hC (av := [.int y25_0]) (st := []) (ct_X4_requireState hC.hl G y25_0 σ) q_294 q_295 q_13 q_296 yd_X4_requireState rfl ⟨Nat.le_of_ble_eq_true rfl, Nat.le_of_ble_eq_true rfl⟩ ⟨Nat.zero_le _, Nat.zero_le _⟩ rfl (Nat.le_of_ble_eq_true rfl) dX4_note_25 (fun u7 σ8 => ?_)
  show Wo _ _ _ _ _ _ _ _ _ _ []
  refine r_aloadn hC 1 (r := x25_3) rfl rfl dX4_note_28 ?_
  refine r_iloadn hC 0 rfl rfl dX4_note_29 ?_
  refine call_V hC (av := [.int x25_2]) (st := []) (r := x25_3) (ci := 1) rfl rfl (fun h9 => ct_X1_noteOf hC.hl G h9 x25_2 σ8) q_463 q_415 q_416 q_14 q_417 yd_X1_noteOf rfl ⟨Nat.le_of_ble_eq_true rfl, Nat.le_of_ble_eq_true rfl⟩ ⟨Nat.zero_le _, Nat.zero_le _⟩ rfl (Nat.le_of_ble_eq_true rfl) dX4_note_30 (fun v9 σ10 => ?_)
  show Wo _ _ _ _ _ _ _ _ _ _ [.int v9]
  exact e_I hC ⟨Nat.zero_le _, Nat.zero_le _⟩ dX4_note_33

set_option maxRecDepth 100000 in
set_option maxHeartbeats 4000000 in
theorem t_X4_note_0 {C : Cxt} {G : Glb} (hC : CX C G RX4 cX4_note 4 (some .int) 3 0 0 58) (a0 : Nat) (p0 : Int32) (p1 : Int32) (σ : Mem) : Wo C G 4 (QP C G rvI 0 0) (b_X4_note_0  a0 p0 p1 σ) σ 0 0 0 [(0, va_rf (some a0)), (1, .int p0), (2, .int p1)] [] := by
  unfold b_X4_note_0
  refine r_aloadn hC 0 (r := (some a0)) rfl rfl dX4_note_0 ?_
  refine r_iloadn hC 1 rfl rfl dX4_note_1 ?_
  refine call_V hC (av := [.int p0]) (st := []) (r := (some a0)) (ci := 4) rfl rfl (fun h9 => ct_X4_lotAt hC.hl G h9 p0 σ) q_357 q_359 q_3 q_13 q_360 yd_X4_lotAt rfl ⟨Nat.le_of_ble_eq_true rfl, Nat.le_of_ble_eq_true rfl⟩ ⟨Nat.zero_le _, Nat.zero_le _⟩ rfl (Nat.le_of_ble_eq_true rfl) dX4_note_2 (fun r1 σ2 => ?_)
  show Wo _ _ _ _ _ _ _ _ _ _ [va_rf r1]
  refine r_astoren hC [(3, va_rf r1), (0, va_rf (some a0)), (1, .int p0), (2, .int p1)] (r := r1) (i := 3) rfl (by decide) rfl dX4_note_5 ?_
  refine r_iloadn hC 3 rfl rfl dX4_note_6 ?_
  refine r_iconst hC (0) rfl dX4_note_7 ?_
  refine r_iconst hC (2) rfl dX4_note_8 ?_
  refine call_S hC (av := [.int p1, .int 0, .int 2]) (st := []) (ct_X4_requireArgument hC.hl G p1 0 2 σ2) q_228 q_229 q_13 q_230 yd_X4_requireArgument rfl ⟨Nat.le_of_ble_eq_true rfl, Nat.le_of_ble_eq_true rfl⟩ ⟨Nat.zero_le _, Nat.zero_le _⟩ rfl (Nat.le_of_ble_eq_true rfl) dX4_note_9 (fun u4 σ5 => ?_)
  show Wo _ _ _ _ _ _ _ _ _ _ []
  refine r_aloadn hC 0 (r := r1) rfl rfl dX4_note_12 ?_
  refine r_gI hC (k := 0) (r := r1) cls_1 (by decide) rfl q_65 (Or.inl rfl) dX4_note_13 (fun v6 => ?_)
  refine r_iconst hC (2) rfl dX4_note_16 ?_
  refine r_icmp_ne hC 24 dX4_note_17 (by decide) ?_ ?_
  · refine r_iconst hC (0) rfl dX4_note_24 ?_
    refine Wo.sub [3, 0] rfl ?_
    exact t_X4_note_25 hC p1 r1 0 σ5
  · refine r_iconst hC (1) rfl dX4_note_20 ?_
    refine r_goto hC 25 dX4_note_21 (by decide) ?_
    refine Wo.sub [3, 0] rfl ?_
    exact t_X4_note_25 hC p1 r1 1 σ5

set_option maxRecDepth 100000 in
set_option maxHeartbeats 4000000 in
theorem ct_X4_note {l : Launch} (hl : l.stackTraces = false) (G : Glb) (a0 : Nat) (p0 : Int32) (p1 : Int32) (σ : Mem) : Ct rvI l yX4_note (Cond.code yX4_note cX4_note 4 (some .int) :: uW) { frames := 3, cells := 0, slots := 0, locals := 58 } 0 0 G [.ref a0, .int p0, .int p1] σ (f_X4_note a0 p0 p1 σ) := by
  refine Ct.of hl (by decide +kernel) (Nat.le_of_ble_eq_true rfl) (fun C hC hin => ?_)
  have e : lv_args 0 [.ref a0, .int p0, .int p1] = [(0, .ref a0), (1, .int p0), (2, .int p1)] := rfl
  rw [e]
  exact t_X4_note_0 hC a0 p0 p1 σ

noncomputable def b_X4_taste_13 (k13 : Nat → Int32 → Int32 → Int32 → Mem → Option ((Int32) × Mem)) (a0 : Nat) (x13_3 : Int32) (x13_4 : Int32) (x13_5 : Int32) (σ : Mem) : Option ((Int32) × Mem) :=
gR 4 6 σ (some a0) fun r4 =>
aL σ r4 fun v5 =>
if v5 ≤ x13_5 then
dv x13_4 3 fun v6 =>
cl1 (f_X4_heldNote v6 σ) fun v7 σ8 =>
some (v7, σ8)
else
gR 4 6 σ (some a0) fun r9 =>
aR 3 σ r9 x13_5 fun r10 =>
ob 3 σ r10 fun h13 => cl1 (f_X3_tells h13 x13_3 σ) fun v11 σ12 =>
gR 4 6 σ12 (some a0) fun r14 =>
aR 3 σ12 r14 x13_5 fun r15 =>
ob 3 σ12 r15 fun h18 => cl1 (f_X3_guess h18 σ12) fun v16 σ17 =>
nm (v11 - v16) fun v19 =>
nm (x13_4 + v19) fun v20 =>
nm (x13_5 + 1) fun v21 =>
k13 a0 x13_3 v20 v21 σ17

noncomputable def l_X4_taste_13 (n : Nat) : Nat → Int32 → Int32 → Int32 → Mem → Option ((Int32) × Mem) := itr (fun _ _ _ _ _ => none) (fun k => b_X4_taste_13  k) n

noncomputable def b_X4_taste_0 (a0 : Nat) (p0 : Int32) (p1 : Int32) (σ : Mem) : Option ((Int32) × Mem) :=
ob 4 σ (some a0) fun h3 => cl1 (f_X4_note h3 p0 p1 σ) fun v1 σ2 =>
l_X4_taste_13 40 a0 v1 0 0 σ2

noncomputable def f_X4_taste (a0 : Nat) (p0 : Int32) (p1 : Int32) (σ : Mem) : Option ((Int32) × Mem) := b_X4_taste_0 a0 p0 p1 σ
set_option maxRecDepth 100000 in
set_option maxHeartbeats 4000000 in
theorem t_X4_taste_13 {C : Cxt} {G : Glb} (hC : CX C G RX4 cX4_taste 6 (some .int) 4 0 0 81) (k13 : Nat → Int32 → Int32 → Int32 → Mem → Option ((Int32) × Mem)) (hk13 : ∀ (a0 : Nat) (x13_3 : Int32) (x13_4 : Int32) (x13_5 : Int32) (σ : Mem), Wo C G 6 (QP C G rvI 0 0) (k13 a0 x13_3 x13_4 x13_5 σ) σ 0 0 13 [(0, va_rf (some a0)), (3, .int x13_3), (4, .int x13_4), (5, .int x13_5)] []) (a0 : Nat) (x13_3 : Int32) (x13_4 : Int32) (x13_5 : Int32) (σ : Mem) : Wo C G 6 (QP C G rvI 0 0) (b_X4_taste_13 k13 a0 x13_3 x13_4 x13_5 σ) σ 0 0 13 [(0, va_rf (some a0)), (3, .int x13_3), (4, .int x13_4), (5, .int x13_5)] [] := by
  unfold b_X4_taste_13
  refine r_iload hC 3 rfl dX4_taste_13 ?_
  refine r_aloadn hC 0 (r := (some a0)) rfl rfl dX4_taste_15 ?_
  refine r_gR hC (k := 6) (r := (some a0)) cls_4 (by decide) rfl q_193 (Or.inl rfl) dX4_taste_16 (fun r4 => ?_)
  refine r_aL hC (r := r4) dX4_taste_19 (fun v5 => ?_)
  refine r_icmp_ge hC 56 dX4_taste_20 (by decide) ?_ ?_
  · refine r_iload hC 2 rfl dX4_taste_56 ?_
    refine r_iconst hC (3) rfl dX4_taste_58 ?_
    refine r_idiv hC dX4_taste_59 (fun v6 => ?_)
    refine call_S hC (av := [.int v6]) (st := []) (ct_X4_heldNote hC.hl G v6 σ) q_497 q_423 q_13 q_424 yd_X4_heldNote rfl ⟨Nat.le_of_ble_eq_true rfl, Nat.le_of_ble_eq_true rfl⟩ ⟨Nat.zero_le _, Nat.zero_le _⟩ rfl (Nat.le_of_ble_eq_true rfl) dX4_taste_60 (fun v7 σ8 => ?_)
    show Wo _ _ _ _ _ _ _ _ _ _ [.int v7]
    exact e_I hC ⟨Nat.zero_le _, Nat.zero_le _⟩ dX4_taste_63
  · refine r_iload hC 2 rfl dX4_taste_23 ?_
    refine r_aloadn hC 0 (r := (some a0)) rfl rfl dX4_taste_25 ?_
    refine r_gR hC (k := 6) (r := (some a0)) cls_4 (by decide) rfl q_193 (Or.inl rfl) dX4_taste_26 (fun r9 => ?_)
    refine r_iload hC 3 rfl dX4_taste_29 ?_
    refine r_aR hC (t := 3) (r := r9) rfl rfl dX4_taste_31 (fun r10 => ?_)
    refine r_iloadn hC 1 rfl rfl dX4_taste_32 ?_
    refine call_V hC (av := [.int x13_3]) (st := [.int x13_4]) (r := r10) (ci := 3) rfl rfl (fun h9 => ct_X3_tells hC.hl G h9 x13_3 σ) q_487 q_488 q_489 q_17 q_490 yd_X3_tells rfl ⟨Nat.le_of_ble_eq_true rfl, Nat.le_of_ble_eq_true rfl⟩ ⟨Nat.zero_le _, Nat.zero_le _⟩ rfl (by simp [cat_rf, cat_i, cat_j, cat_d, cat_a]) dX4_taste_33 (fun v11 σ12 => ?_)
    show Wo _ _ _ _ _ _ _ _ _ _ [.int v11, .int x13_4]
    refine r_aloadn hC 0 (r := (some a0)) rfl rfl dX4_taste_36 ?_
    refine r_gR hC (k := 6) (r := (some a0)) cls_4 (by decide) rfl q_193 (Or.inl rfl) dX4_taste_37 (fun r14 => ?_)
    refine r_iload hC 3 rfl dX4_taste_40 ?_
    refine r_aR hC (t := 3) (r := r14) rfl rfl dX4_taste_42 (fun r15 => ?_)
    refine call_V hC (av := []) (st := [.int v11, .int x13_4]) (r := r15) (ci := 3) rfl rfl (fun h9 => ct_X3_guess hC.hl G h9 σ12) q_492 q_493 q_494 q_17 q_495 yd_X3_guess rfl ⟨Nat.le_of_ble_eq_true rfl, Nat.le_of_ble_eq_true rfl⟩ ⟨Nat.zero_le _, Nat.zero_le _⟩ rfl (by simp [cat_rf, cat_i, cat_j, cat_d, cat_a]) dX4_taste_43 (fun v16 σ17 => ?_)
    show Wo _ _ _ _ _ _ _ _ _ _ [.int v16, .int v11, .int x13_4]
    refine r_isub hC dX4_taste_46 (fun v19 => ?_)
    refine r_iadd hC dX4_taste_47 (fun v20 => ?_)
    refine r_istore hC [(4, .int v20), (0, va_rf (some a0)), (3, .int x13_3), (5, .int x13_5)] (i := 4) (by decide) rfl dX4_taste_48 ?_
    refine r_iinc hC 3 (fun w => [(5, .int w), (4, .int v20), (0, va_rf (some a0)), (3, .int x13_3)]) 1 rfl (by decide) rfl (fun w => rfl) dX4_taste_50 (fun v21 => ?_)
    refine r_goto hC 13 dX4_taste_53 (by decide) ?_
    refine Wo.sub [2, 3, 1, 0] rfl ?_
    exact hk13 a0 x13_3 v20 v21 σ17

set_option maxRecDepth 100000 in
set_option maxHeartbeats 4000000 in
theorem u_X4_taste_13 {C : Cxt} {G : Glb} (hC : CX C G RX4 cX4_taste 6 (some .int) 4 0 0 81) : ∀ (n : Nat) (a0 : Nat) (x13_3 : Int32) (x13_4 : Int32) (x13_5 : Int32) (σ : Mem), Wo C G 6 (QP C G rvI 0 0) (l_X4_taste_13  n a0 x13_3 x13_4 x13_5 σ) σ 0 0 13 [(0, va_rf (some a0)), (3, .int x13_3), (4, .int x13_4), (5, .int x13_5)] [] := by
  intro n
  induction n with
  | zero => intro a0 x13_3 x13_4 x13_5 σ; exact Wo.none
  | succ n ih => intro a0 x13_3 x13_4 x13_5 σ; exact t_X4_taste_13 hC (l_X4_taste_13  n) ih a0 x13_3 x13_4 x13_5 σ

set_option maxRecDepth 100000 in
set_option maxHeartbeats 4000000 in
theorem t_X4_taste_0 {C : Cxt} {G : Glb} (hC : CX C G RX4 cX4_taste 6 (some .int) 4 0 0 81) (a0 : Nat) (p0 : Int32) (p1 : Int32) (σ : Mem) : Wo C G 6 (QP C G rvI 0 0) (b_X4_taste_0  a0 p0 p1 σ) σ 0 0 0 [(0, va_rf (some a0)), (1, .int p0), (2, .int p1)] [] := by
  unfold b_X4_taste_0
  refine r_aloadn hC 0 (r := (some a0)) rfl rfl dX4_taste_0 ?_
  refine r_iloadn hC 1 rfl rfl dX4_taste_1 ?_
  refine r_iloadn hC 2 rfl rfl dX4_taste_2 ?_
  refine call_V hC (av := [.int p0, .int p1]) (st := []) (r := (some a0)) (ci := 4) rfl rfl (fun h9 => ct_X4_note hC.hl G h9 p0 p1 σ) q_479 q_480 q_481 q_13 q_482 yd_X4_note rfl ⟨Nat.le_of_ble_eq_true rfl, Nat.le_of_ble_eq_true rfl⟩ ⟨Nat.zero_le _, Nat.zero_le _⟩ rfl (Nat.le_of_ble_eq_true rfl) dX4_taste_3 (fun v1 σ2 => ?_)
  show Wo _ _ _ _ _ _ _ _ _ _ [.int v1]
  refine r_istoren hC [(3, .int v1), (0, va_rf (some a0)), (1, .int p0), (2, .int p1)] (i := 3) rfl (by decide) rfl dX4_taste_6 ?_
  refine r_iconst hC (0) rfl dX4_taste_7 ?_
  refine r_istore hC [(4, .int 0), (3, .int v1), (0, va_rf (some a0)), (1, .int p0), (2, .int p1)] (i := 4) (by decide) rfl dX4_taste_8 ?_
  refine r_iconst hC (0) rfl dX4_taste_10 ?_
  refine r_istore hC [(5, .int 0), (4, .int 0), (3, .int v1), (0, va_rf (some a0)), (1, .int p0), (2, .int p1)] (i := 5) (by decide) rfl dX4_taste_11 ?_
  refine Wo.sub [3, 2, 1, 0] rfl ?_
  exact u_X4_taste_13 hC 40 a0 v1 0 0 σ2

set_option maxRecDepth 100000 in
set_option maxHeartbeats 4000000 in
theorem ct_X4_taste {l : Launch} (hl : l.stackTraces = false) (G : Glb) (a0 : Nat) (p0 : Int32) (p1 : Int32) (σ : Mem) : Ct rvI l yX4_taste (Cond.code yX4_taste cX4_taste 6 (some .int) :: uW) { frames := 4, cells := 0, slots := 0, locals := 81 } 0 0 G [.ref a0, .int p0, .int p1] σ (f_X4_taste a0 p0 p1 σ) := by
  refine Ct.of hl (by decide +kernel) (Nat.le_of_ble_eq_true rfl) (fun C hC hin => ?_)
  have e : lv_args 0 [.ref a0, .int p0, .int p1] = [(0, .ref a0), (1, .int p0), (2, .int p1)] := rfl
  rw [e]
  exact t_X4_taste_0 hC a0 p0 p1 σ

noncomputable def b_X4_ofTaster_27 (y27_0 : Int32) (σ : Mem) : Option ((Int32) × Mem) :=
some (y27_0, σ)

noncomputable def b_X4_ofTaster_0 (a0 : Nat) (p0 : Int32) (p1 : Int32) (σ : Mem) : Option ((Int32) × Mem) :=
ob 4 σ (some a0) fun h3 => cl1 (f_X4_tasterAt h3 p0 σ) fun r1 σ2 =>
cl1 (f_X4_requireArgument p1 0 1 σ2) fun u4 σ5 =>
if p1 = 0 then
ob 3 σ5 r1 fun h9 => cl1 (f_X3_guess h9 σ5) fun v7 σ8 =>
b_X4_ofTaster_27 v7 σ8
else
gI 3 2 σ5 r1 fun v6 =>
b_X4_ofTaster_27 v6 σ5

noncomputable def f_X4_ofTaster (a0 : Nat) (p0 : Int32) (p1 : Int32) (σ : Mem) : Option ((Int32) × Mem) := b_X4_ofTaster_0 a0 p0 p1 σ
set_option maxRecDepth 100000 in
set_option maxHeartbeats 4000000 in
theorem t_X4_ofTaster_27 {C : Cxt} {G : Glb} (hC : CX C G RX4 cX4_ofTaster 4 (some .int) 2 0 0 42) (y27_0 : Int32) (σ : Mem) : Wo C G 4 (QP C G rvI 0 0) (b_X4_ofTaster_27  y27_0 σ) σ 0 0 27 [] [.int y27_0] := by
  unfold b_X4_ofTaster_27
  exact e_I hC ⟨Nat.zero_le _, Nat.zero_le _⟩ dX4_ofTaster_27

set_option maxRecDepth 100000 in
set_option maxHeartbeats 4000000 in
theorem t_X4_ofTaster_0 {C : Cxt} {G : Glb} (hC : CX C G RX4 cX4_ofTaster 4 (some .int) 2 0 0 42) (a0 : Nat) (p0 : Int32) (p1 : Int32) (σ : Mem) : Wo C G 4 (QP C G rvI 0 0) (b_X4_ofTaster_0  a0 p0 p1 σ) σ 0 0 0 [(0, va_rf (some a0)), (1, .int p0), (2, .int p1)] [] := by
  unfold b_X4_ofTaster_0
  refine r_aloadn hC 0 (r := (some a0)) rfl rfl dX4_ofTaster_0 ?_
  refine r_iloadn hC 1 rfl rfl dX4_ofTaster_1 ?_
  refine call_V hC (av := [.int p0]) (st := []) (r := (some a0)) (ci := 4) rfl rfl (fun h9 => ct_X4_tasterAt hC.hl G h9 p0 σ) q_544 q_546 q_10 q_13 q_547 yd_X4_tasterAt rfl ⟨Nat.le_of_ble_eq_true rfl, Nat.le_of_ble_eq_true rfl⟩ ⟨Nat.zero_le _, Nat.zero_le _⟩ rfl (Nat.le_of_ble_eq_true rfl) dX4_ofTaster_2 (fun r1 σ2 => ?_)
  show Wo _ _ _ _ _ _ _ _ _ _ [va_rf r1]
  refine r_astoren hC [(3, va_rf r1), (0, va_rf (some a0)), (1, .int p0), (2, .int p1)] (r := r1) (i := 3) rfl (by decide) rfl dX4_ofTaster_5 ?_
  refine r_iloadn hC 3 rfl rfl dX4_ofTaster_6 ?_
  refine r_iconst hC (0) rfl dX4_ofTaster_7 ?_
  refine r_iconst hC (1) rfl dX4_ofTaster_8 ?_
  refine call_S hC (av := [.int p1, .int 0, .int 1]) (st := []) (ct_X4_requireArgument hC.hl G p1 0 1 σ2) q_228 q_229 q_13 q_230 yd_X4_requireArgument rfl ⟨Nat.le_of_ble_eq_true rfl, Nat.le_of_ble_eq_true rfl⟩ ⟨Nat.zero_le _, Nat.zero_le _⟩ rfl (Nat.le_of_ble_eq_true rfl) dX4_ofTaster_9 (fun u4 σ5 => ?_)
  show Wo _ _ _ _ _ _ _ _ _ _ []
  refine r_iloadn hC 3 rfl rfl dX4_ofTaster_12 ?_
  refine r_if_ne hC 23 dX4_ofTaster_13 (by decide) ?_ ?_
  · refine r_aloadn hC 0 (r := r1) rfl rfl dX4_ofTaster_23 ?_
    refine r_gI hC (k := 2) (r := r1) cls_3 (by decide) rfl q_179 (Or.inl rfl) dX4_ofTaster_24 (fun v6 => ?_)
    refine Wo.sub [] rfl ?_
    exact t_X4_ofTaster_27 hC v6 σ5
  · refine r_aloadn hC 0 (r := r1) rfl rfl dX4_ofTaster_16 ?_
    refine call_V hC (av := []) (st := []) (r := r1) (ci := 3) rfl rfl (fun h9 => ct_X3_guess hC.hl G h9 σ5) q_492 q_493 q_494 q_17 q_495 yd_X3_guess rfl ⟨Nat.le_of_ble_eq_true rfl, Nat.le_of_ble_eq_true rfl⟩ ⟨Nat.zero_le _, Nat.zero_le _⟩ rfl (Nat.le_of_ble_eq_true rfl) dX4_ofTaster_17 (fun v7 σ8 => ?_)
    show Wo _ _ _ _ _ _ _ _ _ _ [.int v7]
    refine r_goto hC 27 dX4_ofTaster_20 (by decide) ?_
    refine Wo.sub [] rfl ?_
    exact t_X4_ofTaster_27 hC v7 σ8

set_option maxRecDepth 100000 in
set_option maxHeartbeats 4000000 in
theorem ct_X4_ofTaster {l : Launch} (hl : l.stackTraces = false) (G : Glb) (a0 : Nat) (p0 : Int32) (p1 : Int32) (σ : Mem) : Ct rvI l yX4_ofTaster (Cond.code yX4_ofTaster cX4_ofTaster 4 (some .int) :: uW) { frames := 2, cells := 0, slots := 0, locals := 42 } 0 0 G [.ref a0, .int p0, .int p1] σ (f_X4_ofTaster a0 p0 p1 σ) := by
  refine Ct.of hl (by decide +kernel) (Nat.le_of_ble_eq_true rfl) (fun C hC hin => ?_)
  have e : lv_args 0 [.ref a0, .int p0, .int p1] = [(0, .ref a0), (1, .int p0), (2, .int p1)] := rfl
  rw [e]
  exact t_X4_ofTaster_0 hC a0 p0 p1 σ

noncomputable def b_X4_bidOf_35 (y35_0 : Int32) (σ : Mem) : Option ((Int32) × Mem) :=
some (y35_0, σ)

noncomputable def b_X4_bidOf_0 (a0 : Nat) (p0 : Int32) (p1 : Int32) (σ : Mem) : Option ((Int32) × Mem) :=
cl1 (f_X4_requireIndex p0 4 σ) fun u1 σ2 =>
ob 4 σ2 (some a0) fun h5 => cl1 (f_X4_lotAt h5 p1 σ2) fun r3 σ4 =>
gR 1 15 σ4 r3 fun r6 =>
ob 0 σ4 r6 fun h9 => cl1 (f_X0_hasBid h9 p0 σ4) fun v7 σ8 =>
if v7 = 0 then
b_X4_bidOf_35 (-1) σ8
else
gR 1 15 σ8 r3 fun r10 =>
gR 0 2 σ8 r10 fun r11 =>
aI σ8 r11 p0 fun v12 =>
b_X4_bidOf_35 v12 σ8

noncomputable def f_X4_bidOf (a0 : Nat) (p0 : Int32) (p1 : Int32) (σ : Mem) : Option ((Int32) × Mem) := b_X4_bidOf_0 a0 p0 p1 σ
set_option maxRecDepth 100000 in
set_option maxHeartbeats 4000000 in
theorem t_X4_bidOf_35 {C : Cxt} {G : Glb} (hC : CX C G RX4 cX4_bidOf 4 (some .int) 2 0 0 42) (y35_0 : Int32) (σ : Mem) : Wo C G 4 (QP C G rvI 0 0) (b_X4_bidOf_35  y35_0 σ) σ 0 0 35 [] [.int y35_0] := by
  unfold b_X4_bidOf_35
  exact e_I hC ⟨Nat.zero_le _, Nat.zero_le _⟩ dX4_bidOf_35

set_option maxRecDepth 100000 in
set_option maxHeartbeats 4000000 in
theorem t_X4_bidOf_0 {C : Cxt} {G : Glb} (hC : CX C G RX4 cX4_bidOf 4 (some .int) 2 0 0 42) (a0 : Nat) (p0 : Int32) (p1 : Int32) (σ : Mem) : Wo C G 4 (QP C G rvI 0 0) (b_X4_bidOf_0  a0 p0 p1 σ) σ 0 0 0 [(0, va_rf (some a0)), (1, .int p0), (2, .int p1)] [] := by
  unfold b_X4_bidOf_0
  refine r_iloadn hC 1 rfl rfl dX4_bidOf_0 ?_
  refine r_iconst hC (4) rfl dX4_bidOf_1 ?_
  refine call_S hC (av := [.int p0, .int 4]) (st := []) (ct_X4_requireIndex hC.hl G p0 4 σ) q_320 q_321 q_13 q_322 yd_X4_requireIndex rfl ⟨Nat.le_of_ble_eq_true rfl, Nat.le_of_ble_eq_true rfl⟩ ⟨Nat.zero_le _, Nat.zero_le _⟩ rfl (Nat.le_of_ble_eq_true rfl) dX4_bidOf_2 (fun u1 σ2 => ?_)
  show Wo _ _ _ _ _ _ _ _ _ _ []
  refine r_aloadn hC 0 (r := (some a0)) rfl rfl dX4_bidOf_5 ?_
  refine r_iloadn hC 2 rfl rfl dX4_bidOf_6 ?_
  refine call_V hC (av := [.int p1]) (st := []) (r := (some a0)) (ci := 4) rfl rfl (fun h9 => ct_X4_lotAt hC.hl G h9 p1 σ2) q_357 q_359 q_3 q_13 q_360 yd_X4_lotAt rfl ⟨Nat.le_of_ble_eq_true rfl, Nat.le_of_ble_eq_true rfl⟩ ⟨Nat.zero_le _, Nat.zero_le _⟩ rfl (Nat.le_of_ble_eq_true rfl) dX4_bidOf_7 (fun r3 σ4 => ?_)
  show Wo _ _ _ _ _ _ _ _ _ _ [va_rf r3]
  refine r_astoren hC [(3, va_rf r3), (0, va_rf (some a0)), (1, .int p0), (2, .int p1)] (r := r3) (i := 3) rfl (by decide) rfl dX4_bidOf_10 ?_
  refine r_aloadn hC 0 (r := r3) rfl rfl dX4_bidOf_11 ?_
  refine r_gR hC (k := 15) (r := r3) cls_1 (by decide) rfl q_95 (Or.inl rfl) dX4_bidOf_12 (fun r6 => ?_)
  refine r_iloadn hC 2 rfl rfl dX4_bidOf_15 ?_
  refine call_V hC (av := [.int p0]) (st := []) (r := r6) (ci := 0) rfl rfl (fun h9 => ct_X0_hasBid hC.hl G h9 p0 σ4) q_393 q_378 q_379 q_15 q_380 yd_X0_hasBid rfl ⟨Nat.le_of_ble_eq_true rfl, Nat.le_of_ble_eq_true rfl⟩ ⟨Nat.zero_le _, Nat.zero_le _⟩ rfl (Nat.le_of_ble_eq_true rfl) dX4_bidOf_16 (fun v7 σ8 => ?_)
  show Wo _ _ _ _ _ _ _ _ _ _ [.int v7]
  refine r_if_eq hC 34 dX4_bidOf_19 (by decide) ?_ ?_
  · refine r_iconst hC (-1) rfl dX4_bidOf_34 ?_
    refine Wo.sub [] rfl ?_
    exact t_X4_bidOf_35 hC (-1) σ8
  · refine r_aloadn hC 0 (r := r3) rfl rfl dX4_bidOf_22 ?_
    refine r_gR hC (k := 15) (r := r3) cls_1 (by decide) rfl q_95 (Or.inl rfl) dX4_bidOf_23 (fun r10 => ?_)
    refine r_gR hC (k := 2) (r := r10) cls_0 (by decide) rfl q_52 (Or.inl rfl) dX4_bidOf_26 (fun r11 => ?_)
    refine r_iloadn hC 2 rfl rfl dX4_bidOf_29 ?_
    refine r_aI hC (r := r11) dX4_bidOf_30 (fun v12 => ?_)
    refine r_goto hC 35 dX4_bidOf_31 (by decide) ?_
    refine Wo.sub [] rfl ?_
    exact t_X4_bidOf_35 hC v12 σ8

set_option maxRecDepth 100000 in
set_option maxHeartbeats 4000000 in
theorem ct_X4_bidOf {l : Launch} (hl : l.stackTraces = false) (G : Glb) (a0 : Nat) (p0 : Int32) (p1 : Int32) (σ : Mem) : Ct rvI l yX4_bidOf (Cond.code yX4_bidOf cX4_bidOf 4 (some .int) :: uW) { frames := 2, cells := 0, slots := 0, locals := 42 } 0 0 G [.ref a0, .int p0, .int p1] σ (f_X4_bidOf a0 p0 p1 σ) := by
  refine Ct.of hl (by decide +kernel) (Nat.le_of_ble_eq_true rfl) (fun C hC hin => ?_)
  have e : lv_args 0 [.ref a0, .int p0, .int p1] = [(0, .ref a0), (1, .int p0), (2, .int p1)] := rfl
  rw [e]
  exact t_X4_bidOf_0 hC a0 p0 p1 σ

noncomputable def b_X4_countLots_28 (k4 : Nat → Int32 → Int32 → Int32 → Mem → Option ((Int32) × Mem)) (a0 : Nat) (x28_1 : Int32) (x28_2 : Int32) (x28_3 : Int32) (σ : Mem) : Option ((Int32) × Mem) :=
nm (x28_3 + 1) fun v5 =>
k4 a0 x28_1 x28_2 v5 σ

noncomputable def b_X4_countLots_4 (k4 : Nat → Int32 → Int32 → Int32 → Mem → Option ((Int32) × Mem)) (a0 : Nat) (x4_1 : Int32) (x4_2 : Int32) (x4_3 : Int32) (σ : Mem) : Option ((Int32) × Mem) :=
gI 4 4 σ (some a0) fun v1 =>
if v1 ≤ x4_3 then
some (x4_2, σ)
else
gR 4 3 σ (some a0) fun r2 =>
aR 1 σ r2 x4_3 fun r3 =>
gI 1 0 σ r3 fun v4 =>
if v4 = x4_1 then
nm (x4_2 + 1) fun v6 =>
b_X4_countLots_28 k4 a0 x4_1 v6 x4_3 σ
else
b_X4_countLots_28 k4 a0 x4_1 x4_2 x4_3 σ

noncomputable def l_X4_countLots_4 (n : Nat) : Nat → Int32 → Int32 → Int32 → Mem → Option ((Int32) × Mem) := itr (fun _ _ _ _ _ => none) (fun k => b_X4_countLots_4  k) n

noncomputable def b_X4_countLots_0 (a0 : Nat) (p0 : Int32) (σ : Mem) : Option ((Int32) × Mem) :=
l_X4_countLots_4 40 a0 p0 0 0 σ

noncomputable def f_X4_countLots (a0 : Nat) (p0 : Int32) (σ : Mem) : Option ((Int32) × Mem) := b_X4_countLots_0 a0 p0 σ
set_option maxRecDepth 100000 in
set_option maxHeartbeats 4000000 in
theorem t_X4_countLots_28 {C : Cxt} {G : Glb} (hC : CX C G RX4 cX4_countLots 4 (some .int) 0 0 0 0) (k4 : Nat → Int32 → Int32 → Int32 → Mem → Option ((Int32) × Mem)) (hk4 : ∀ (a0 : Nat) (x4_1 : Int32) (x4_2 : Int32) (x4_3 : Int32) (σ : Mem), Wo C G 4 (QP C G rvI 0 0) (k4 a0 x4_1 x4_2 x4_3 σ) σ 0 0 4 [(0, va_rf (some a0)), (1, .int x4_1), (2, .int x4_2), (3, .int x4_3)] []) (a0 : Nat) (x28_1 : Int32) (x28_2 : Int32) (x28_3 : Int32) (σ : Mem) : Wo C G 4 (QP C G rvI 0 0) (b_X4_countLots_28 k4 a0 x28_1 x28_2 x28_3 σ) σ 0 0 28 [(0, va_rf (some a0)), (1, .int x28_1), (2, .int x28_2), (3, .int x28_3)] [] := by
  unfold b_X4_countLots_28
  refine r_iinc hC 3 (fun w => [(3, .int w), (0, va_rf (some a0)), (1, .int x28_1), (2, .int x28_2)]) 1 rfl (by decide) rfl (fun w => rfl) dX4_countLots_28 (fun v5 => ?_)
  refine r_goto hC 4 dX4_countLots_31 (by decide) ?_
  refine Wo.sub [1, 2, 3, 0] rfl ?_
  exact hk4 a0 x28_1 x28_2 v5 σ

set_option maxRecDepth 100000 in
set_option maxHeartbeats 4000000 in
theorem t_X4_countLots_4 {C : Cxt} {G : Glb} (hC : CX C G RX4 cX4_countLots 4 (some .int) 0 0 0 0) (k4 : Nat → Int32 → Int32 → Int32 → Mem → Option ((Int32) × Mem)) (hk4 : ∀ (a0 : Nat) (x4_1 : Int32) (x4_2 : Int32) (x4_3 : Int32) (σ : Mem), Wo C G 4 (QP C G rvI 0 0) (k4 a0 x4_1 x4_2 x4_3 σ) σ 0 0 4 [(0, va_rf (some a0)), (1, .int x4_1), (2, .int x4_2), (3, .int x4_3)] []) (a0 : Nat) (x4_1 : Int32) (x4_2 : Int32) (x4_3 : Int32) (σ : Mem) : Wo C G 4 (QP C G rvI 0 0) (b_X4_countLots_4 k4 a0 x4_1 x4_2 x4_3 σ) σ 0 0 4 [(0, va_rf (some a0)), (1, .int x4_1), (2, .int x4_2), (3, .int x4_3)] [] := by
  unfold b_X4_countLots_4
  refine r_iloadn hC 3 rfl rfl dX4_countLots_4 ?_
  refine r_aloadn hC 0 (r := (some a0)) rfl rfl dX4_countLots_5 ?_
  refine r_gI hC (k := 4) (r := (some a0)) cls_4 (by decide) rfl q_191 (Or.inl rfl) dX4_countLots_6 (fun v1 => ?_)
  refine r_icmp_ge hC 34 dX4_countLots_9 (by decide) ?_ ?_
  · refine r_iloadn hC 2 rfl rfl dX4_countLots_34 ?_
    exact e_I hC ⟨Nat.zero_le _, Nat.zero_le _⟩ dX4_countLots_35
  · refine r_aloadn hC 0 (r := (some a0)) rfl rfl dX4_countLots_12 ?_
    refine r_gR hC (k := 3) (r := (some a0)) cls_4 (by decide) rfl q_190 (Or.inl rfl) dX4_countLots_13 (fun r2 => ?_)
    refine r_iloadn hC 3 rfl rfl dX4_countLots_16 ?_
    refine r_aR hC (t := 1) (r := r2) rfl rfl dX4_countLots_17 (fun r3 => ?_)
    refine r_gI hC (k := 0) (r := r3) cls_1 (by decide) rfl q_65 (Or.inl rfl) dX4_countLots_18 (fun v4 => ?_)
    refine r_iloadn hC 1 rfl rfl dX4_countLots_21 ?_
    refine r_icmp_ne hC 28 dX4_countLots_22 (by decide) ?_ ?_
    · exact t_X4_countLots_28 hC k4 hk4 a0 x4_1 x4_2 x4_3 σ
    · refine r_iinc hC 2 (fun w => [(2, .int w), (0, va_rf (some a0)), (1, .int x4_1), (3, .int x4_3)]) 1 rfl (by decide) rfl (fun w => rfl) dX4_countLots_25 (fun v6 => ?_)
      refine Wo.sub [1, 2, 0, 3] rfl ?_
      exact t_X4_countLots_28 hC k4 hk4 a0 x4_1 v6 x4_3 σ

set_option maxRecDepth 100000 in
set_option maxHeartbeats 4000000 in
theorem u_X4_countLots_4 {C : Cxt} {G : Glb} (hC : CX C G RX4 cX4_countLots 4 (some .int) 0 0 0 0) : ∀ (n : Nat) (a0 : Nat) (x4_1 : Int32) (x4_2 : Int32) (x4_3 : Int32) (σ : Mem), Wo C G 4 (QP C G rvI 0 0) (l_X4_countLots_4  n a0 x4_1 x4_2 x4_3 σ) σ 0 0 4 [(0, va_rf (some a0)), (1, .int x4_1), (2, .int x4_2), (3, .int x4_3)] [] := by
  intro n
  induction n with
  | zero => intro a0 x4_1 x4_2 x4_3 σ; exact Wo.none
  | succ n ih => intro a0 x4_1 x4_2 x4_3 σ; exact t_X4_countLots_4 hC (l_X4_countLots_4  n) ih a0 x4_1 x4_2 x4_3 σ

set_option maxRecDepth 100000 in
set_option maxHeartbeats 4000000 in
theorem t_X4_countLots_0 {C : Cxt} {G : Glb} (hC : CX C G RX4 cX4_countLots 4 (some .int) 0 0 0 0) (a0 : Nat) (p0 : Int32) (σ : Mem) : Wo C G 4 (QP C G rvI 0 0) (b_X4_countLots_0  a0 p0 σ) σ 0 0 0 [(0, va_rf (some a0)), (1, .int p0)] [] := by
  unfold b_X4_countLots_0
  refine r_iconst hC (0) rfl dX4_countLots_0 ?_
  refine r_istoren hC [(2, .int 0), (0, va_rf (some a0)), (1, .int p0)] (i := 2) rfl (by decide) rfl dX4_countLots_1 ?_
  refine r_iconst hC (0) rfl dX4_countLots_2 ?_
  refine r_istoren hC [(3, .int 0), (2, .int 0), (0, va_rf (some a0)), (1, .int p0)] (i := 3) rfl (by decide) rfl dX4_countLots_3 ?_
  refine Wo.sub [2, 3, 1, 0] rfl ?_
  exact u_X4_countLots_4 hC 40 a0 p0 0 0 σ

set_option maxRecDepth 100000 in
set_option maxHeartbeats 4000000 in
theorem ct_X4_countLots {l : Launch} (hl : l.stackTraces = false) (G : Glb) (a0 : Nat) (p0 : Int32) (σ : Mem) : Ct rvI l yX4_countLots (Cond.code yX4_countLots cX4_countLots 4 (some .int) :: uW) { frames := 0, cells := 0, slots := 0, locals := 0 } 0 0 G [.ref a0, .int p0] σ (f_X4_countLots a0 p0 σ) := by
  refine Ct.of hl (by decide +kernel) (Nat.le_of_ble_eq_true rfl) (fun C hC hin => ?_)
  have e : lv_args 0 [.ref a0, .int p0] = [(0, .ref a0), (1, .int p0)] := rfl
  rw [e]
  exact t_X4_countLots_0 hC a0 p0 σ

noncomputable def b_X4_dryOfAll_4 (k4 : Nat → Int32 → Int32 → Mem → Option ((Int32) × Mem)) (a0 : Nat) (x4_1 : Int32) (x4_2 : Int32) (σ : Mem) : Option ((Int32) × Mem) :=
gI 4 4 σ (some a0) fun v1 =>
if v1 ≤ x4_2 then
some (x4_1, σ)
else
gR 4 3 σ (some a0) fun r2 =>
aR 1 σ r2 x4_2 fun r3 =>
gI 1 1 σ r3 fun v4 =>
nm (x4_1 + v4) fun v5 =>
nm (x4_2 + 1) fun v6 =>
k4 a0 v5 v6 σ

noncomputable def l_X4_dryOfAll_4 (n : Nat) : Nat → Int32 → Int32 → Mem → Option ((Int32) × Mem) := itr (fun _ _ _ _ => none) (fun k => b_X4_dryOfAll_4  k) n

noncomputable def b_X4_dryOfAll_0 (a0 : Nat) (σ : Mem) : Option ((Int32) × Mem) :=
l_X4_dryOfAll_4 40 a0 0 0 σ

noncomputable def f_X4_dryOfAll (a0 : Nat) (σ : Mem) : Option ((Int32) × Mem) := b_X4_dryOfAll_0 a0 σ
set_option maxRecDepth 100000 in
set_option maxHeartbeats 4000000 in
theorem t_X4_dryOfAll_4 {C : Cxt} {G : Glb} (hC : CX C G RX4 cX4_dryOfAll 3 (some .int) 0 0 0 0) (k4 : Nat → Int32 → Int32 → Mem → Option ((Int32) × Mem)) (hk4 : ∀ (a0 : Nat) (x4_1 : Int32) (x4_2 : Int32) (σ : Mem), Wo C G 3 (QP C G rvI 0 0) (k4 a0 x4_1 x4_2 σ) σ 0 0 4 [(0, va_rf (some a0)), (1, .int x4_1), (2, .int x4_2)] []) (a0 : Nat) (x4_1 : Int32) (x4_2 : Int32) (σ : Mem) : Wo C G 3 (QP C G rvI 0 0) (b_X4_dryOfAll_4 k4 a0 x4_1 x4_2 σ) σ 0 0 4 [(0, va_rf (some a0)), (1, .int x4_1), (2, .int x4_2)] [] := by
  unfold b_X4_dryOfAll_4
  refine r_iloadn hC 2 rfl rfl dX4_dryOfAll_4 ?_
  refine r_aloadn hC 0 (r := (some a0)) rfl rfl dX4_dryOfAll_5 ?_
  refine r_gI hC (k := 4) (r := (some a0)) cls_4 (by decide) rfl q_191 (Or.inl rfl) dX4_dryOfAll_6 (fun v1 => ?_)
  refine r_icmp_ge hC 30 dX4_dryOfAll_9 (by decide) ?_ ?_
  · refine r_iloadn hC 1 rfl rfl dX4_dryOfAll_30 ?_
    exact e_I hC ⟨Nat.zero_le _, Nat.zero_le _⟩ dX4_dryOfAll_31
  · refine r_iloadn hC 1 rfl rfl dX4_dryOfAll_12 ?_
    refine r_aloadn hC 0 (r := (some a0)) rfl rfl dX4_dryOfAll_13 ?_
    refine r_gR hC (k := 3) (r := (some a0)) cls_4 (by decide) rfl q_190 (Or.inl rfl) dX4_dryOfAll_14 (fun r2 => ?_)
    refine r_iloadn hC 2 rfl rfl dX4_dryOfAll_17 ?_
    refine r_aR hC (t := 1) (r := r2) rfl rfl dX4_dryOfAll_18 (fun r3 => ?_)
    refine r_gI hC (k := 1) (r := r3) cls_1 (by decide) rfl q_67 (Or.inl rfl) dX4_dryOfAll_19 (fun v4 => ?_)
    refine r_iadd hC dX4_dryOfAll_22 (fun v5 => ?_)
    refine r_istoren hC [(1, .int v5), (0, va_rf (some a0)), (2, .int x4_2)] (i := 1) rfl (by decide) rfl dX4_dryOfAll_23 ?_
    refine r_iinc hC 2 (fun w => [(2, .int w), (1, .int v5), (0, va_rf (some a0))]) 1 rfl (by decide) rfl (fun w => rfl) dX4_dryOfAll_24 (fun v6 => ?_)
    refine r_goto hC 4 dX4_dryOfAll_27 (by decide) ?_
    refine Wo.sub [2, 1, 0] rfl ?_
    exact hk4 a0 v5 v6 σ

set_option maxRecDepth 100000 in
set_option maxHeartbeats 4000000 in
theorem u_X4_dryOfAll_4 {C : Cxt} {G : Glb} (hC : CX C G RX4 cX4_dryOfAll 3 (some .int) 0 0 0 0) : ∀ (n : Nat) (a0 : Nat) (x4_1 : Int32) (x4_2 : Int32) (σ : Mem), Wo C G 3 (QP C G rvI 0 0) (l_X4_dryOfAll_4  n a0 x4_1 x4_2 σ) σ 0 0 4 [(0, va_rf (some a0)), (1, .int x4_1), (2, .int x4_2)] [] := by
  intro n
  induction n with
  | zero => intro a0 x4_1 x4_2 σ; exact Wo.none
  | succ n ih => intro a0 x4_1 x4_2 σ; exact t_X4_dryOfAll_4 hC (l_X4_dryOfAll_4  n) ih a0 x4_1 x4_2 σ

set_option maxRecDepth 100000 in
set_option maxHeartbeats 4000000 in
theorem t_X4_dryOfAll_0 {C : Cxt} {G : Glb} (hC : CX C G RX4 cX4_dryOfAll 3 (some .int) 0 0 0 0) (a0 : Nat) (σ : Mem) : Wo C G 3 (QP C G rvI 0 0) (b_X4_dryOfAll_0  a0 σ) σ 0 0 0 [(0, va_rf (some a0))] [] := by
  unfold b_X4_dryOfAll_0
  refine r_iconst hC (0) rfl dX4_dryOfAll_0 ?_
  refine r_istoren hC [(1, .int 0), (0, va_rf (some a0))] (i := 1) rfl (by decide) rfl dX4_dryOfAll_1 ?_
  refine r_iconst hC (0) rfl dX4_dryOfAll_2 ?_
  refine r_istoren hC [(2, .int 0), (1, .int 0), (0, va_rf (some a0))] (i := 2) rfl (by decide) rfl dX4_dryOfAll_3 ?_
  refine Wo.sub [2, 1, 0] rfl ?_
  exact u_X4_dryOfAll_4 hC 40 a0 0 0 σ

set_option maxRecDepth 100000 in
set_option maxHeartbeats 4000000 in
theorem ct_X4_dryOfAll {l : Launch} (hl : l.stackTraces = false) (G : Glb) (a0 : Nat) (σ : Mem) : Ct rvI l yX4_dryOfAll (Cond.code yX4_dryOfAll cX4_dryOfAll 3 (some .int) :: uW) { frames := 0, cells := 0, slots := 0, locals := 0 } 0 0 G [.ref a0] σ (f_X4_dryOfAll a0 σ) := by
  refine Ct.of hl (by decide +kernel) (Nat.le_of_ble_eq_true rfl) (fun C hC hin => ?_)
  have e : lv_args 0 [.ref a0] = [(0, .ref a0)] := rfl
  rw [e]
  exact t_X4_dryOfAll_0 hC a0 σ

noncomputable def b_X4_many_0 (a0 : Nat) (p0 : Int32) (σ : Mem) : Option ((Int32) × Mem) :=
cl1 (f_X4_requireArgument p0 0 14 σ) fun u1 σ2 =>
if p0 = 0 then
gI 4 1 σ2 (some a0) fun v3 =>
some (v3, σ2)
else if p0 = 1 then
gI 4 2 σ2 (some a0) fun v4 =>
some (v4, σ2)
else if p0 = 2 then
gI 4 4 σ2 (some a0) fun v5 =>
some (v5, σ2)
else if p0 = 3 then
ob 4 σ2 (some a0) fun h8 => cl1 (f_X4_countLots h8 0 σ2) fun v6 σ7 =>
some (v6, σ7)
else if p0 = 4 then
ob 4 σ2 (some a0) fun h11 => cl1 (f_X4_countLots h11 1 σ2) fun v9 σ10 =>
some (v9, σ10)
else if p0 = 5 then
ob 4 σ2 (some a0) fun h14 => cl1 (f_X4_countLots h14 2 σ2) fun v12 σ13 =>
some (v12, σ13)
else if p0 = 6 then
gI 4 8 σ2 (some a0) fun v15 =>
some (v15, σ2)
else if p0 = 7 then
gI 4 9 σ2 (some a0) fun v16 =>
some (v16, σ2)
else if p0 = 8 then
ob 4 σ2 (some a0) fun h19 => cl1 (f_X4_dryOfAll h19 σ2) fun v17 σ18 =>
some (v17, σ18)
else if p0 = 9 then
gI 4 11 σ2 (some a0) fun v20 =>
some (v20, σ2)
else if p0 = 10 then
gI 4 10 σ2 (some a0) fun v21 =>
some (v21, σ2)
else 
gR 4 7 σ2 (some a0) fun r22 =>
nm (p0 - 11) fun v23 =>
aI σ2 r22 v23 fun v24 =>
some (v24, σ2)

noncomputable def f_X4_many (a0 : Nat) (p0 : Int32) (σ : Mem) : Option ((Int32) × Mem) := b_X4_many_0 a0 p0 σ
set_option maxRecDepth 100000 in
set_option maxHeartbeats 4000000 in
theorem t_X4_many_0 {C : Cxt} {G : Glb} (hC : CX C G RX4 cX4_many 2 (some .int) 1 0 0 23) (a0 : Nat) (p0 : Int32) (σ : Mem) : Wo C G 2 (QP C G rvI 0 0) (b_X4_many_0  a0 p0 σ) σ 0 0 0 [(0, va_rf (some a0)), (1, .int p0)] [] := by
  unfold b_X4_many_0
  refine r_iloadn hC 1 rfl rfl dX4_many_0 ?_
  refine r_iconst hC (0) rfl dX4_many_1 ?_
  refine r_bipush hC (14) (by decide) dX4_many_2 ?_
  refine call_S hC (av := [.int p0, .int 0, .int 14]) (st := []) (ct_X4_requireArgument hC.hl G p0 0 14 σ) q_228 q_229 q_13 q_230 yd_X4_requireArgument rfl ⟨Nat.le_of_ble_eq_true rfl, Nat.le_of_ble_eq_true rfl⟩ ⟨Nat.zero_le _, Nat.zero_le _⟩ rfl (Nat.le_of_ble_eq_true rfl) dX4_many_4 (fun u1 σ2 => ?_)
  show Wo _ _ _ _ _ _ _ _ _ _ []
  refine r_iloadn hC 1 rfl rfl dX4_many_7 ?_
  refine Wo.ite (fun h8_0 => ?_) (fun h8_0 => ?_)
  · refine r_tab hC 68 dX4_many_8 (by rw [h8_0]; decide) (by rw [h8_0]; decide) (by rw [h8_0]; rfl) (by decide) ?_
    refine r_aloadn hC 0 (r := (some a0)) rfl rfl dX4_many_68 ?_
    refine r_gI hC (k := 1) (r := (some a0)) cls_4 (by decide) rfl q_188 (Or.inl rfl) dX4_many_69 (fun v3 => ?_)
    exact e_I hC ⟨Nat.zero_le _, Nat.zero_le _⟩ dX4_many_72
  refine Wo.ite (fun h8_1 => ?_) (fun h8_1 => ?_)
  · refine r_tab hC 73 dX4_many_8 (by rw [h8_1]; decide) (by rw [h8_1]; decide) (by rw [h8_1]; rfl) (by decide) ?_
    refine r_aloadn hC 0 (r := (some a0)) rfl rfl dX4_many_73 ?_
    refine r_gI hC (k := 2) (r := (some a0)) cls_4 (by decide) rfl q_189 (Or.inl rfl) dX4_many_74 (fun v4 => ?_)
    exact e_I hC ⟨Nat.zero_le _, Nat.zero_le _⟩ dX4_many_77
  refine Wo.ite (fun h8_2 => ?_) (fun h8_2 => ?_)
  · refine r_tab hC 78 dX4_many_8 (by rw [h8_2]; decide) (by rw [h8_2]; decide) (by rw [h8_2]; rfl) (by decide) ?_
    refine r_aloadn hC 0 (r := (some a0)) rfl rfl dX4_many_78 ?_
    refine r_gI hC (k := 4) (r := (some a0)) cls_4 (by decide) rfl q_191 (Or.inl rfl) dX4_many_79 (fun v5 => ?_)
    exact e_I hC ⟨Nat.zero_le _, Nat.zero_le _⟩ dX4_many_82
  refine Wo.ite (fun h8_3 => ?_) (fun h8_3 => ?_)
  · refine r_tab hC 83 dX4_many_8 (by rw [h8_3]; decide) (by rw [h8_3]; decide) (by rw [h8_3]; rfl) (by decide) ?_
    refine r_aloadn hC 0 (r := (some a0)) rfl rfl dX4_many_83 ?_
    refine r_iconst hC (0) rfl dX4_many_84 ?_
    refine call_V hC (av := [.int 0]) (st := []) (r := (some a0)) (ci := 4) rfl rfl (fun h9 => ct_X4_countLots hC.hl G h9 0 σ2) q_398 q_400 q_4 q_13 q_401 yd_X4_countLots rfl ⟨Nat.le_of_ble_eq_true rfl, Nat.le_of_ble_eq_true rfl⟩ ⟨Nat.zero_le _, Nat.zero_le _⟩ rfl (Nat.le_of_ble_eq_true rfl) dX4_many_85 (fun v6 σ7 => ?_)
    show Wo _ _ _ _ _ _ _ _ _ _ [.int v6]
    exact e_I hC ⟨Nat.zero_le _, Nat.zero_le _⟩ dX4_many_88
  refine Wo.ite (fun h8_4 => ?_) (fun h8_4 => ?_)
  · refine r_tab hC 89 dX4_many_8 (by rw [h8_4]; decide) (by rw [h8_4]; decide) (by rw [h8_4]; rfl) (by decide) ?_
    refine r_aloadn hC 0 (r := (some a0)) rfl rfl dX4_many_89 ?_
    refine r_iconst hC (1) rfl dX4_many_90 ?_
    refine call_V hC (av := [.int 1]) (st := []) (r := (some a0)) (ci := 4) rfl rfl (fun h9 => ct_X4_countLots hC.hl G h9 1 σ2) q_398 q_400 q_4 q_13 q_401 yd_X4_countLots rfl ⟨Nat.le_of_ble_eq_true rfl, Nat.le_of_ble_eq_true rfl⟩ ⟨Nat.zero_le _, Nat.zero_le _⟩ rfl (Nat.le_of_ble_eq_true rfl) dX4_many_91 (fun v9 σ10 => ?_)
    show Wo _ _ _ _ _ _ _ _ _ _ [.int v9]
    exact e_I hC ⟨Nat.zero_le _, Nat.zero_le _⟩ dX4_many_94
  refine Wo.ite (fun h8_5 => ?_) (fun h8_5 => ?_)
  · refine r_tab hC 95 dX4_many_8 (by rw [h8_5]; decide) (by rw [h8_5]; decide) (by rw [h8_5]; rfl) (by decide) ?_
    refine r_aloadn hC 0 (r := (some a0)) rfl rfl dX4_many_95 ?_
    refine r_iconst hC (2) rfl dX4_many_96 ?_
    refine call_V hC (av := [.int 2]) (st := []) (r := (some a0)) (ci := 4) rfl rfl (fun h9 => ct_X4_countLots hC.hl G h9 2 σ2) q_398 q_400 q_4 q_13 q_401 yd_X4_countLots rfl ⟨Nat.le_of_ble_eq_true rfl, Nat.le_of_ble_eq_true rfl⟩ ⟨Nat.zero_le _, Nat.zero_le _⟩ rfl (Nat.le_of_ble_eq_true rfl) dX4_many_97 (fun v12 σ13 => ?_)
    show Wo _ _ _ _ _ _ _ _ _ _ [.int v12]
    exact e_I hC ⟨Nat.zero_le _, Nat.zero_le _⟩ dX4_many_100
  refine Wo.ite (fun h8_6 => ?_) (fun h8_6 => ?_)
  · refine r_tab hC 101 dX4_many_8 (by rw [h8_6]; decide) (by rw [h8_6]; decide) (by rw [h8_6]; rfl) (by decide) ?_
    refine r_aloadn hC 0 (r := (some a0)) rfl rfl dX4_many_101 ?_
    refine r_gI hC (k := 8) (r := (some a0)) cls_4 (by decide) rfl q_195 (Or.inl rfl) dX4_many_102 (fun v15 => ?_)
    exact e_I hC ⟨Nat.zero_le _, Nat.zero_le _⟩ dX4_many_105
  refine Wo.ite (fun h8_7 => ?_) (fun h8_7 => ?_)
  · refine r_tab hC 106 dX4_many_8 (by rw [h8_7]; decide) (by rw [h8_7]; decide) (by rw [h8_7]; rfl) (by decide) ?_
    refine r_aloadn hC 0 (r := (some a0)) rfl rfl dX4_many_106 ?_
    refine r_gI hC (k := 9) (r := (some a0)) cls_4 (by decide) rfl q_196 (Or.inl rfl) dX4_many_107 (fun v16 => ?_)
    exact e_I hC ⟨Nat.zero_le _, Nat.zero_le _⟩ dX4_many_110
  refine Wo.ite (fun h8_8 => ?_) (fun h8_8 => ?_)
  · refine r_tab hC 111 dX4_many_8 (by rw [h8_8]; decide) (by rw [h8_8]; decide) (by rw [h8_8]; rfl) (by decide) ?_
    refine r_aloadn hC 0 (r := (some a0)) rfl rfl dX4_many_111 ?_
    refine call_V hC (av := []) (st := []) (r := (some a0)) (ci := 4) rfl rfl (fun h9 => ct_X4_dryOfAll hC.hl G h9 σ2) q_402 q_404 q_5 q_13 q_405 yd_X4_dryOfAll rfl ⟨Nat.le_of_ble_eq_true rfl, Nat.le_of_ble_eq_true rfl⟩ ⟨Nat.zero_le _, Nat.zero_le _⟩ rfl (Nat.le_of_ble_eq_true rfl) dX4_many_112 (fun v17 σ18 => ?_)
    show Wo _ _ _ _ _ _ _ _ _ _ [.int v17]
    exact e_I hC ⟨Nat.zero_le _, Nat.zero_le _⟩ dX4_many_115
  refine Wo.ite (fun h8_9 => ?_) (fun h8_9 => ?_)
  · refine r_tab hC 116 dX4_many_8 (by rw [h8_9]; decide) (by rw [h8_9]; decide) (by rw [h8_9]; rfl) (by decide) ?_
    refine r_aloadn hC 0 (r := (some a0)) rfl rfl dX4_many_116 ?_
    refine r_gI hC (k := 11) (r := (some a0)) cls_4 (by decide) rfl q_198 (Or.inl rfl) dX4_many_117 (fun v20 => ?_)
    exact e_I hC ⟨Nat.zero_le _, Nat.zero_le _⟩ dX4_many_120
  refine Wo.ite (fun h8_10 => ?_) (fun h8_10 => ?_)
  · refine r_tab hC 121 dX4_many_8 (by rw [h8_10]; decide) (by rw [h8_10]; decide) (by rw [h8_10]; rfl) (by decide) ?_
    refine r_aloadn hC 0 (r := (some a0)) rfl rfl dX4_many_121 ?_
    refine r_gI hC (k := 10) (r := (some a0)) cls_4 (by decide) rfl q_197 (Or.inl rfl) dX4_many_122 (fun v21 => ?_)
    exact e_I hC ⟨Nat.zero_le _, Nat.zero_le _⟩ dX4_many_125
  refine r_tabD hC 126 (n := 11) dX4_many_8 (Nat.le_of_ble_eq_true rfl) (fun i hi => match i, hi with
    | 0, _ => h8_0
    | 1, _ => h8_1
    | 2, _ => h8_2
    | 3, _ => h8_3
    | 4, _ => h8_4
    | 5, _ => h8_5
    | 6, _ => h8_6
    | 7, _ => h8_7
    | 8, _ => h8_8
    | 9, _ => h8_9
    | 10, _ => h8_10
    | i + 11, hi => absurd hi (by omega)) (by decide) ?_
  refine r_aloadn hC 0 (r := (some a0)) rfl rfl dX4_many_126 ?_
  refine r_gR hC (k := 7) (r := (some a0)) cls_4 (by decide) rfl q_194 (Or.inl rfl) dX4_many_127 (fun r22 => ?_)
  refine r_iloadn hC 1 rfl rfl dX4_many_130 ?_
  refine r_bipush hC (11) (by decide) dX4_many_131 ?_
  refine r_isub hC dX4_many_133 (fun v23 => ?_)
  refine r_aI hC (r := r22) dX4_many_134 (fun v24 => ?_)
  exact e_I hC ⟨Nat.zero_le _, Nat.zero_le _⟩ dX4_many_135

set_option maxRecDepth 100000 in
set_option maxHeartbeats 4000000 in
theorem ct_X4_many {l : Launch} (hl : l.stackTraces = false) (G : Glb) (a0 : Nat) (p0 : Int32) (σ : Mem) : Ct rvI l yX4_many (Cond.code yX4_many cX4_many 2 (some .int) :: uW) { frames := 1, cells := 0, slots := 0, locals := 23 } 0 0 G [.ref a0, .int p0] σ (f_X4_many a0 p0 σ) := by
  refine Ct.of hl (by decide +kernel) (Nat.le_of_ble_eq_true rfl) (fun C hC hin => ?_)
  have e : lv_args 0 [.ref a0, .int p0] = [(0, .ref a0), (1, .int p0)] := rfl
  rw [e]
  exact t_X4_many_0 hC a0 p0 σ

noncomputable def b_X4_meanNotes_80 (y80_0 : UInt64) (σ : Mem) : Option ((UInt64) × Mem) :=
some (y80_0, σ)

noncomputable def b_X4_meanNotes_61 (k6 : Nat → Int32 → Int32 → Int32 → Mem → Option ((UInt64) × Mem)) (a0 : Nat) (x61_1 : Int32) (x61_2 : Int32) (x61_3 : Int32) (σ : Mem) : Option ((UInt64) × Mem) :=
nm (x61_3 + 1) fun v8 =>
k6 a0 x61_1 x61_2 v8 σ

noncomputable def b_X4_meanNotes_6 (k6 : Nat → Int32 → Int32 → Int32 → Mem → Option ((UInt64) × Mem)) (a0 : Nat) (x6_1 : Int32) (x6_2 : Int32) (x6_3 : Int32) (σ : Mem) : Option ((UInt64) × Mem) :=
gI 4 4 σ (some a0) fun v1 =>
if v1 ≤ x6_3 then
if x6_1 ≤ 0 then
b_X4_meanNotes_80 0 σ
else
nm (FP.i2d x6_2) fun v2 =>
nm (FP.i2d x6_1) fun v3 =>
ddv v2 v3 fun v4 =>
b_X4_meanNotes_80 v4 σ
else
gR 4 3 σ (some a0) fun r5 =>
aR 1 σ r5 x6_3 fun r6 =>
gI 1 0 σ r6 fun v7 =>
if v7 = 2 then
gR 4 3 σ (some a0) fun r9 =>
aR 1 σ r9 x6_3 fun r10 =>
gI 1 1 σ r10 fun v11 =>
nm (x6_1 + v11) fun v12 =>
gR 4 3 σ (some a0) fun r13 =>
aR 1 σ r13 x6_3 fun r14 =>
gI 1 1 σ r14 fun v15 =>
gR 4 3 σ (some a0) fun r16 =>
aR 1 σ r16 x6_3 fun r17 =>
ob 1 σ r17 fun h20 => cl1 (f_X1_sumOfNotes h20 σ) fun v18 σ19 =>
nm (v15 * v18) fun v21 =>
nm (x6_2 + v21) fun v22 =>
b_X4_meanNotes_61 k6 a0 v12 v22 x6_3 σ19
else
b_X4_meanNotes_61 k6 a0 x6_1 x6_2 x6_3 σ

noncomputable def l_X4_meanNotes_6 (n : Nat) : Nat → Int32 → Int32 → Int32 → Mem → Option ((UInt64) × Mem) := itr (fun _ _ _ _ _ => none) (fun k => b_X4_meanNotes_6  k) n

noncomputable def b_X4_meanNotes_0 (a0 : Nat) (σ : Mem) : Option ((UInt64) × Mem) :=
l_X4_meanNotes_6 40 a0 0 0 0 σ

noncomputable def f_X4_meanNotes (a0 : Nat) (σ : Mem) : Option ((UInt64) × Mem) := b_X4_meanNotes_0 a0 σ
set_option maxRecDepth 100000 in
set_option maxHeartbeats 4000000 in
theorem t_X4_meanNotes_80 {C : Cxt} {G : Glb} (hC : CX C G RX4 cX4_meanNotes 4 (some .double) 4 0 0 80) (y80_0 : UInt64) (σ : Mem) : Wo C G 4 (QP C G rvD 0 0) (b_X4_meanNotes_80  y80_0 σ) σ 0 0 80 [] [.double y80_0] := by
  unfold b_X4_meanNotes_80
  exact e_D hC ⟨Nat.zero_le _, Nat.zero_le _⟩ dX4_meanNotes_80

set_option maxRecDepth 100000 in
set_option maxHeartbeats 4000000 in
theorem t_X4_meanNotes_61 {C : Cxt} {G : Glb} (hC : CX C G RX4 cX4_meanNotes 4 (some .double) 4 0 0 80) (k6 : Nat → Int32 → Int32 → Int32 → Mem → Option ((UInt64) × Mem)) (hk6 : ∀ (a0 : Nat) (x6_1 : Int32) (x6_2 : Int32) (x6_3 : Int32) (σ : Mem), Wo C G 4 (QP C G rvD 0 0) (k6 a0 x6_1 x6_2 x6_3 σ) σ 0 0 6 [(0, va_rf (some a0)), (1, .int x6_1), (2, .int x6_2), (3, .int x6_3)] []) (a0 : Nat) (x61_1 : Int32) (x61_2 : Int32) (x61_3 : Int32) (σ : Mem) : Wo C G 4 (QP C G rvD 0 0) (b_X4_meanNotes_61 k6 a0 x61_1 x61_2 x61_3 σ) σ 0 0 61 [(0, va_rf (some a0)), (1, .int x61_1), (2, .int x61_2), (3, .int x61_3)] [] := by
  unfold b_X4_meanNotes_61
  refine r_iinc hC 3 (fun w => [(3, .int w), (0, va_rf (some a0)), (1, .int x61_1), (2, .int x61_2)]) 1 rfl (by decide) rfl (fun w => rfl) dX4_meanNotes_61 (fun v8 => ?_)
  refine r_goto hC 6 dX4_meanNotes_64 (by decide) ?_
  refine Wo.sub [1, 2, 3, 0] rfl ?_
  exact hk6 a0 x61_1 x61_2 v8 σ

set_option maxRecDepth 100000 in
set_option maxHeartbeats 4000000 in
theorem t_X4_meanNotes_6 {C : Cxt} {G : Glb} (hC : CX C G RX4 cX4_meanNotes 4 (some .double) 4 0 0 80) (k6 : Nat → Int32 → Int32 → Int32 → Mem → Option ((UInt64) × Mem)) (hk6 : ∀ (a0 : Nat) (x6_1 : Int32) (x6_2 : Int32) (x6_3 : Int32) (σ : Mem), Wo C G 4 (QP C G rvD 0 0) (k6 a0 x6_1 x6_2 x6_3 σ) σ 0 0 6 [(0, va_rf (some a0)), (1, .int x6_1), (2, .int x6_2), (3, .int x6_3)] []) (a0 : Nat) (x6_1 : Int32) (x6_2 : Int32) (x6_3 : Int32) (σ : Mem) : Wo C G 4 (QP C G rvD 0 0) (b_X4_meanNotes_6 k6 a0 x6_1 x6_2 x6_3 σ) σ 0 0 6 [(0, va_rf (some a0)), (1, .int x6_1), (2, .int x6_2), (3, .int x6_3)] [] := by
  unfold b_X4_meanNotes_6
  refine r_iloadn hC 3 rfl rfl dX4_meanNotes_6 ?_
  refine r_aloadn hC 0 (r := (some a0)) rfl rfl dX4_meanNotes_7 ?_
  refine r_gI hC (k := 4) (r := (some a0)) cls_4 (by decide) rfl q_191 (Or.inl rfl) dX4_meanNotes_8 (fun v1 => ?_)
  refine r_icmp_ge hC 67 dX4_meanNotes_11 (by decide) ?_ ?_
  · refine r_iloadn hC 1 rfl rfl dX4_meanNotes_67 ?_
    refine r_if_le hC 79 dX4_meanNotes_68 (by decide) ?_ ?_
    · refine r_dconst0 hC dX4_meanNotes_79 ?_
      refine Wo.sub [] rfl ?_
      exact t_X4_meanNotes_80 hC 0 σ
    · refine r_iloadn hC 2 rfl rfl dX4_meanNotes_71 ?_
      refine r_i2d hC dX4_meanNotes_72 (fun v2 => ?_)
      refine r_iloadn hC 1 rfl rfl dX4_meanNotes_73 ?_
      refine r_i2d hC dX4_meanNotes_74 (fun v3 => ?_)
      refine r_ddiv hC dX4_meanNotes_75 (fun v4 => ?_)
      refine r_goto hC 80 dX4_meanNotes_76 (by decide) ?_
      refine Wo.sub [] rfl ?_
      exact t_X4_meanNotes_80 hC v4 σ
  · refine r_aloadn hC 0 (r := (some a0)) rfl rfl dX4_meanNotes_14 ?_
    refine r_gR hC (k := 3) (r := (some a0)) cls_4 (by decide) rfl q_190 (Or.inl rfl) dX4_meanNotes_15 (fun r5 => ?_)
    refine r_iloadn hC 3 rfl rfl dX4_meanNotes_18 ?_
    refine r_aR hC (t := 1) (r := r5) rfl rfl dX4_meanNotes_19 (fun r6 => ?_)
    refine r_gI hC (k := 0) (r := r6) cls_1 (by decide) rfl q_65 (Or.inl rfl) dX4_meanNotes_20 (fun v7 => ?_)
    refine r_iconst hC (2) rfl dX4_meanNotes_23 ?_
    refine r_icmp_ne hC 61 dX4_meanNotes_24 (by decide) ?_ ?_
    · exact t_X4_meanNotes_61 hC k6 hk6 a0 x6_1 x6_2 x6_3 σ
    · refine r_iloadn hC 1 rfl rfl dX4_meanNotes_27 ?_
      refine r_aloadn hC 0 (r := (some a0)) rfl rfl dX4_meanNotes_28 ?_
      refine r_gR hC (k := 3) (r := (some a0)) cls_4 (by decide) rfl q_190 (Or.inl rfl) dX4_meanNotes_29 (fun r9 => ?_)
      refine r_iloadn hC 3 rfl rfl dX4_meanNotes_32 ?_
      refine r_aR hC (t := 1) (r := r9) rfl rfl dX4_meanNotes_33 (fun r10 => ?_)
      refine r_gI hC (k := 1) (r := r10) cls_1 (by decide) rfl q_67 (Or.inl rfl) dX4_meanNotes_34 (fun v11 => ?_)
      refine r_iadd hC dX4_meanNotes_37 (fun v12 => ?_)
      refine r_istoren hC [(1, .int v12), (0, va_rf (some a0)), (2, .int x6_2), (3, .int x6_3)] (i := 1) rfl (by decide) rfl dX4_meanNotes_38 ?_
      refine r_iloadn hC 2 rfl rfl dX4_meanNotes_39 ?_
      refine r_aloadn hC 1 (r := (some a0)) rfl rfl dX4_meanNotes_40 ?_
      refine r_gR hC (k := 3) (r := (some a0)) cls_4 (by decide) rfl q_190 (Or.inl rfl) dX4_meanNotes_41 (fun r13 => ?_)
      refine r_iloadn hC 3 rfl rfl dX4_meanNotes_44 ?_
      refine r_aR hC (t := 1) (r := r13) rfl rfl dX4_meanNotes_45 (fun r14 => ?_)
      refine r_gI hC (k := 1) (r := r14) cls_1 (by decide) rfl q_67 (Or.inl rfl) dX4_meanNotes_46 (fun v15 => ?_)
      refine r_aloadn hC 1 (r := (some a0)) rfl rfl dX4_meanNotes_49 ?_
      refine r_gR hC (k := 3) (r := (some a0)) cls_4 (by decide) rfl q_190 (Or.inl rfl) dX4_meanNotes_50 (fun r16 => ?_)
      refine r_iloadn hC 3 rfl rfl dX4_meanNotes_53 ?_
      refine r_aR hC (t := 1) (r := r16) rfl rfl dX4_meanNotes_54 (fun r17 => ?_)
      refine call_V hC (av := []) (st := [.int v15, .int x6_2]) (r := r17) (ci := 1) rfl rfl (fun h9 => ct_X1_sumOfNotes hC.hl G h9 σ) q_410 q_411 q_412 q_14 q_413 yd_X1_sumOfNotes rfl ⟨Nat.le_of_ble_eq_true rfl, Nat.le_of_ble_eq_true rfl⟩ ⟨Nat.zero_le _, Nat.zero_le _⟩ rfl (by simp [cat_rf, cat_i, cat_j, cat_d, cat_a]) dX4_meanNotes_55 (fun v18 σ19 => ?_)
      show Wo _ _ _ _ _ _ _ _ _ _ [.int v18, .int v15, .int x6_2]
      refine r_imul hC dX4_meanNotes_58 (fun v21 => ?_)
      refine r_iadd hC dX4_meanNotes_59 (fun v22 => ?_)
      refine r_istoren hC [(2, .int v22), (1, .int v12), (0, va_rf (some a0)), (3, .int x6_3)] (i := 2) rfl (by decide) rfl dX4_meanNotes_60 ?_
      refine Wo.sub [2, 1, 0, 3] rfl ?_
      exact t_X4_meanNotes_61 hC k6 hk6 a0 v12 v22 x6_3 σ19

set_option maxRecDepth 100000 in
set_option maxHeartbeats 4000000 in
theorem u_X4_meanNotes_6 {C : Cxt} {G : Glb} (hC : CX C G RX4 cX4_meanNotes 4 (some .double) 4 0 0 80) : ∀ (n : Nat) (a0 : Nat) (x6_1 : Int32) (x6_2 : Int32) (x6_3 : Int32) (σ : Mem), Wo C G 4 (QP C G rvD 0 0) (l_X4_meanNotes_6  n a0 x6_1 x6_2 x6_3 σ) σ 0 0 6 [(0, va_rf (some a0)), (1, .int x6_1), (2, .int x6_2), (3, .int x6_3)] [] := by
  intro n
  induction n with
  | zero => intro a0 x6_1 x6_2 x6_3 σ; exact Wo.none
  | succ n ih => intro a0 x6_1 x6_2 x6_3 σ; exact t_X4_meanNotes_6 hC (l_X4_meanNotes_6  n) ih a0 x6_1 x6_2 x6_3 σ

set_option maxRecDepth 100000 in
set_option maxHeartbeats 4000000 in
theorem t_X4_meanNotes_0 {C : Cxt} {G : Glb} (hC : CX C G RX4 cX4_meanNotes 4 (some .double) 4 0 0 80) (a0 : Nat) (σ : Mem) : Wo C G 4 (QP C G rvD 0 0) (b_X4_meanNotes_0  a0 σ) σ 0 0 0 [(0, va_rf (some a0))] [] := by
  unfold b_X4_meanNotes_0
  refine r_iconst hC (0) rfl dX4_meanNotes_0 ?_
  refine r_istoren hC [(1, .int 0), (0, va_rf (some a0))] (i := 1) rfl (by decide) rfl dX4_meanNotes_1 ?_
  refine r_iconst hC (0) rfl dX4_meanNotes_2 ?_
  refine r_istoren hC [(2, .int 0), (1, .int 0), (0, va_rf (some a0))] (i := 2) rfl (by decide) rfl dX4_meanNotes_3 ?_
  refine r_iconst hC (0) rfl dX4_meanNotes_4 ?_
  refine r_istoren hC [(3, .int 0), (2, .int 0), (1, .int 0), (0, va_rf (some a0))] (i := 3) rfl (by decide) rfl dX4_meanNotes_5 ?_
  refine Wo.sub [3, 2, 1, 0] rfl ?_
  exact u_X4_meanNotes_6 hC 40 a0 0 0 0 σ

set_option maxRecDepth 100000 in
set_option maxHeartbeats 4000000 in
theorem ct_X4_meanNotes {l : Launch} (hl : l.stackTraces = false) (G : Glb) (a0 : Nat) (σ : Mem) : Ct rvD l yX4_meanNotes (Cond.code yX4_meanNotes cX4_meanNotes 4 (some .double) :: uW) { frames := 4, cells := 0, slots := 0, locals := 80 } 0 0 G [.ref a0] σ (f_X4_meanNotes a0 σ) := by
  refine Ct.of hl (by decide +kernel) (Nat.le_of_ble_eq_true rfl) (fun C hC hin => ?_)
  have e : lv_args 0 [.ref a0] = [(0, .ref a0)] := rfl
  rw [e]
  exact t_X4_meanNotes_0 hC a0 σ

noncomputable def b_X4_flushIn_60 (k31 : Int32 → Int32 → (Option Nat) → Int32 → Int32 → Mem → Option ((Int32) × Mem)) (x60_2 : Int32) (x60_3 : Int32) (x60_4 : (Option Nat)) (x60_5 : Int32) (x60_6 : Int32) (σ : Mem) : Option ((Int32) × Mem) :=
if x60_5 < 5 then
nm (x60_6 + 1) fun v10 =>
k31 x60_2 x60_3 x60_4 x60_5 v10 σ
else
some (x60_6, σ)

noncomputable def b_X4_flushIn_31 (k31 : Int32 → Int32 → (Option Nat) → Int32 → Int32 → Mem → Option ((Int32) × Mem)) (x31_2 : Int32) (x31_3 : Int32) (x31_4 : (Option Nat)) (x31_5 : Int32) (x31_6 : Int32) (σ : Mem) : Option ((Int32) × Mem) :=
if 30 < x31_6 then
some ((-1), σ)
else
gI 2 3 σ x31_4 fun v9 =>
if x31_6 ≤ v9 then
b_X4_flushIn_60 k31 x31_2 x31_3 x31_4 x31_5 x31_6 σ
else
ob 2 σ x31_4 fun h13 => cl1 (f_X2_sapOfDay h13 x31_2 x31_3 σ) fun v11 σ12 =>
nm (x31_5 + v11) fun v14 =>
b_X4_flushIn_60 k31 x31_2 x31_3 x31_4 v14 x31_6 σ12

noncomputable def l_X4_flushIn_31 (n : Nat) : Int32 → Int32 → (Option Nat) → Int32 → Int32 → Mem → Option ((Int32) × Mem) := itr (fun _ _ _ _ _ _ => none) (fun k => b_X4_flushIn_31  k) n

noncomputable def b_X4_flushIn_0 (a0 : Nat) (p0 : Int32) (p1 : Int32) (p2 : Int32) (σ : Mem) : Option ((Int32) × Mem) :=
ob 4 σ (some a0) fun h3 => cl1 (f_X4_sectionAt h3 p0 σ) fun r1 σ2 =>
cl1 (f_X4_requireArgument p1 0 6 σ2) fun u4 σ5 =>
cl1 (f_X4_requireArgument p2 0 6 σ5) fun u6 σ7 =>
gI 2 2 σ7 r1 fun v8 =>
l_X4_flushIn_31 40 p1 p2 r1 v8 1 σ7

noncomputable def f_X4_flushIn (a0 : Nat) (p0 : Int32) (p1 : Int32) (p2 : Int32) (σ : Mem) : Option ((Int32) × Mem) := b_X4_flushIn_0 a0 p0 p1 p2 σ
set_option maxRecDepth 100000 in
set_option maxHeartbeats 4000000 in
theorem t_X4_flushIn_60 {C : Cxt} {G : Glb} (hC : CX C G RX4 cX4_flushIn 7 (some .int) 2 0 0 42) (k31 : Int32 → Int32 → (Option Nat) → Int32 → Int32 → Mem → Option ((Int32) × Mem)) (hk31 : ∀ (x31_2 : Int32) (x31_3 : Int32) (x31_4 : (Option Nat)) (x31_5 : Int32) (x31_6 : Int32) (σ : Mem), Wo C G 7 (QP C G rvI 0 0) (k31 x31_2 x31_3 x31_4 x31_5 x31_6 σ) σ 0 0 31 [(2, .int x31_2), (3, .int x31_3), (4, va_rf x31_4), (5, .int x31_5), (6, .int x31_6)] []) (x60_2 : Int32) (x60_3 : Int32) (x60_4 : (Option Nat)) (x60_5 : Int32) (x60_6 : Int32) (σ : Mem) : Wo C G 7 (QP C G rvI 0 0) (b_X4_flushIn_60 k31 x60_2 x60_3 x60_4 x60_5 x60_6 σ) σ 0 0 60 [(2, .int x60_2), (3, .int x60_3), (4, va_rf x60_4), (5, .int x60_5), (6, .int x60_6)] [] := by
  unfold b_X4_flushIn_60
  refine r_iload hC 3 rfl dX4_flushIn_60 ?_
  refine r_iconst hC (5) rfl dX4_flushIn_62 ?_
  refine r_icmp_lt hC 69 dX4_flushIn_63 (by decide) ?_ ?_
  · refine r_iinc hC 4 (fun w => [(6, .int w), (2, .int x60_2), (3, .int x60_3), (4, va_rf x60_4), (5, .int x60_5)]) 1 rfl (by decide) rfl (fun w => rfl) dX4_flushIn_69 (fun v10 => ?_)
    refine r_goto hC 31 dX4_flushIn_72 (by decide) ?_
    refine Wo.sub [1, 2, 3, 4, 0] rfl ?_
    exact hk31 x60_2 x60_3 x60_4 x60_5 v10 σ
  · refine r_iload hC 4 rfl dX4_flushIn_66 ?_
    exact e_I hC ⟨Nat.zero_le _, Nat.zero_le _⟩ dX4_flushIn_68

set_option maxRecDepth 100000 in
set_option maxHeartbeats 4000000 in
theorem t_X4_flushIn_31 {C : Cxt} {G : Glb} (hC : CX C G RX4 cX4_flushIn 7 (some .int) 2 0 0 42) (k31 : Int32 → Int32 → (Option Nat) → Int32 → Int32 → Mem → Option ((Int32) × Mem)) (hk31 : ∀ (x31_2 : Int32) (x31_3 : Int32) (x31_4 : (Option Nat)) (x31_5 : Int32) (x31_6 : Int32) (σ : Mem), Wo C G 7 (QP C G rvI 0 0) (k31 x31_2 x31_3 x31_4 x31_5 x31_6 σ) σ 0 0 31 [(2, .int x31_2), (3, .int x31_3), (4, va_rf x31_4), (5, .int x31_5), (6, .int x31_6)] []) (x31_2 : Int32) (x31_3 : Int32) (x31_4 : (Option Nat)) (x31_5 : Int32) (x31_6 : Int32) (σ : Mem) : Wo C G 7 (QP C G rvI 0 0) (b_X4_flushIn_31 k31 x31_2 x31_3 x31_4 x31_5 x31_6 σ) σ 0 0 31 [(2, .int x31_2), (3, .int x31_3), (4, va_rf x31_4), (5, .int x31_5), (6, .int x31_6)] [] := by
  unfold b_X4_flushIn_31
  refine r_iload hC 4 rfl dX4_flushIn_31 ?_
  refine r_bipush hC (30) (by decide) dX4_flushIn_33 ?_
  refine r_icmp_gt hC 75 dX4_flushIn_35 (by decide) ?_ ?_
  · refine r_iconst hC (-1) rfl dX4_flushIn_75 ?_
    exact e_I hC ⟨Nat.zero_le _, Nat.zero_le _⟩ dX4_flushIn_76
  · refine r_iload hC 4 rfl dX4_flushIn_38 ?_
    refine r_aload hC 2 (r := x31_4) rfl dX4_flushIn_40 ?_
    refine r_gI hC (k := 3) (r := x31_4) cls_2 (by decide) rfl q_143 (Or.inl rfl) dX4_flushIn_42 (fun v9 => ?_)
    refine r_icmp_le hC 60 dX4_flushIn_45 (by decide) ?_ ?_
    · exact t_X4_flushIn_60 hC k31 hk31 x31_2 x31_3 x31_4 x31_5 x31_6 σ
    · refine r_iload hC 3 rfl dX4_flushIn_48 ?_
      refine r_aload hC 2 (r := x31_4) rfl dX4_flushIn_50 ?_
      refine r_iloadn hC 0 rfl rfl dX4_flushIn_52 ?_
      refine r_iloadn hC 1 rfl rfl dX4_flushIn_53 ?_
      refine call_V hC (av := [.int x31_2, .int x31_3]) (st := [.int x31_5]) (r := x31_4) (ci := 2) rfl rfl (fun h9 => ct_X2_sapOfDay hC.hl G h9 x31_2 x31_3 σ) q_444 q_445 q_446 q_16 q_447 yd_X2_sapOfDay rfl ⟨Nat.le_of_ble_eq_true rfl, Nat.le_of_ble_eq_true rfl⟩ ⟨Nat.zero_le _, Nat.zero_le _⟩ rfl (by simp [cat_rf, cat_i, cat_j, cat_d, cat_a]) dX4_flushIn_54 (fun v11 σ12 => ?_)
      show Wo _ _ _ _ _ _ _ _ _ _ [.int v11, .int x31_5]
      refine r_iadd hC dX4_flushIn_57 (fun v14 => ?_)
      refine r_istore hC [(5, .int v14), (2, .int x31_2), (3, .int x31_3), (4, va_rf x31_4), (6, .int x31_6)] (i := 5) (by decide) (by simp [List.filter, cat_rf, cat_i, cat_j, cat_d, cat_a]) dX4_flushIn_58 ?_
      refine Wo.sub [1, 2, 3, 0, 4] rfl ?_
      exact t_X4_flushIn_60 hC k31 hk31 x31_2 x31_3 x31_4 v14 x31_6 σ12

set_option maxRecDepth 100000 in
set_option maxHeartbeats 4000000 in
theorem u_X4_flushIn_31 {C : Cxt} {G : Glb} (hC : CX C G RX4 cX4_flushIn 7 (some .int) 2 0 0 42) : ∀ (n : Nat) (x31_2 : Int32) (x31_3 : Int32) (x31_4 : (Option Nat)) (x31_5 : Int32) (x31_6 : Int32) (σ : Mem), Wo C G 7 (QP C G rvI 0 0) (l_X4_flushIn_31  n x31_2 x31_3 x31_4 x31_5 x31_6 σ) σ 0 0 31 [(2, .int x31_2), (3, .int x31_3), (4, va_rf x31_4), (5, .int x31_5), (6, .int x31_6)] [] := by
  intro n
  induction n with
  | zero => intro x31_2 x31_3 x31_4 x31_5 x31_6 σ; exact Wo.none
  | succ n ih => intro x31_2 x31_3 x31_4 x31_5 x31_6 σ; exact t_X4_flushIn_31 hC (l_X4_flushIn_31  n) ih x31_2 x31_3 x31_4 x31_5 x31_6 σ

set_option maxRecDepth 100000 in
set_option maxHeartbeats 4000000 in
theorem t_X4_flushIn_0 {C : Cxt} {G : Glb} (hC : CX C G RX4 cX4_flushIn 7 (some .int) 2 0 0 42) (a0 : Nat) (p0 : Int32) (p1 : Int32) (p2 : Int32) (σ : Mem) : Wo C G 7 (QP C G rvI 0 0) (b_X4_flushIn_0  a0 p0 p1 p2 σ) σ 0 0 0 [(0, va_rf (some a0)), (1, .int p0), (2, .int p1), (3, .int p2)] [] := by
  unfold b_X4_flushIn_0
  refine r_aloadn hC 0 (r := (some a0)) rfl rfl dX4_flushIn_0 ?_
  refine r_iloadn hC 1 rfl rfl dX4_flushIn_1 ?_
  refine call_V hC (av := [.int p0]) (st := []) (r := (some a0)) (ci := 4) rfl rfl (fun h9 => ct_X4_sectionAt hC.hl G h9 p0 σ) q_316 q_318 q_1 q_13 q_319 yd_X4_sectionAt rfl ⟨Nat.le_of_ble_eq_true rfl, Nat.le_of_ble_eq_true rfl⟩ ⟨Nat.zero_le _, Nat.zero_le _⟩ rfl (Nat.le_of_ble_eq_true rfl) dX4_flushIn_2 (fun r1 σ2 => ?_)
  show Wo _ _ _ _ _ _ _ _ _ _ [va_rf r1]
  refine r_astore hC [(4, va_rf r1), (0, va_rf (some a0)), (1, .int p0), (2, .int p1), (3, .int p2)] (r := r1) (i := 4) (by decide) rfl dX4_flushIn_5 ?_
  refine r_iloadn hC 3 rfl rfl dX4_flushIn_7 ?_
  refine r_iconst hC (0) rfl dX4_flushIn_8 ?_
  refine r_bipush hC (6) (by decide) dX4_flushIn_9 ?_
  refine call_S hC (av := [.int p1, .int 0, .int 6]) (st := []) (ct_X4_requireArgument hC.hl G p1 0 6 σ2) q_228 q_229 q_13 q_230 yd_X4_requireArgument rfl ⟨Nat.le_of_ble_eq_true rfl, Nat.le_of_ble_eq_true rfl⟩ ⟨Nat.zero_le _, Nat.zero_le _⟩ rfl (Nat.le_of_ble_eq_true rfl) dX4_flushIn_11 (fun u4 σ5 => ?_)
  show Wo _ _ _ _ _ _ _ _ _ _ []
  refine r_iloadn hC 4 rfl rfl dX4_flushIn_14 ?_
  refine r_iconst hC (0) rfl dX4_flushIn_15 ?_
  refine r_bipush hC (6) (by decide) dX4_flushIn_16 ?_
  refine call_S hC (av := [.int p2, .int 0, .int 6]) (st := []) (ct_X4_requireArgument hC.hl G p2 0 6 σ5) q_228 q_229 q_13 q_230 yd_X4_requireArgument rfl ⟨Nat.le_of_ble_eq_true rfl, Nat.le_of_ble_eq_true rfl⟩ ⟨Nat.zero_le _, Nat.zero_le _⟩ rfl (Nat.le_of_ble_eq_true rfl) dX4_flushIn_18 (fun u6 σ7 => ?_)
  show Wo _ _ _ _ _ _ _ _ _ _ []
  refine r_aload hC 0 (r := r1) rfl dX4_flushIn_21 ?_
  refine r_gI hC (k := 2) (r := r1) cls_2 (by decide) rfl q_141 (Or.inl rfl) dX4_flushIn_23 (fun v8 => ?_)
  refine r_istore hC [(5, .int v8), (4, va_rf r1), (0, va_rf (some a0)), (1, .int p0), (2, .int p1), (3, .int p2)] (i := 5) (by decide) (by simp [List.filter, cat_rf, cat_i, cat_j, cat_d, cat_a]) dX4_flushIn_26 ?_
  refine r_iconst hC (1) rfl dX4_flushIn_28 ?_
  refine r_istore hC [(6, .int 1), (5, .int v8), (4, va_rf r1), (0, va_rf (some a0)), (1, .int p0), (2, .int p1), (3, .int p2)] (i := 6) (by decide) rfl dX4_flushIn_29 ?_
  refine Wo.sub [5, 6, 2, 1, 0] rfl ?_
  exact u_X4_flushIn_31 hC 40 p1 p2 r1 v8 1 σ7

set_option maxRecDepth 100000 in
set_option maxHeartbeats 4000000 in
theorem ct_X4_flushIn {l : Launch} (hl : l.stackTraces = false) (G : Glb) (a0 : Nat) (p0 : Int32) (p1 : Int32) (p2 : Int32) (σ : Mem) : Ct rvI l yX4_flushIn (Cond.code yX4_flushIn cX4_flushIn 7 (some .int) :: uW) { frames := 2, cells := 0, slots := 0, locals := 42 } 0 0 G [.ref a0, .int p0, .int p1, .int p2] σ (f_X4_flushIn a0 p0 p1 p2 σ) := by
  refine Ct.of hl (by decide +kernel) (Nat.le_of_ble_eq_true rfl) (fun C hC hin => ?_)
  have e : lv_args 0 [.ref a0, .int p0, .int p1, .int p2] = [(0, .ref a0), (1, .int p0), (2, .int p1), (3, .int p2)] := rfl
  rw [e]
  exact t_X4_flushIn_0 hC a0 p0 p1 p2 σ

noncomputable def b_X4_bestFire_106 (k30 : Nat → (Option Nat) → Int32 → Int32 → Int32 → Mem → Option ((Int32) × Mem)) (k47 : Nat → (Option Nat) → Int32 → Int32 → Int32 → Int32 → Mem → Option ((Int32) × Mem)) (a0 : Nat) (x106_2 : (Option Nat)) (x106_3 : Int32) (x106_4 : Int32) (x106_5 : Int32) (x106_6 : Int32) (σ : Mem) : Option ((Int32) × Mem) :=
nm (x106_6 + 1) fun v20 =>
k47 a0 x106_2 x106_3 x106_4 x106_5 v20 σ

noncomputable def b_X4_bestFire_84 (k30 : Nat → (Option Nat) → Int32 → Int32 → Int32 → Mem → Option ((Int32) × Mem)) (k47 : Nat → (Option Nat) → Int32 → Int32 → Int32 → Int32 → Mem → Option ((Int32) × Mem)) (a0 : Nat) (x84_2 : (Option Nat)) (x84_3 : Int32) (x84_4 : Int32) (x84_5 : Int32) (x84_6 : Int32) (y84_0 : Int32) (σ : Mem) : Option ((Int32) × Mem) :=
if y84_0 ≤ x84_4 then
b_X4_bestFire_106 k30 k47 a0 x84_2 x84_3 x84_4 x84_5 x84_6 σ
else
nm (100 * x84_5) fun v21 =>
nm (v21 + x84_6) fun v22 =>
b_X4_bestFire_106 k30 k47 a0 x84_2 v22 y84_0 x84_5 x84_6 σ

noncomputable def b_X4_bestFire_47 (k30 : Nat → (Option Nat) → Int32 → Int32 → Int32 → Mem → Option ((Int32) × Mem)) (k47 : Nat → (Option Nat) → Int32 → Int32 → Int32 → Int32 → Mem → Option ((Int32) × Mem)) (a0 : Nat) (x47_2 : (Option Nat)) (x47_3 : Int32) (x47_4 : Int32) (x47_5 : Int32) (x47_6 : Int32) (σ : Mem) : Option ((Int32) × Mem) :=
if 30 < x47_6 then
nm (x47_5 + 1) fun v11 =>
k30 a0 x47_2 x47_3 x47_4 v11 σ
else
gR 4 5 σ (some a0) fun r12 =>
ob 1 σ r12 fun h15 => cl1 (f_X1_heatMinute h15 x47_5 σ) fun u13 σ14 =>
gR 4 5 σ14 (some a0) fun r16 =>
ob 1 σ14 r16 fun h19 => cl1 (f_X1_isDried h19 σ14) fun v17 σ18 =>
if v17 = 0 then
b_X4_bestFire_84 k30 k47 a0 x47_2 x47_3 x47_4 x47_5 x47_6 (-1) σ18
else
gR 4 5 σ18 (some a0) fun r23 =>
ob 1 σ18 r23 fun h26 => cl1 (f_X1_sumOfNotes h26 σ18) fun v24 σ25 =>
b_X4_bestFire_84 k30 k47 a0 x47_2 x47_3 x47_4 x47_5 x47_6 v24 σ25

noncomputable def l_X4_bestFire_47 (k30 : Nat → (Option Nat) → Int32 → Int32 → Int32 → Mem → Option ((Int32) × Mem)) (n : Nat) : Nat → (Option Nat) → Int32 → Int32 → Int32 → Int32 → Mem → Option ((Int32) × Mem) := itr (fun _ _ _ _ _ _ _ => none) (fun k => b_X4_bestFire_47 k30 k) n

noncomputable def b_X4_bestFire_30 (k30 : Nat → (Option Nat) → Int32 → Int32 → Int32 → Mem → Option ((Int32) × Mem)) (a0 : Nat) (x30_2 : (Option Nat)) (x30_3 : Int32) (x30_4 : Int32) (x30_5 : Int32) (σ : Mem) : Option ((Int32) × Mem) :=
if 5 < x30_5 then
some (x30_3, σ)
else
gR 4 5 σ (some a0) fun r7 =>
ob 1 σ r7 fun h10 => cl1 (f_X1_copyLeaf h10 x30_2 σ) fun u8 σ9 =>
l_X4_bestFire_47 k30 40 a0 x30_2 x30_3 x30_4 x30_5 1 σ9

noncomputable def l_X4_bestFire_30 (n : Nat) : Nat → (Option Nat) → Int32 → Int32 → Int32 → Mem → Option ((Int32) × Mem) := itr (fun _ _ _ _ _ _ => none) (fun k => b_X4_bestFire_30  k) n

noncomputable def b_X4_bestFire_19 (a0 : Nat) (x19_2 : (Option Nat)) (y19_0 : Int32) (σ : Mem) : Option ((Int32) × Mem) :=
cl1 (f_X4_requireState y19_0 σ) fun u5 σ6 =>
l_X4_bestFire_30 40 a0 x19_2 (-1) (-1) 1 σ6

noncomputable def b_X4_bestFire_0 (a0 : Nat) (p0 : Int32) (σ : Mem) : Option ((Int32) × Mem) :=
ob 4 σ (some a0) fun h3 => cl1 (f_X4_lotAt h3 p0 σ) fun r1 σ2 =>
gI 1 0 σ2 r1 fun v4 =>
if v4 = 1 then
b_X4_bestFire_19 a0 r1 1 σ2
else
b_X4_bestFire_19 a0 r1 0 σ2

noncomputable def f_X4_bestFire (a0 : Nat) (p0 : Int32) (σ : Mem) : Option ((Int32) × Mem) := b_X4_bestFire_0 a0 p0 σ
set_option maxRecDepth 100000 in
set_option maxHeartbeats 4000000 in
theorem t_X4_bestFire_106 {C : Cxt} {G : Glb} (hC : CX C G RX4 cX4_bestFire 8 (some .int) 4 0 0 80) (k30 : Nat → (Option Nat) → Int32 → Int32 → Int32 → Mem → Option ((Int32) × Mem)) (hk30 : ∀ (a0 : Nat) (x30_2 : (Option Nat)) (x30_3 : Int32) (x30_4 : Int32) (x30_5 : Int32) (σ : Mem), Wo C G 8 (QP C G rvI 0 0) (k30 a0 x30_2 x30_3 x30_4 x30_5 σ) σ 0 0 30 [(0, va_rf (some a0)), (2, va_rf x30_2), (3, .int x30_3), (4, .int x30_4), (5, .int x30_5)] []) (k47 : Nat → (Option Nat) → Int32 → Int32 → Int32 → Int32 → Mem → Option ((Int32) × Mem)) (hk47 : ∀ (a0 : Nat) (x47_2 : (Option Nat)) (x47_3 : Int32) (x47_4 : Int32) (x47_5 : Int32) (x47_6 : Int32) (σ : Mem), Wo C G 8 (QP C G rvI 0 0) (k47 a0 x47_2 x47_3 x47_4 x47_5 x47_6 σ) σ 0 0 47 [(0, va_rf (some a0)), (2, va_rf x47_2), (3, .int x47_3), (4, .int x47_4), (5, .int x47_5), (6, .int x47_6)] []) (a0 : Nat) (x106_2 : (Option Nat)) (x106_3 : Int32) (x106_4 : Int32) (x106_5 : Int32) (x106_6 : Int32) (σ : Mem) : Wo C G 8 (QP C G rvI 0 0) (b_X4_bestFire_106 k30 k47 a0 x106_2 x106_3 x106_4 x106_5 x106_6 σ) σ 0 0 106 [(0, va_rf (some a0)), (2, va_rf x106_2), (3, .int x106_3), (4, .int x106_4), (5, .int x106_5), (6, .int x106_6)] [] := by
  unfold b_X4_bestFire_106
  refine r_iinc hC 5 (fun w => [(6, .int w), (0, va_rf (some a0)), (2, va_rf x106_2), (3, .int x106_3), (4, .int x106_4), (5, .int x106_5)]) 1 rfl (by decide) rfl (fun w => rfl) dX4_bestFire_106 (fun v20 => ?_)
  refine r_goto hC 47 dX4_bestFire_109 (by decide) ?_
  refine Wo.sub [1, 2, 3, 4, 5, 0] rfl ?_
  exact hk47 a0 x106_2 x106_3 x106_4 x106_5 v20 σ

set_option maxRecDepth 100000 in
set_option maxHeartbeats 4000000 in
theorem t_X4_bestFire_84 {C : Cxt} {G : Glb} (hC : CX C G RX4 cX4_bestFire 8 (some .int) 4 0 0 80) (k30 : Nat → (Option Nat) → Int32 → Int32 → Int32 → Mem → Option ((Int32) × Mem)) (hk30 : ∀ (a0 : Nat) (x30_2 : (Option Nat)) (x30_3 : Int32) (x30_4 : Int32) (x30_5 : Int32) (σ : Mem), Wo C G 8 (QP C G rvI 0 0) (k30 a0 x30_2 x30_3 x30_4 x30_5 σ) σ 0 0 30 [(0, va_rf (some a0)), (2, va_rf x30_2), (3, .int x30_3), (4, .int x30_4), (5, .int x30_5)] []) (k47 : Nat → (Option Nat) → Int32 → Int32 → Int32 → Int32 → Mem → Option ((Int32) × Mem)) (hk47 : ∀ (a0 : Nat) (x47_2 : (Option Nat)) (x47_3 : Int32) (x47_4 : Int32) (x47_5 : Int32) (x47_6 : Int32) (σ : Mem), Wo C G 8 (QP C G rvI 0 0) (k47 a0 x47_2 x47_3 x47_4 x47_5 x47_6 σ) σ 0 0 47 [(0, va_rf (some a0)), (2, va_rf x47_2), (3, .int x47_3), (4, .int x47_4), (5, .int x47_5), (6, .int x47_6)] []) (a0 : Nat) (x84_2 : (Option Nat)) (x84_3 : Int32) (x84_4 : Int32) (x84_5 : Int32) (x84_6 : Int32) (y84_0 : Int32) (σ : Mem) : Wo C G 8 (QP C G rvI 0 0) (b_X4_bestFire_84 k30 k47 a0 x84_2 x84_3 x84_4 x84_5 x84_6 y84_0 σ) σ 0 0 84 [(0, va_rf (some a0)), (2, va_rf x84_2), (3, .int x84_3), (4, .int x84_4), (5, .int x84_5), (6, .int x84_6)] [.int y84_0] := by
  unfold b_X4_bestFire_84
  refine r_istore hC [(7, .int y84_0), (0, va_rf (some a0)), (2, va_rf x84_2), (3, .int x84_3), (4, .int x84_4), (5, .int x84_5), (6, .int x84_6)] (i := 7) (by decide) rfl dX4_bestFire_84 ?_
  refine r_iload hC 0 rfl dX4_bestFire_86 ?_
  refine r_iload hC 4 rfl dX4_bestFire_88 ?_
  refine r_icmp_le hC 106 dX4_bestFire_90 (by decide) ?_ ?_
  · refine Wo.sub [1, 2, 3, 4, 5, 6] rfl ?_
    exact t_X4_bestFire_106 hC k30 hk30 k47 hk47 a0 x84_2 x84_3 x84_4 x84_5 x84_6 σ
  · refine r_iload hC 0 rfl dX4_bestFire_93 ?_
    refine r_istore hC [(4, .int y84_0), (7, .int y84_0), (0, va_rf (some a0)), (2, va_rf x84_2), (3, .int x84_3), (5, .int x84_5), (6, .int x84_6)] (i := 4) (by decide) rfl dX4_bestFire_95 ?_
    refine r_bipush hC (100) (by decide) dX4_bestFire_97 ?_
    refine r_iload hC 5 rfl dX4_bestFire_99 ?_
    refine r_imul hC dX4_bestFire_101 (fun v21 => ?_)
    refine r_iload hC 6 rfl dX4_bestFire_102 ?_
    refine r_iadd hC dX4_bestFire_104 (fun v22 => ?_)
    refine r_istoren hC [(3, .int v22), (4, .int y84_0), (7, .int y84_0), (0, va_rf (some a0)), (2, va_rf x84_2), (5, .int x84_5), (6, .int x84_6)] (i := 3) rfl (by decide) (by simp [List.filter, cat_rf, cat_i, cat_j, cat_d, cat_a]) dX4_bestFire_105 ?_
    refine Wo.sub [3, 4, 0, 1, 5, 6] rfl ?_
    exact t_X4_bestFire_106 hC k30 hk30 k47 hk47 a0 x84_2 v22 y84_0 x84_5 x84_6 σ

set_option maxRecDepth 100000 in
set_option maxHeartbeats 4000000 in
theorem t_X4_bestFire_47 {C : Cxt} {G : Glb} (hC : CX C G RX4 cX4_bestFire 8 (some .int) 4 0 0 80) (k30 : Nat → (Option Nat) → Int32 → Int32 → Int32 → Mem → Option ((Int32) × Mem)) (hk30 : ∀ (a0 : Nat) (x30_2 : (Option Nat)) (x30_3 : Int32) (x30_4 : Int32) (x30_5 : Int32) (σ : Mem), Wo C G 8 (QP C G rvI 0 0) (k30 a0 x30_2 x30_3 x30_4 x30_5 σ) σ 0 0 30 [(0, va_rf (some a0)), (2, va_rf x30_2), (3, .int x30_3), (4, .int x30_4), (5, .int x30_5)] []) (k47 : Nat → (Option Nat) → Int32 → Int32 → Int32 → Int32 → Mem → Option ((Int32) × Mem)) (hk47 : ∀ (a0 : Nat) (x47_2 : (Option Nat)) (x47_3 : Int32) (x47_4 : Int32) (x47_5 : Int32) (x47_6 : Int32) (σ : Mem), Wo C G 8 (QP C G rvI 0 0) (k47 a0 x47_2 x47_3 x47_4 x47_5 x47_6 σ) σ 0 0 47 [(0, va_rf (some a0)), (2, va_rf x47_2), (3, .int x47_3), (4, .int x47_4), (5, .int x47_5), (6, .int x47_6)] []) (a0 : Nat) (x47_2 : (Option Nat)) (x47_3 : Int32) (x47_4 : Int32) (x47_5 : Int32) (x47_6 : Int32) (σ : Mem) : Wo C G 8 (QP C G rvI 0 0) (b_X4_bestFire_47 k30 k47 a0 x47_2 x47_3 x47_4 x47_5 x47_6 σ) σ 0 0 47 [(0, va_rf (some a0)), (2, va_rf x47_2), (3, .int x47_3), (4, .int x47_4), (5, .int x47_5), (6, .int x47_6)] [] := by
  unfold b_X4_bestFire_47
  refine r_iload hC 5 rfl dX4_bestFire_47 ?_
  refine r_bipush hC (30) (by decide) dX4_bestFire_49 ?_
  refine r_icmp_gt hC 112 dX4_bestFire_51 (by decide) ?_ ?_
  · refine r_iinc hC 4 (fun w => [(5, .int w), (0, va_rf (some a0)), (2, va_rf x47_2), (3, .int x47_3), (4, .int x47_4), (6, .int x47_6)]) 1 rfl (by decide) rfl (fun w => rfl) dX4_bestFire_112 (fun v11 => ?_)
    refine r_goto hC 30 dX4_bestFire_115 (by decide) ?_
    refine Wo.sub [1, 2, 3, 4, 0] rfl ?_
    exact hk30 a0 x47_2 x47_3 x47_4 v11 σ
  · refine r_aloadn hC 0 (r := (some a0)) rfl rfl dX4_bestFire_54 ?_
    refine r_gR hC (k := 5) (r := (some a0)) cls_4 (by decide) rfl q_192 (Or.inl rfl) dX4_bestFire_55 (fun r12 => ?_)
    refine r_iload hC 4 rfl dX4_bestFire_58 ?_
    refine call_V hC (av := [.int x47_5]) (st := []) (r := r12) (ci := 1) rfl rfl (fun h9 => ct_X1_heatMinute hC.hl G h9 x47_5 σ) q_506 q_507 q_508 q_14 q_509 yd_X1_heatMinute rfl ⟨Nat.le_of_ble_eq_true rfl, Nat.le_of_ble_eq_true rfl⟩ ⟨Nat.zero_le _, Nat.zero_le _⟩ rfl (Nat.le_of_ble_eq_true rfl) dX4_bestFire_60 (fun u13 σ14 => ?_)
    show Wo _ _ _ _ _ _ _ _ _ _ []
    refine r_aloadn hC 0 (r := (some a0)) rfl rfl dX4_bestFire_63 ?_
    refine r_gR hC (k := 5) (r := (some a0)) cls_4 (by decide) rfl q_192 (Or.inl rfl) dX4_bestFire_64 (fun r16 => ?_)
    refine call_V hC (av := []) (st := []) (r := r16) (ci := 1) rfl rfl (fun h9 => ct_X1_isDried hC.hl G h9 σ14) q_515 q_511 q_512 q_14 q_513 yd_X1_isDried rfl ⟨Nat.le_of_ble_eq_true rfl, Nat.le_of_ble_eq_true rfl⟩ ⟨Nat.zero_le _, Nat.zero_le _⟩ rfl (Nat.le_of_ble_eq_true rfl) dX4_bestFire_67 (fun v17 σ18 => ?_)
    show Wo _ _ _ _ _ _ _ _ _ _ [.int v17]
    refine r_if_eq hC 83 dX4_bestFire_70 (by decide) ?_ ?_
    · refine r_iconst hC (-1) rfl dX4_bestFire_83 ?_
      exact t_X4_bestFire_84 hC k30 hk30 k47 hk47 a0 x47_2 x47_3 x47_4 x47_5 x47_6 (-1) σ18
    · refine r_aloadn hC 0 (r := (some a0)) rfl rfl dX4_bestFire_73 ?_
      refine r_gR hC (k := 5) (r := (some a0)) cls_4 (by decide) rfl q_192 (Or.inl rfl) dX4_bestFire_74 (fun r23 => ?_)
      refine call_V hC (av := []) (st := []) (r := r23) (ci := 1) rfl rfl (fun h9 => ct_X1_sumOfNotes hC.hl G h9 σ18) q_410 q_411 q_412 q_14 q_413 yd_X1_sumOfNotes rfl ⟨Nat.le_of_ble_eq_true rfl, Nat.le_of_ble_eq_true rfl⟩ ⟨Nat.zero_le _, Nat.zero_le _⟩ rfl (Nat.le_of_ble_eq_true rfl) dX4_bestFire_77 (fun v24 σ25 => ?_)
      show Wo _ _ _ _ _ _ _ _ _ _ [.int v24]
      refine r_goto hC 84 dX4_bestFire_80 (by decide) ?_
      exact t_X4_bestFire_84 hC k30 hk30 k47 hk47 a0 x47_2 x47_3 x47_4 x47_5 x47_6 v24 σ25

set_option maxRecDepth 100000 in
set_option maxHeartbeats 4000000 in
theorem u_X4_bestFire_47 {C : Cxt} {G : Glb} (hC : CX C G RX4 cX4_bestFire 8 (some .int) 4 0 0 80) (k30 : Nat → (Option Nat) → Int32 → Int32 → Int32 → Mem → Option ((Int32) × Mem)) (hk30 : ∀ (a0 : Nat) (x30_2 : (Option Nat)) (x30_3 : Int32) (x30_4 : Int32) (x30_5 : Int32) (σ : Mem), Wo C G 8 (QP C G rvI 0 0) (k30 a0 x30_2 x30_3 x30_4 x30_5 σ) σ 0 0 30 [(0, va_rf (some a0)), (2, va_rf x30_2), (3, .int x30_3), (4, .int x30_4), (5, .int x30_5)] []) : ∀ (n : Nat) (a0 : Nat) (x47_2 : (Option Nat)) (x47_3 : Int32) (x47_4 : Int32) (x47_5 : Int32) (x47_6 : Int32) (σ : Mem), Wo C G 8 (QP C G rvI 0 0) (l_X4_bestFire_47 k30 n a0 x47_2 x47_3 x47_4 x47_5 x47_6 σ) σ 0 0 47 [(0, va_rf (some a0)), (2, va_rf x47_2), (3, .int x47_3), (4, .int x47_4), (5, .int x47_5), (6, .int x47_6)] [] := by
  intro n
  induction n with
  | zero => intro a0 x47_2 x47_3 x47_4 x47_5 x47_6 σ; exact Wo.none
  | succ n ih => intro a0 x47_2 x47_3 x47_4 x47_5 x47_6 σ; exact t_X4_bestFire_47 hC k30 hk30 (l_X4_bestFire_47 k30 n) ih a0 x47_2 x47_3 x47_4 x47_5 x47_6 σ

set_option maxRecDepth 100000 in
set_option maxHeartbeats 4000000 in
theorem t_X4_bestFire_30 {C : Cxt} {G : Glb} (hC : CX C G RX4 cX4_bestFire 8 (some .int) 4 0 0 80) (k30 : Nat → (Option Nat) → Int32 → Int32 → Int32 → Mem → Option ((Int32) × Mem)) (hk30 : ∀ (a0 : Nat) (x30_2 : (Option Nat)) (x30_3 : Int32) (x30_4 : Int32) (x30_5 : Int32) (σ : Mem), Wo C G 8 (QP C G rvI 0 0) (k30 a0 x30_2 x30_3 x30_4 x30_5 σ) σ 0 0 30 [(0, va_rf (some a0)), (2, va_rf x30_2), (3, .int x30_3), (4, .int x30_4), (5, .int x30_5)] []) (a0 : Nat) (x30_2 : (Option Nat)) (x30_3 : Int32) (x30_4 : Int32) (x30_5 : Int32) (σ : Mem) : Wo C G 8 (QP C G rvI 0 0) (b_X4_bestFire_30 k30 a0 x30_2 x30_3 x30_4 x30_5 σ) σ 0 0 30 [(0, va_rf (some a0)), (2, va_rf x30_2), (3, .int x30_3), (4, .int x30_4), (5, .int x30_5)] [] := by
  unfold b_X4_bestFire_30
  refine r_iload hC 4 rfl dX4_bestFire_30 ?_
  refine r_iconst hC (5) rfl dX4_bestFire_32 ?_
  refine r_icmp_gt hC 118 dX4_bestFire_33 (by decide) ?_ ?_
  · refine r_iloadn hC 2 rfl rfl dX4_bestFire_118 ?_
    exact e_I hC ⟨Nat.zero_le _, Nat.zero_le _⟩ dX4_bestFire_119
  · refine r_aloadn hC 0 (r := (some a0)) rfl rfl dX4_bestFire_36 ?_
    refine r_gR hC (k := 5) (r := (some a0)) cls_4 (by decide) rfl q_192 (Or.inl rfl) dX4_bestFire_37 (fun r7 => ?_)
    refine r_aloadn hC 1 (r := x30_2) rfl rfl dX4_bestFire_40 ?_
    refine call_V hC (av := [va_rf x30_2]) (st := []) (r := r7) (ci := 1) rfl rfl (fun h9 => ct_X1_copyLeaf hC.hl G h9 x30_2 σ) q_502 q_503 q_504 q_14 q_505 yd_X1_copyLeaf rfl ⟨Nat.le_of_ble_eq_true rfl, Nat.le_of_ble_eq_true rfl⟩ ⟨Nat.zero_le _, Nat.zero_le _⟩ rfl (Nat.le_of_ble_eq_true rfl) dX4_bestFire_41 (fun u8 σ9 => ?_)
    show Wo _ _ _ _ _ _ _ _ _ _ []
    refine r_iconst hC (1) rfl dX4_bestFire_44 ?_
    refine r_istore hC [(6, .int 1), (0, va_rf (some a0)), (2, va_rf x30_2), (3, .int x30_3), (4, .int x30_4), (5, .int x30_5)] (i := 6) (by decide) rfl dX4_bestFire_45 ?_
    refine Wo.sub [1, 2, 3, 4, 5, 0] rfl ?_
    exact u_X4_bestFire_47 hC k30 hk30 40 a0 x30_2 x30_3 x30_4 x30_5 1 σ9

set_option maxRecDepth 100000 in
set_option maxHeartbeats 4000000 in
theorem u_X4_bestFire_30 {C : Cxt} {G : Glb} (hC : CX C G RX4 cX4_bestFire 8 (some .int) 4 0 0 80) : ∀ (n : Nat) (a0 : Nat) (x30_2 : (Option Nat)) (x30_3 : Int32) (x30_4 : Int32) (x30_5 : Int32) (σ : Mem), Wo C G 8 (QP C G rvI 0 0) (l_X4_bestFire_30  n a0 x30_2 x30_3 x30_4 x30_5 σ) σ 0 0 30 [(0, va_rf (some a0)), (2, va_rf x30_2), (3, .int x30_3), (4, .int x30_4), (5, .int x30_5)] [] := by
  intro n
  induction n with
  | zero => intro a0 x30_2 x30_3 x30_4 x30_5 σ; exact Wo.none
  | succ n ih => intro a0 x30_2 x30_3 x30_4 x30_5 σ; exact t_X4_bestFire_30 hC (l_X4_bestFire_30  n) ih a0 x30_2 x30_3 x30_4 x30_5 σ

set_option maxRecDepth 100000 in
set_option maxHeartbeats 4000000 in
theorem t_X4_bestFire_19 {C : Cxt} {G : Glb} (hC : CX C G RX4 cX4_bestFire 8 (some .int) 4 0 0 80) (a0 : Nat) (x19_2 : (Option Nat)) (y19_0 : Int32) (σ : Mem) : Wo C G 8 (QP C G rvI 0 0) (b_X4_bestFire_19  a0 x19_2 y19_0 σ) σ 0 0 19 [(0, va_rf (some a0)), (2, va_rf x19_2)] [.int y19_0] := by
  unfold b_X4_bestFire_19
  refine call_S hC (av := [.int y19_0]) (st := []) (ct_X4_requireState hC.hl G y19_0 σ) q_294 q_295 q_13 q_296 yd_X4_requireState rfl ⟨Nat.le_of_ble_eq_true rfl, Nat.le_of_ble_eq_true rfl⟩ ⟨Nat.zero_le _, Nat.zero_le _⟩ rfl (Nat.le_of_ble_eq_true rfl) dX4_bestFire_19 (fun u5 σ6 => ?_)
  show Wo _ _ _ _ _ _ _ _ _ _ []
  refine r_iconst hC (-1) rfl dX4_bestFire_22 ?_
  refine r_istoren hC [(3, .int (-1)), (0, va_rf (some a0)), (2, va_rf x19_2)] (i := 3) rfl (by decide) (by simp [List.filter, cat_rf, cat_i, cat_j, cat_d, cat_a]) dX4_bestFire_23 ?_
  refine r_iconst hC (-1) rfl dX4_bestFire_24 ?_
  refine r_istore hC [(4, .int (-1)), (3, .int (-1)), (0, va_rf (some a0)), (2, va_rf x19_2)] (i := 4) (by decide) rfl dX4_bestFire_25 ?_
  refine r_iconst hC (1) rfl dX4_bestFire_27 ?_
  refine r_istore hC [(5, .int 1), (4, .int (-1)), (3, .int (-1)), (0, va_rf (some a0)), (2, va_rf x19_2)] (i := 5) (by decide) rfl dX4_bestFire_28 ?_
  refine Wo.sub [3, 4, 2, 1, 0] rfl ?_
  exact u_X4_bestFire_30 hC 40 a0 x19_2 (-1) (-1) 1 σ6

set_option maxRecDepth 100000 in
set_option maxHeartbeats 4000000 in
theorem t_X4_bestFire_0 {C : Cxt} {G : Glb} (hC : CX C G RX4 cX4_bestFire 8 (some .int) 4 0 0 80) (a0 : Nat) (p0 : Int32) (σ : Mem) : Wo C G 8 (QP C G rvI 0 0) (b_X4_bestFire_0  a0 p0 σ) σ 0 0 0 [(0, va_rf (some a0)), (1, .int p0)] [] := by
  unfold b_X4_bestFire_0
  refine r_aloadn hC 0 (r := (some a0)) rfl rfl dX4_bestFire_0 ?_
  refine r_iloadn hC 1 rfl rfl dX4_bestFire_1 ?_
  refine call_V hC (av := [.int p0]) (st := []) (r := (some a0)) (ci := 4) rfl rfl (fun h9 => ct_X4_lotAt hC.hl G h9 p0 σ) q_357 q_359 q_3 q_13 q_360 yd_X4_lotAt rfl ⟨Nat.le_of_ble_eq_true rfl, Nat.le_of_ble_eq_true rfl⟩ ⟨Nat.zero_le _, Nat.zero_le _⟩ rfl (Nat.le_of_ble_eq_true rfl) dX4_bestFire_2 (fun r1 σ2 => ?_)
  show Wo _ _ _ _ _ _ _ _ _ _ [va_rf r1]
  refine r_astoren hC [(2, va_rf r1), (0, va_rf (some a0)), (1, .int p0)] (r := r1) (i := 2) rfl (by decide) rfl dX4_bestFire_5 ?_
  refine r_aloadn hC 0 (r := r1) rfl rfl dX4_bestFire_6 ?_
  refine r_gI hC (k := 0) (r := r1) cls_1 (by decide) rfl q_65 (Or.inl rfl) dX4_bestFire_7 (fun v4 => ?_)
  refine r_iconst hC (1) rfl dX4_bestFire_10 ?_
  refine r_icmp_ne hC 18 dX4_bestFire_11 (by decide) ?_ ?_
  · refine r_iconst hC (0) rfl dX4_bestFire_18 ?_
    refine Wo.sub [1, 0] rfl ?_
    exact t_X4_bestFire_19 hC a0 r1 0 σ2
  · refine r_iconst hC (1) rfl dX4_bestFire_14 ?_
    refine r_goto hC 19 dX4_bestFire_15 (by decide) ?_
    refine Wo.sub [1, 0] rfl ?_
    exact t_X4_bestFire_19 hC a0 r1 1 σ2

set_option maxRecDepth 100000 in
set_option maxHeartbeats 4000000 in
theorem ct_X4_bestFire {l : Launch} (hl : l.stackTraces = false) (G : Glb) (a0 : Nat) (p0 : Int32) (σ : Mem) : Ct rvI l yX4_bestFire (Cond.code yX4_bestFire cX4_bestFire 8 (some .int) :: uW) { frames := 4, cells := 0, slots := 0, locals := 80 } 0 0 G [.ref a0, .int p0] σ (f_X4_bestFire a0 p0 σ) := by
  refine Ct.of hl (by decide +kernel) (Nat.le_of_ble_eq_true rfl) (fun C hC hin => ?_)
  have e : lv_args 0 [.ref a0, .int p0] = [(0, .ref a0), (1, .int p0)] := rfl
  rw [e]
  exact t_X4_bestFire_0 hC a0 p0 σ

noncomputable def b_X4_leastMix_162 (k50 : Int32 → Int32 → Int32 → Int32 → Int32 → Int32 → Int32 → Int32 → Int32 → Int32 → Int32 → Int32 → Mem → Option ((Int32) × Mem)) (x162_0 : Int32) (x162_3 : Int32) (x162_4 : Int32) (x162_5 : Int32) (x162_6 : Int32) (x162_7 : Int32) (x162_8 : Int32) (x162_9 : Int32) (x162_10 : Int32) (x162_11 : Int32) (x162_12 : Int32) (x162_13 : Int32) (σ : Mem) : Option ((Int32) × Mem) :=
nm (x162_13 + 1) fun v32 =>
k50 x162_0 x162_3 x162_4 x162_5 x162_6 x162_7 x162_8 x162_9 x162_10 x162_11 x162_12 v32 σ

noncomputable def b_X4_leastMix_50 (k50 : Int32 → Int32 → Int32 → Int32 → Int32 → Int32 → Int32 → Int32 → Int32 → Int32 → Int32 → Int32 → Mem → Option ((Int32) × Mem)) (x50_0 : Int32) (x50_3 : Int32) (x50_4 : Int32) (x50_5 : Int32) (x50_6 : Int32) (x50_7 : Int32) (x50_8 : Int32) (x50_9 : Int32) (x50_10 : Int32) (x50_11 : Int32) (x50_12 : Int32) (x50_13 : Int32) (σ : Mem) : Option ((Int32) × Mem) :=
if 9 < x50_13 then
some (x50_12, σ)
else
nm (x50_13 * x50_6) fun v19 =>
nm (10 - x50_13) fun v20 =>
nm (v20 * x50_9) fun v21 =>
nm (v19 + v21) fun v22 =>
nm (x50_13 * x50_7) fun v23 =>
nm (10 - x50_13) fun v24 =>
nm (v24 * x50_10) fun v25 =>
nm (v23 + v25) fun v26 =>
nm (x50_13 * x50_8) fun v27 =>
nm (10 - x50_13) fun v28 =>
nm (v28 * x50_11) fun v29 =>
nm (v27 + v29) fun v30 =>
dv v22 10 fun v31 =>
if v31 < x50_3 then
b_X4_leastMix_162 k50 x50_0 x50_3 x50_4 x50_5 x50_6 x50_7 x50_8 x50_9 x50_10 x50_11 x50_12 x50_13 σ
else
dv v26 10 fun v33 =>
if v33 < x50_4 then
b_X4_leastMix_162 k50 x50_0 x50_3 x50_4 x50_5 x50_6 x50_7 x50_8 x50_9 x50_10 x50_11 x50_12 x50_13 σ
else
dv v30 10 fun v34 =>
if v34 < x50_5 then
b_X4_leastMix_162 k50 x50_0 x50_3 x50_4 x50_5 x50_6 x50_7 x50_8 x50_9 x50_10 x50_11 x50_12 x50_13 σ
else
nm (v22 + v26) fun v35 =>
nm (v35 + v30) fun v36 =>
nm (v36 * 100000) fun v37 =>
nm (v37 + x50_0) fun v38 =>
nm (v38 + x50_13) fun v39 =>
nm (if v39 < x50_12 then v39 else x50_12) fun v40 =>
b_X4_leastMix_162 k50 x50_0 x50_3 x50_4 x50_5 x50_6 x50_7 x50_8 x50_9 x50_10 x50_11 v40 x50_13 σ

noncomputable def l_X4_leastMix_50 (n : Nat) : Int32 → Int32 → Int32 → Int32 → Int32 → Int32 → Int32 → Int32 → Int32 → Int32 → Int32 → Int32 → Mem → Option ((Int32) × Mem) := itr (fun _ _ _ _ _ _ _ _ _ _ _ _ _ => none) (fun k => b_X4_leastMix_50  k) n

noncomputable def b_X4_leastMix_0 (p0 : Int32) (p1 : (Option Nat)) (p2 : (Option Nat)) (p3 : Int32) (p4 : Int32) (p5 : Int32) (σ : Mem) : Option ((Int32) × Mem) :=
ob 1 σ p1 fun h3 => cl1 (f_X1_noteOf h3 0 σ) fun v1 σ2 =>
ob 1 σ2 p1 fun h6 => cl1 (f_X1_noteOf h6 1 σ2) fun v4 σ5 =>
ob 1 σ5 p1 fun h9 => cl1 (f_X1_noteOf h9 2 σ5) fun v7 σ8 =>
ob 1 σ8 p2 fun h12 => cl1 (f_X1_noteOf h12 0 σ8) fun v10 σ11 =>
ob 1 σ11 p2 fun h15 => cl1 (f_X1_noteOf h15 1 σ11) fun v13 σ14 =>
ob 1 σ14 p2 fun h18 => cl1 (f_X1_noteOf h18 2 σ14) fun v16 σ17 =>
l_X4_leastMix_50 40 p0 p3 p4 p5 v1 v4 v7 v10 v13 v16 100000000 1 σ17

noncomputable def f_X4_leastMix (p0 : Int32) (p1 : (Option Nat)) (p2 : (Option Nat)) (p3 : Int32) (p4 : Int32) (p5 : Int32) (σ : Mem) : Option ((Int32) × Mem) := b_X4_leastMix_0 p0 p1 p2 p3 p4 p5 σ
set_option maxRecDepth 100000 in
set_option maxHeartbeats 4000000 in
theorem t_X4_leastMix_162 {C : Cxt} {G : Glb} (hC : CX C G RX4 cX4_leastMix 18 (some .int) 3 0 0 58) (k50 : Int32 → Int32 → Int32 → Int32 → Int32 → Int32 → Int32 → Int32 → Int32 → Int32 → Int32 → Int32 → Mem → Option ((Int32) × Mem)) (hk50 : ∀ (x50_0 : Int32) (x50_3 : Int32) (x50_4 : Int32) (x50_5 : Int32) (x50_6 : Int32) (x50_7 : Int32) (x50_8 : Int32) (x50_9 : Int32) (x50_10 : Int32) (x50_11 : Int32) (x50_12 : Int32) (x50_13 : Int32) (σ : Mem), Wo C G 18 (QP C G rvI 0 0) (k50 x50_0 x50_3 x50_4 x50_5 x50_6 x50_7 x50_8 x50_9 x50_10 x50_11 x50_12 x50_13 σ) σ 0 0 50 [(0, .int x50_0), (3, .int x50_3), (4, .int x50_4), (5, .int x50_5), (6, .int x50_6), (7, .int x50_7), (8, .int x50_8), (9, .int x50_9), (10, .int x50_10), (11, .int x50_11), (12, .int x50_12), (13, .int x50_13)] []) (x162_0 : Int32) (x162_3 : Int32) (x162_4 : Int32) (x162_5 : Int32) (x162_6 : Int32) (x162_7 : Int32) (x162_8 : Int32) (x162_9 : Int32) (x162_10 : Int32) (x162_11 : Int32) (x162_12 : Int32) (x162_13 : Int32) (σ : Mem) : Wo C G 18 (QP C G rvI 0 0) (b_X4_leastMix_162 k50 x162_0 x162_3 x162_4 x162_5 x162_6 x162_7 x162_8 x162_9 x162_10 x162_11 x162_12 x162_13 σ) σ 0 0 162 [(0, .int x162_0), (3, .int x162_3), (4, .int x162_4), (5, .int x162_5), (6, .int x162_6), (7, .int x162_7), (8, .int x162_8), (9, .int x162_9), (10, .int x162_10), (11, .int x162_11), (12, .int x162_12), (13, .int x162_13)] [] := by
  unfold b_X4_leastMix_162
  refine r_iinc hC 11 (fun w => [(13, .int w), (0, .int x162_0), (3, .int x162_3), (4, .int x162_4), (5, .int x162_5), (6, .int x162_6), (7, .int x162_7), (8, .int x162_8), (9, .int x162_9), (10, .int x162_10), (11, .int x162_11), (12, .int x162_12)]) 1 rfl (by decide) rfl (fun w => rfl) dX4_leastMix_162 (fun v32 => ?_)
  refine r_goto hC 50 dX4_leastMix_165 (by decide) ?_
  refine Wo.sub [1, 2, 3, 4, 5, 6, 7, 8, 9, 10, 11, 0] rfl ?_
  exact hk50 x162_0 x162_3 x162_4 x162_5 x162_6 x162_7 x162_8 x162_9 x162_10 x162_11 x162_12 v32 σ

set_option maxRecDepth 100000 in
set_option maxHeartbeats 4000000 in
theorem t_X4_leastMix_50 {C : Cxt} {G : Glb} (hC : CX C G RX4 cX4_leastMix 18 (some .int) 3 0 0 58) (k50 : Int32 → Int32 → Int32 → Int32 → Int32 → Int32 → Int32 → Int32 → Int32 → Int32 → Int32 → Int32 → Mem → Option ((Int32) × Mem)) (hk50 : ∀ (x50_0 : Int32) (x50_3 : Int32) (x50_4 : Int32) (x50_5 : Int32) (x50_6 : Int32) (x50_7 : Int32) (x50_8 : Int32) (x50_9 : Int32) (x50_10 : Int32) (x50_11 : Int32) (x50_12 : Int32) (x50_13 : Int32) (σ : Mem), Wo C G 18 (QP C G rvI 0 0) (k50 x50_0 x50_3 x50_4 x50_5 x50_6 x50_7 x50_8 x50_9 x50_10 x50_11 x50_12 x50_13 σ) σ 0 0 50 [(0, .int x50_0), (3, .int x50_3), (4, .int x50_4), (5, .int x50_5), (6, .int x50_6), (7, .int x50_7), (8, .int x50_8), (9, .int x50_9), (10, .int x50_10), (11, .int x50_11), (12, .int x50_12), (13, .int x50_13)] []) (x50_0 : Int32) (x50_3 : Int32) (x50_4 : Int32) (x50_5 : Int32) (x50_6 : Int32) (x50_7 : Int32) (x50_8 : Int32) (x50_9 : Int32) (x50_10 : Int32) (x50_11 : Int32) (x50_12 : Int32) (x50_13 : Int32) (σ : Mem) : Wo C G 18 (QP C G rvI 0 0) (b_X4_leastMix_50 k50 x50_0 x50_3 x50_4 x50_5 x50_6 x50_7 x50_8 x50_9 x50_10 x50_11 x50_12 x50_13 σ) σ 0 0 50 [(0, .int x50_0), (3, .int x50_3), (4, .int x50_4), (5, .int x50_5), (6, .int x50_6), (7, .int x50_7), (8, .int x50_8), (9, .int x50_9), (10, .int x50_10), (11, .int x50_11), (12, .int x50_12), (13, .int x50_13)] [] := by
  unfold b_X4_leastMix_50
  refine r_iload hC 11 rfl dX4_leastMix_50 ?_
  refine r_bipush hC (9) (by decide) dX4_leastMix_52 ?_
  refine r_icmp_gt hC 168 dX4_leastMix_54 (by decide) ?_ ?_
  · refine r_iload hC 10 rfl dX4_leastMix_168 ?_
    exact e_I hC ⟨Nat.zero_le _, Nat.zero_le _⟩ dX4_leastMix_170
  · refine r_iload hC 11 rfl dX4_leastMix_57 ?_
    refine r_iload hC 4 rfl dX4_leastMix_59 ?_
    refine r_imul hC dX4_leastMix_61 (fun v19 => ?_)
    refine r_bipush hC (10) (by decide) dX4_leastMix_62 ?_
    refine r_iload hC 11 rfl dX4_leastMix_64 ?_
    refine r_isub hC dX4_leastMix_66 (fun v20 => ?_)
    refine r_iload hC 7 rfl dX4_leastMix_67 ?_
    refine r_imul hC dX4_leastMix_69 (fun v21 => ?_)
    refine r_iadd hC dX4_leastMix_70 (fun v22 => ?_)
    refine r_istore hC [(14, .int v22), (0, .int x50_0), (3, .int x50_3), (4, .int x50_4), (5, .int x50_5), (6, .int x50_6), (7, .int x50_7), (8, .int x50_8), (9, .int x50_9), (10, .int x50_10), (11, .int x50_11), (12, .int x50_12), (13, .int x50_13)] (i := 14) (by decide) rfl dX4_leastMix_71 ?_
    refine r_iload hC 12 rfl dX4_leastMix_73 ?_
    refine r_iload hC 6 rfl dX4_leastMix_75 ?_
    refine r_imul hC dX4_leastMix_77 (fun v23 => ?_)
    refine r_bipush hC (10) (by decide) dX4_leastMix_78 ?_
    refine r_iload hC 12 rfl dX4_leastMix_80 ?_
    refine r_isub hC dX4_leastMix_82 (fun v24 => ?_)
    refine r_iload hC 9 rfl dX4_leastMix_83 ?_
    refine r_imul hC dX4_leastMix_85 (fun v25 => ?_)
    refine r_iadd hC dX4_leastMix_86 (fun v26 => ?_)
    refine r_istore hC [(15, .int v26), (14, .int v22), (0, .int x50_0), (3, .int x50_3), (4, .int x50_4), (5, .int x50_5), (6, .int x50_6), (7, .int x50_7), (8, .int x50_8), (9, .int x50_9), (10, .int x50_10), (11, .int x50_11), (12, .int x50_12), (13, .int x50_13)] (i := 15) (by decide) rfl dX4_leastMix_87 ?_
    refine r_iload hC 13 rfl dX4_leastMix_89 ?_
    refine r_iload hC 8 rfl dX4_leastMix_91 ?_
    refine r_imul hC dX4_leastMix_93 (fun v27 => ?_)
    refine r_bipush hC (10) (by decide) dX4_leastMix_94 ?_
    refine r_iload hC 13 rfl dX4_leastMix_96 ?_
    refine r_isub hC dX4_leastMix_98 (fun v28 => ?_)
    refine r_iload hC 11 rfl dX4_leastMix_99 ?_
    refine r_imul hC dX4_leastMix_101 (fun v29 => ?_)
    refine r_iadd hC dX4_leastMix_102 (fun v30 => ?_)
    refine r_istore hC [(16, .int v30), (15, .int v26), (14, .int v22), (0, .int x50_0), (3, .int x50_3), (4, .int x50_4), (5, .int x50_5), (6, .int x50_6), (7, .int x50_7), (8, .int x50_8), (9, .int x50_9), (10, .int x50_10), (11, .int x50_11), (12, .int x50_12), (13, .int x50_13)] (i := 16) (by decide) rfl dX4_leastMix_103 ?_
    refine r_iload hC 2 rfl dX4_leastMix_105 ?_
    refine r_bipush hC (10) (by decide) dX4_leastMix_107 ?_
    refine r_idiv hC dX4_leastMix_109 (fun v31 => ?_)
    refine r_iloadn hC 4 rfl rfl dX4_leastMix_110 ?_
    refine r_icmp_lt hC 162 dX4_leastMix_111 (by decide) ?_ ?_
    · refine Wo.sub [3, 4, 5, 6, 7, 8, 9, 10, 11, 12, 13, 14] rfl ?_
      exact t_X4_leastMix_162 hC k50 hk50 x50_0 x50_3 x50_4 x50_5 x50_6 x50_7 x50_8 x50_9 x50_10 x50_11 x50_12 x50_13 σ
    · refine r_iload hC 1 rfl dX4_leastMix_114 ?_
      refine r_bipush hC (10) (by decide) dX4_leastMix_116 ?_
      refine r_idiv hC dX4_leastMix_118 (fun v33 => ?_)
      refine r_iload hC 5 rfl dX4_leastMix_119 ?_
      refine r_icmp_lt hC 162 dX4_leastMix_121 (by decide) ?_ ?_
      · refine Wo.sub [3, 4, 5, 6, 7, 8, 9, 10, 11, 12, 13, 14] rfl ?_
        exact t_X4_leastMix_162 hC k50 hk50 x50_0 x50_3 x50_4 x50_5 x50_6 x50_7 x50_8 x50_9 x50_10 x50_11 x50_12 x50_13 σ
      · refine r_iload hC 0 rfl dX4_leastMix_124 ?_
        refine r_bipush hC (10) (by decide) dX4_leastMix_126 ?_
        refine r_idiv hC dX4_leastMix_128 (fun v34 => ?_)
        refine r_iload hC 6 rfl dX4_leastMix_129 ?_
        refine r_icmp_lt hC 162 dX4_leastMix_131 (by decide) ?_ ?_
        · refine Wo.sub [3, 4, 5, 6, 7, 8, 9, 10, 11, 12, 13, 14] rfl ?_
          exact t_X4_leastMix_162 hC k50 hk50 x50_0 x50_3 x50_4 x50_5 x50_6 x50_7 x50_8 x50_9 x50_10 x50_11 x50_12 x50_13 σ
        · refine r_iload hC 2 rfl dX4_leastMix_134 ?_
          refine r_iload hC 1 rfl dX4_leastMix_136 ?_
          refine r_iadd hC dX4_leastMix_138 (fun v35 => ?_)
          refine r_iload hC 0 rfl dX4_leastMix_139 ?_
          refine r_iadd hC dX4_leastMix_141 (fun v36 => ?_)
          refine r_istore hC [(17, .int v36), (16, .int v30), (15, .int v26), (14, .int v22), (0, .int x50_0), (3, .int x50_3), (4, .int x50_4), (5, .int x50_5), (6, .int x50_6), (7, .int x50_7), (8, .int x50_8), (9, .int x50_9), (10, .int x50_10), (11, .int x50_11), (12, .int x50_12), (13, .int x50_13)] (i := 17) (by decide) rfl dX4_leastMix_142 ?_
          refine r_iload hC 14 rfl dX4_leastMix_144 ?_
          refine r_iload hC 0 rfl dX4_leastMix_146 ?_
          refine r_ldcw hC (v := 100000) q_464 dX4_leastMix_148 ?_
          refine r_imul hC dX4_leastMix_151 (fun v37 => ?_)
          refine r_iloadn hC 4 rfl rfl dX4_leastMix_152 ?_
          refine r_iadd hC dX4_leastMix_153 (fun v38 => ?_)
          refine r_iload hC 15 rfl dX4_leastMix_154 ?_
          refine r_iadd hC dX4_leastMix_156 (fun v39 => ?_)
          refine r_min hC q_342 q_343 q_24 q_344 (Nat.le_of_ble_eq_true rfl) (Nat.le_of_ble_eq_true rfl) ⟨Nat.zero_le _, Nat.zero_le _⟩ dX4_leastMix_157 (fun v40 => ?_)
          refine r_istore hC [(12, .int v40), (17, .int v36), (16, .int v30), (15, .int v26), (14, .int v22), (0, .int x50_0), (3, .int x50_3), (4, .int x50_4), (5, .int x50_5), (6, .int x50_6), (7, .int x50_7), (8, .int x50_8), (9, .int x50_9), (10, .int x50_10), (11, .int x50_11), (13, .int x50_13)] (i := 12) (by decide) rfl dX4_leastMix_160 ?_
          refine Wo.sub [5, 6, 7, 8, 9, 10, 11, 12, 13, 14, 0, 15] rfl ?_
          exact t_X4_leastMix_162 hC k50 hk50 x50_0 x50_3 x50_4 x50_5 x50_6 x50_7 x50_8 x50_9 x50_10 x50_11 v40 x50_13 σ

set_option maxRecDepth 100000 in
set_option maxHeartbeats 4000000 in
theorem u_X4_leastMix_50 {C : Cxt} {G : Glb} (hC : CX C G RX4 cX4_leastMix 18 (some .int) 3 0 0 58) : ∀ (n : Nat) (x50_0 : Int32) (x50_3 : Int32) (x50_4 : Int32) (x50_5 : Int32) (x50_6 : Int32) (x50_7 : Int32) (x50_8 : Int32) (x50_9 : Int32) (x50_10 : Int32) (x50_11 : Int32) (x50_12 : Int32) (x50_13 : Int32) (σ : Mem), Wo C G 18 (QP C G rvI 0 0) (l_X4_leastMix_50  n x50_0 x50_3 x50_4 x50_5 x50_6 x50_7 x50_8 x50_9 x50_10 x50_11 x50_12 x50_13 σ) σ 0 0 50 [(0, .int x50_0), (3, .int x50_3), (4, .int x50_4), (5, .int x50_5), (6, .int x50_6), (7, .int x50_7), (8, .int x50_8), (9, .int x50_9), (10, .int x50_10), (11, .int x50_11), (12, .int x50_12), (13, .int x50_13)] [] := by
  intro n
  induction n with
  | zero => intro x50_0 x50_3 x50_4 x50_5 x50_6 x50_7 x50_8 x50_9 x50_10 x50_11 x50_12 x50_13 σ; exact Wo.none
  | succ n ih => intro x50_0 x50_3 x50_4 x50_5 x50_6 x50_7 x50_8 x50_9 x50_10 x50_11 x50_12 x50_13 σ; exact t_X4_leastMix_50 hC (l_X4_leastMix_50  n) ih x50_0 x50_3 x50_4 x50_5 x50_6 x50_7 x50_8 x50_9 x50_10 x50_11 x50_12 x50_13 σ

set_option maxRecDepth 100000 in
set_option maxHeartbeats 4000000 in
theorem t_X4_leastMix_0 {C : Cxt} {G : Glb} (hC : CX C G RX4 cX4_leastMix 18 (some .int) 3 0 0 58) (p0 : Int32) (p1 : (Option Nat)) (p2 : (Option Nat)) (p3 : Int32) (p4 : Int32) (p5 : Int32) (σ : Mem) : Wo C G 18 (QP C G rvI 0 0) (b_X4_leastMix_0  p0 p1 p2 p3 p4 p5 σ) σ 0 0 0 [(0, .int p0), (1, va_rf p1), (2, va_rf p2), (3, .int p3), (4, .int p4), (5, .int p5)] [] := by
  unfold b_X4_leastMix_0
  refine r_aloadn hC 1 (r := p1) rfl rfl dX4_leastMix_0 ?_
  refine r_iconst hC (0) rfl dX4_leastMix_1 ?_
  refine call_V hC (av := [.int 0]) (st := []) (r := p1) (ci := 1) rfl rfl (fun h9 => ct_X1_noteOf hC.hl G h9 0 σ) q_463 q_415 q_416 q_14 q_417 yd_X1_noteOf rfl ⟨Nat.le_of_ble_eq_true rfl, Nat.le_of_ble_eq_true rfl⟩ ⟨Nat.zero_le _, Nat.zero_le _⟩ rfl (Nat.le_of_ble_eq_true rfl) dX4_leastMix_2 (fun v1 σ2 => ?_)
  show Wo _ _ _ _ _ _ _ _ _ _ [.int v1]
  refine r_istore hC [(6, .int v1), (0, .int p0), (1, va_rf p1), (2, va_rf p2), (3, .int p3), (4, .int p4), (5, .int p5)] (i := 6) (by decide) rfl dX4_leastMix_5 ?_
  refine r_aloadn hC 2 (r := p1) rfl rfl dX4_leastMix_7 ?_
  refine r_iconst hC (1) rfl dX4_leastMix_8 ?_
  refine call_V hC (av := [.int 1]) (st := []) (r := p1) (ci := 1) rfl rfl (fun h9 => ct_X1_noteOf hC.hl G h9 1 σ2) q_463 q_415 q_416 q_14 q_417 yd_X1_noteOf rfl ⟨Nat.le_of_ble_eq_true rfl, Nat.le_of_ble_eq_true rfl⟩ ⟨Nat.zero_le _, Nat.zero_le _⟩ rfl (Nat.le_of_ble_eq_true rfl) dX4_leastMix_9 (fun v4 σ5 => ?_)
  show Wo _ _ _ _ _ _ _ _ _ _ [.int v4]
  refine r_istore hC [(7, .int v4), (6, .int v1), (0, .int p0), (1, va_rf p1), (2, va_rf p2), (3, .int p3), (4, .int p4), (5, .int p5)] (i := 7) (by decide) rfl dX4_leastMix_12 ?_
  refine r_aloadn hC 3 (r := p1) rfl rfl dX4_leastMix_14 ?_
  refine r_iconst hC (2) rfl dX4_leastMix_15 ?_
  refine call_V hC (av := [.int 2]) (st := []) (r := p1) (ci := 1) rfl rfl (fun h9 => ct_X1_noteOf hC.hl G h9 2 σ5) q_463 q_415 q_416 q_14 q_417 yd_X1_noteOf rfl ⟨Nat.le_of_ble_eq_true rfl, Nat.le_of_ble_eq_true rfl⟩ ⟨Nat.zero_le _, Nat.zero_le _⟩ rfl (Nat.le_of_ble_eq_true rfl) dX4_leastMix_16 (fun v7 σ8 => ?_)
  show Wo _ _ _ _ _ _ _ _ _ _ [.int v7]
  refine r_istore hC [(8, .int v7), (7, .int v4), (6, .int v1), (0, .int p0), (1, va_rf p1), (2, va_rf p2), (3, .int p3), (4, .int p4), (5, .int p5)] (i := 8) (by decide) rfl dX4_leastMix_19 ?_
  refine r_aloadn hC 5 (r := p2) rfl rfl dX4_leastMix_21 ?_
  refine r_iconst hC (0) rfl dX4_leastMix_22 ?_
  refine call_V hC (av := [.int 0]) (st := []) (r := p2) (ci := 1) rfl rfl (fun h9 => ct_X1_noteOf hC.hl G h9 0 σ8) q_463 q_415 q_416 q_14 q_417 yd_X1_noteOf rfl ⟨Nat.le_of_ble_eq_true rfl, Nat.le_of_ble_eq_true rfl⟩ ⟨Nat.zero_le _, Nat.zero_le _⟩ rfl (Nat.le_of_ble_eq_true rfl) dX4_leastMix_23 (fun v10 σ11 => ?_)
  show Wo _ _ _ _ _ _ _ _ _ _ [.int v10]
  refine r_istore hC [(9, .int v10), (8, .int v7), (7, .int v4), (6, .int v1), (0, .int p0), (1, va_rf p1), (2, va_rf p2), (3, .int p3), (4, .int p4), (5, .int p5)] (i := 9) (by decide) rfl dX4_leastMix_26 ?_
  refine r_aloadn hC 6 (r := p2) rfl rfl dX4_leastMix_28 ?_
  refine r_iconst hC (1) rfl dX4_leastMix_29 ?_
  refine call_V hC (av := [.int 1]) (st := []) (r := p2) (ci := 1) rfl rfl (fun h9 => ct_X1_noteOf hC.hl G h9 1 σ11) q_463 q_415 q_416 q_14 q_417 yd_X1_noteOf rfl ⟨Nat.le_of_ble_eq_true rfl, Nat.le_of_ble_eq_true rfl⟩ ⟨Nat.zero_le _, Nat.zero_le _⟩ rfl (Nat.le_of_ble_eq_true rfl) dX4_leastMix_30 (fun v13 σ14 => ?_)
  show Wo _ _ _ _ _ _ _ _ _ _ [.int v13]
  refine r_istore hC [(10, .int v13), (9, .int v10), (8, .int v7), (7, .int v4), (6, .int v1), (0, .int p0), (1, va_rf p1), (2, va_rf p2), (3, .int p3), (4, .int p4), (5, .int p5)] (i := 10) (by decide) rfl dX4_leastMix_33 ?_
  refine r_aloadn hC 7 (r := p2) rfl rfl dX4_leastMix_35 ?_
  refine r_iconst hC (2) rfl dX4_leastMix_36 ?_
  refine call_V hC (av := [.int 2]) (st := []) (r := p2) (ci := 1) rfl rfl (fun h9 => ct_X1_noteOf hC.hl G h9 2 σ14) q_463 q_415 q_416 q_14 q_417 yd_X1_noteOf rfl ⟨Nat.le_of_ble_eq_true rfl, Nat.le_of_ble_eq_true rfl⟩ ⟨Nat.zero_le _, Nat.zero_le _⟩ rfl (Nat.le_of_ble_eq_true rfl) dX4_leastMix_37 (fun v16 σ17 => ?_)
  show Wo _ _ _ _ _ _ _ _ _ _ [.int v16]
  refine r_istore hC [(11, .int v16), (10, .int v13), (9, .int v10), (8, .int v7), (7, .int v4), (6, .int v1), (0, .int p0), (1, va_rf p1), (2, va_rf p2), (3, .int p3), (4, .int p4), (5, .int p5)] (i := 11) (by decide) rfl dX4_leastMix_40 ?_
  refine r_ldcw hC (v := 100000000) q_454 dX4_leastMix_42 ?_
  refine r_istore hC [(12, .int 100000000), (11, .int v16), (10, .int v13), (9, .int v10), (8, .int v7), (7, .int v4), (6, .int v1), (0, .int p0), (1, va_rf p1), (2, va_rf p2), (3, .int p3), (4, .int p4), (5, .int p5)] (i := 12) (by decide) rfl dX4_leastMix_45 ?_
  refine r_iconst hC (1) rfl dX4_leastMix_47 ?_
  refine r_istore hC [(13, .int 1), (12, .int 100000000), (11, .int v16), (10, .int v13), (9, .int v10), (8, .int v7), (7, .int v4), (6, .int v1), (0, .int p0), (1, va_rf p1), (2, va_rf p2), (3, .int p3), (4, .int p4), (5, .int p5)] (i := 13) (by decide) rfl dX4_leastMix_48 ?_
  refine Wo.sub [8, 11, 12, 13, 7, 6, 5, 4, 3, 2, 1, 0] rfl ?_
  exact u_X4_leastMix_50 hC 40 p0 p3 p4 p5 v1 v4 v7 v10 v13 v16 100000000 1 σ17

set_option maxRecDepth 100000 in
set_option maxHeartbeats 4000000 in
theorem ct_X4_leastMix {l : Launch} (hl : l.stackTraces = false) (G : Glb) (p0 : Int32) (p1 : (Option Nat)) (p2 : (Option Nat)) (p3 : Int32) (p4 : Int32) (p5 : Int32) (σ : Mem) : Ct rvI l yX4_leastMix (Cond.code yX4_leastMix cX4_leastMix 18 (some .int) :: uW) { frames := 3, cells := 0, slots := 0, locals := 58 } 0 0 G [.int p0, va_rf p1, va_rf p2, .int p3, .int p4, .int p5] σ (f_X4_leastMix p0 p1 p2 p3 p4 p5 σ) := by
  refine Ct.of hl (by decide +kernel) (by simp [lg_sl, cat_rf, cat_i, cat_j, cat_d, cat_a]) (fun C hC hin => ?_)
  have e : lv_args 0 [.int p0, va_rf p1, va_rf p2, .int p3, .int p4, .int p5] = [(0, .int p0), (1, va_rf p1), (2, va_rf p2), (3, .int p3), (4, .int p4), (5, .int p5)] := by simp [lv_args, cat_rf, cat_i, cat_j, cat_d, cat_a]
  rw [e]
  exact t_X4_leastMix_0 hC p0 p1 p2 p3 p4 p5 σ

noncomputable def b_X4_bestMix_152 (y152_0 : Int32) (σ : Mem) : Option ((Int32) × Mem) :=
some (y152_0, σ)

noncomputable def b_X4_bestMix_122 (k29 : Nat → Int32 → Int32 → Int32 → Int32 → Int32 → Mem → Option ((Int32) × Mem)) (k44 : Nat → Int32 → Int32 → Int32 → Int32 → Int32 → Int32 → Mem → Option ((Int32) × Mem)) (a0 : Nat) (x122_1 : Int32) (x122_2 : Int32) (x122_3 : Int32) (x122_4 : Int32) (x122_5 : Int32) (x122_6 : Int32) (σ : Mem) : Option ((Int32) × Mem) :=
nm (x122_6 + 1) fun v17 =>
k44 a0 x122_1 x122_2 x122_3 x122_4 x122_5 v17 σ

noncomputable def b_X4_bestMix_44 (k29 : Nat → Int32 → Int32 → Int32 → Int32 → Int32 → Mem → Option ((Int32) × Mem)) (k44 : Nat → Int32 → Int32 → Int32 → Int32 → Int32 → Int32 → Mem → Option ((Int32) × Mem)) (a0 : Nat) (x44_1 : Int32) (x44_2 : Int32) (x44_3 : Int32) (x44_4 : Int32) (x44_5 : Int32) (x44_6 : Int32) (σ : Mem) : Option ((Int32) × Mem) :=
gI 4 4 σ (some a0) fun v10 =>
if v10 ≤ x44_6 then
nm (x44_5 + 1) fun v11 =>
k29 a0 x44_1 x44_2 x44_3 x44_4 v11 σ
else
gR 4 3 σ (some a0) fun r12 =>
aR 1 σ r12 x44_5 fun r13 =>
ob 1 σ r13 fun h16 => cl1 (f_X1_isFreeMade h16 σ) fun v14 σ15 =>
if v14 = 0 then
b_X4_bestMix_122 k29 k44 a0 x44_1 x44_2 x44_3 x44_4 x44_5 x44_6 σ15
else
gR 4 3 σ15 (some a0) fun r18 =>
aR 1 σ15 r18 x44_6 fun r19 =>
ob 1 σ15 r19 fun h22 => cl1 (f_X1_isFreeMade h22 σ15) fun v20 σ21 =>
if v20 = 0 then
b_X4_bestMix_122 k29 k44 a0 x44_1 x44_2 x44_3 x44_4 x44_5 x44_6 σ21
else
nm (1000 * x44_5) fun v23 =>
nm (10 * x44_6) fun v24 =>
nm (v23 + v24) fun v25 =>
gR 4 3 σ21 (some a0) fun r26 =>
aR 1 σ21 r26 x44_5 fun r27 =>
gR 4 3 σ21 (some a0) fun r28 =>
aR 1 σ21 r28 x44_6 fun r29 =>
cl1 (f_X4_leastMix v25 r27 r29 x44_1 x44_2 x44_3 σ21) fun v30 σ31 =>
nm (if v30 < x44_4 then v30 else x44_4) fun v32 =>
b_X4_bestMix_122 k29 k44 a0 x44_1 x44_2 x44_3 v32 x44_5 x44_6 σ31

noncomputable def l_X4_bestMix_44 (k29 : Nat → Int32 → Int32 → Int32 → Int32 → Int32 → Mem → Option ((Int32) × Mem)) (n : Nat) : Nat → Int32 → Int32 → Int32 → Int32 → Int32 → Int32 → Mem → Option ((Int32) × Mem) := itr (fun _ _ _ _ _ _ _ _ => none) (fun k => b_X4_bestMix_44 k29 k) n

noncomputable def b_X4_bestMix_29 (k29 : Nat → Int32 → Int32 → Int32 → Int32 → Int32 → Mem → Option ((Int32) × Mem)) (a0 : Nat) (x29_1 : Int32) (x29_2 : Int32) (x29_3 : Int32) (x29_4 : Int32) (x29_5 : Int32) (σ : Mem) : Option ((Int32) × Mem) :=
gI 4 4 σ (some a0) fun v7 =>
if v7 ≤ x29_5 then
if x29_4 = 100000000 then
b_X4_bestMix_152 (-1) σ
else
rm x29_4 100000 fun v8 =>
b_X4_bestMix_152 v8 σ
else
nm (x29_5 + 1) fun v9 =>
l_X4_bestMix_44 k29 40 a0 x29_1 x29_2 x29_3 x29_4 x29_5 v9 σ

noncomputable def l_X4_bestMix_29 (n : Nat) : Nat → Int32 → Int32 → Int32 → Int32 → Int32 → Mem → Option ((Int32) × Mem) := itr (fun _ _ _ _ _ _ _ => none) (fun k => b_X4_bestMix_29  k) n

noncomputable def b_X4_bestMix_0 (a0 : Nat) (p0 : Int32) (p1 : Int32) (p2 : Int32) (σ : Mem) : Option ((Int32) × Mem) :=
cl1 (f_X4_requireArgument p0 0 9 σ) fun u1 σ2 =>
cl1 (f_X4_requireArgument p1 0 9 σ2) fun u3 σ4 =>
cl1 (f_X4_requireArgument p2 0 9 σ4) fun u5 σ6 =>
l_X4_bestMix_29 40 a0 p0 p1 p2 100000000 0 σ6

noncomputable def f_X4_bestMix (a0 : Nat) (p0 : Int32) (p1 : Int32) (p2 : Int32) (σ : Mem) : Option ((Int32) × Mem) := b_X4_bestMix_0 a0 p0 p1 p2 σ
set_option maxRecDepth 100000 in
set_option maxHeartbeats 4000000 in
theorem t_X4_bestMix_152 {C : Cxt} {G : Glb} (hC : CX C G RX4 cX4_bestMix 8 (some .int) 4 0 0 95) (y152_0 : Int32) (σ : Mem) : Wo C G 8 (QP C G rvI 0 0) (b_X4_bestMix_152  y152_0 σ) σ 0 0 152 [] [.int y152_0] := by
  unfold b_X4_bestMix_152
  exact e_I hC ⟨Nat.zero_le _, Nat.zero_le _⟩ dX4_bestMix_152

set_option maxRecDepth 100000 in
set_option maxHeartbeats 4000000 in
theorem t_X4_bestMix_122 {C : Cxt} {G : Glb} (hC : CX C G RX4 cX4_bestMix 8 (some .int) 4 0 0 95) (k29 : Nat → Int32 → Int32 → Int32 → Int32 → Int32 → Mem → Option ((Int32) × Mem)) (hk29 : ∀ (a0 : Nat) (x29_1 : Int32) (x29_2 : Int32) (x29_3 : Int32) (x29_4 : Int32) (x29_5 : Int32) (σ : Mem), Wo C G 8 (QP C G rvI 0 0) (k29 a0 x29_1 x29_2 x29_3 x29_4 x29_5 σ) σ 0 0 29 [(0, va_rf (some a0)), (1, .int x29_1), (2, .int x29_2), (3, .int x29_3), (4, .int x29_4), (5, .int x29_5)] []) (k44 : Nat → Int32 → Int32 → Int32 → Int32 → Int32 → Int32 → Mem → Option ((Int32) × Mem)) (hk44 : ∀ (a0 : Nat) (x44_1 : Int32) (x44_2 : Int32) (x44_3 : Int32) (x44_4 : Int32) (x44_5 : Int32) (x44_6 : Int32) (σ : Mem), Wo C G 8 (QP C G rvI 0 0) (k44 a0 x44_1 x44_2 x44_3 x44_4 x44_5 x44_6 σ) σ 0 0 44 [(0, va_rf (some a0)), (1, .int x44_1), (2, .int x44_2), (3, .int x44_3), (4, .int x44_4), (5, .int x44_5), (6, .int x44_6)] []) (a0 : Nat) (x122_1 : Int32) (x122_2 : Int32) (x122_3 : Int32) (x122_4 : Int32) (x122_5 : Int32) (x122_6 : Int32) (σ : Mem) : Wo C G 8 (QP C G rvI 0 0) (b_X4_bestMix_122 k29 k44 a0 x122_1 x122_2 x122_3 x122_4 x122_5 x122_6 σ) σ 0 0 122 [(0, va_rf (some a0)), (1, .int x122_1), (2, .int x122_2), (3, .int x122_3), (4, .int x122_4), (5, .int x122_5), (6, .int x122_6)] [] := by
  unfold b_X4_bestMix_122
  refine r_iinc hC 6 (fun w => [(6, .int w), (0, va_rf (some a0)), (1, .int x122_1), (2, .int x122_2), (3, .int x122_3), (4, .int x122_4), (5, .int x122_5)]) 1 rfl (by decide) rfl (fun w => rfl) dX4_bestMix_122 (fun v17 => ?_)
  refine r_goto hC 44 dX4_bestMix_125 (by decide) ?_
  refine Wo.sub [1, 2, 3, 4, 5, 6, 0] rfl ?_
  exact hk44 a0 x122_1 x122_2 x122_3 x122_4 x122_5 v17 σ

set_option maxRecDepth 100000 in
set_option maxHeartbeats 4000000 in
theorem t_X4_bestMix_44 {C : Cxt} {G : Glb} (hC : CX C G RX4 cX4_bestMix 8 (some .int) 4 0 0 95) (k29 : Nat → Int32 → Int32 → Int32 → Int32 → Int32 → Mem → Option ((Int32) × Mem)) (hk29 : ∀ (a0 : Nat) (x29_1 : Int32) (x29_2 : Int32) (x29_3 : Int32) (x29_4 : Int32) (x29_5 : Int32) (σ : Mem), Wo C G 8 (QP C G rvI 0 0) (k29 a0 x29_1 x29_2 x29_3 x29_4 x29_5 σ) σ 0 0 29 [(0, va_rf (some a0)), (1, .int x29_1), (2, .int x29_2), (3, .int x29_3), (4, .int x29_4), (5, .int x29_5)] []) (k44 : Nat → Int32 → Int32 → Int32 → Int32 → Int32 → Int32 → Mem → Option ((Int32) × Mem)) (hk44 : ∀ (a0 : Nat) (x44_1 : Int32) (x44_2 : Int32) (x44_3 : Int32) (x44_4 : Int32) (x44_5 : Int32) (x44_6 : Int32) (σ : Mem), Wo C G 8 (QP C G rvI 0 0) (k44 a0 x44_1 x44_2 x44_3 x44_4 x44_5 x44_6 σ) σ 0 0 44 [(0, va_rf (some a0)), (1, .int x44_1), (2, .int x44_2), (3, .int x44_3), (4, .int x44_4), (5, .int x44_5), (6, .int x44_6)] []) (a0 : Nat) (x44_1 : Int32) (x44_2 : Int32) (x44_3 : Int32) (x44_4 : Int32) (x44_5 : Int32) (x44_6 : Int32) (σ : Mem) : Wo C G 8 (QP C G rvI 0 0) (b_X4_bestMix_44 k29 k44 a0 x44_1 x44_2 x44_3 x44_4 x44_5 x44_6 σ) σ 0 0 44 [(0, va_rf (some a0)), (1, .int x44_1), (2, .int x44_2), (3, .int x44_3), (4, .int x44_4), (5, .int x44_5), (6, .int x44_6)] [] := by
  unfold b_X4_bestMix_44
  refine r_iload hC 6 rfl dX4_bestMix_44 ?_
  refine r_aloadn hC 0 (r := (some a0)) rfl rfl dX4_bestMix_46 ?_
  refine r_gI hC (k := 4) (r := (some a0)) cls_4 (by decide) rfl q_191 (Or.inl rfl) dX4_bestMix_47 (fun v10 => ?_)
  refine r_icmp_ge hC 128 dX4_bestMix_50 (by decide) ?_ ?_
  · refine r_iinc hC 5 (fun w => [(5, .int w), (0, va_rf (some a0)), (1, .int x44_1), (2, .int x44_2), (3, .int x44_3), (4, .int x44_4), (6, .int x44_6)]) 1 rfl (by decide) rfl (fun w => rfl) dX4_bestMix_128 (fun v11 => ?_)
    refine r_goto hC 29 dX4_bestMix_131 (by decide) ?_
    refine Wo.sub [1, 2, 3, 4, 5, 0] rfl ?_
    exact hk29 a0 x44_1 x44_2 x44_3 x44_4 v11 σ
  · refine r_aloadn hC 0 (r := (some a0)) rfl rfl dX4_bestMix_53 ?_
    refine r_gR hC (k := 3) (r := (some a0)) cls_4 (by decide) rfl q_190 (Or.inl rfl) dX4_bestMix_54 (fun r12 => ?_)
    refine r_iload hC 5 rfl dX4_bestMix_57 ?_
    refine r_aR hC (t := 1) (r := r12) rfl rfl dX4_bestMix_59 (fun r13 => ?_)
    refine call_V hC (av := []) (st := []) (r := r13) (ci := 1) rfl rfl (fun h9 => ct_X1_isFreeMade hC.hl G h9 σ) q_455 q_456 q_457 q_14 q_458 yd_X1_isFreeMade rfl ⟨Nat.le_of_ble_eq_true rfl, Nat.le_of_ble_eq_true rfl⟩ ⟨Nat.zero_le _, Nat.zero_le _⟩ rfl (Nat.le_of_ble_eq_true rfl) dX4_bestMix_60 (fun v14 σ15 => ?_)
    show Wo _ _ _ _ _ _ _ _ _ _ [.int v14]
    refine r_if_eq hC 122 dX4_bestMix_63 (by decide) ?_ ?_
    · exact t_X4_bestMix_122 hC k29 hk29 k44 hk44 a0 x44_1 x44_2 x44_3 x44_4 x44_5 x44_6 σ15
    · refine r_aloadn hC 0 (r := (some a0)) rfl rfl dX4_bestMix_66 ?_
      refine r_gR hC (k := 3) (r := (some a0)) cls_4 (by decide) rfl q_190 (Or.inl rfl) dX4_bestMix_67 (fun r18 => ?_)
      refine r_iload hC 6 rfl dX4_bestMix_70 ?_
      refine r_aR hC (t := 1) (r := r18) rfl rfl dX4_bestMix_72 (fun r19 => ?_)
      refine call_V hC (av := []) (st := []) (r := r19) (ci := 1) rfl rfl (fun h9 => ct_X1_isFreeMade hC.hl G h9 σ15) q_455 q_456 q_457 q_14 q_458 yd_X1_isFreeMade rfl ⟨Nat.le_of_ble_eq_true rfl, Nat.le_of_ble_eq_true rfl⟩ ⟨Nat.zero_le _, Nat.zero_le _⟩ rfl (Nat.le_of_ble_eq_true rfl) dX4_bestMix_73 (fun v20 σ21 => ?_)
      show Wo _ _ _ _ _ _ _ _ _ _ [.int v20]
      refine r_if_eq hC 122 dX4_bestMix_76 (by decide) ?_ ?_
      · exact t_X4_bestMix_122 hC k29 hk29 k44 hk44 a0 x44_1 x44_2 x44_3 x44_4 x44_5 x44_6 σ21
      · refine r_sipush hC (1000) (by decide) dX4_bestMix_79 ?_
        refine r_iload hC 5 rfl dX4_bestMix_82 ?_
        refine r_imul hC dX4_bestMix_84 (fun v23 => ?_)
        refine r_bipush hC (10) (by decide) dX4_bestMix_85 ?_
        refine r_iload hC 6 rfl dX4_bestMix_87 ?_
        refine r_imul hC dX4_bestMix_89 (fun v24 => ?_)
        refine r_iadd hC dX4_bestMix_90 (fun v25 => ?_)
        refine r_istore hC [(7, .int v25), (0, va_rf (some a0)), (1, .int x44_1), (2, .int x44_2), (3, .int x44_3), (4, .int x44_4), (5, .int x44_5), (6, .int x44_6)] (i := 7) (by decide) rfl dX4_bestMix_91 ?_
        refine r_iload hC 5 rfl dX4_bestMix_93 ?_
        refine r_iload hC 0 rfl dX4_bestMix_95 ?_
        refine r_aloadn hC 1 (r := (some a0)) rfl rfl dX4_bestMix_97 ?_
        refine r_gR hC (k := 3) (r := (some a0)) cls_4 (by decide) rfl q_190 (Or.inl rfl) dX4_bestMix_98 (fun r26 => ?_)
        refine r_iload hC 6 rfl dX4_bestMix_101 ?_
        refine r_aR hC (t := 1) (r := r26) rfl rfl dX4_bestMix_103 (fun r27 => ?_)
        refine r_aloadn hC 1 (r := (some a0)) rfl rfl dX4_bestMix_104 ?_
        refine r_gR hC (k := 3) (r := (some a0)) cls_4 (by decide) rfl q_190 (Or.inl rfl) dX4_bestMix_105 (fun r28 => ?_)
        refine r_iload hC 7 rfl dX4_bestMix_108 ?_
        refine r_aR hC (t := 1) (r := r28) rfl rfl dX4_bestMix_110 (fun r29 => ?_)
        refine r_iloadn hC 2 rfl rfl dX4_bestMix_111 ?_
        refine r_iloadn hC 3 rfl rfl dX4_bestMix_112 ?_
        refine r_iloadn hC 4 rfl rfl dX4_bestMix_113 ?_
        refine call_S hC (av := [.int v25, va_rf r27, va_rf r29, .int x44_1, .int x44_2, .int x44_3]) (st := [.int x44_4]) (ct_X4_leastMix hC.hl G v25 r27 r29 x44_1 x44_2 x44_3 σ21) q_460 q_461 q_13 q_462 yd_X4_leastMix rfl ⟨Nat.le_of_ble_eq_true rfl, Nat.le_of_ble_eq_true rfl⟩ ⟨Nat.zero_le _, Nat.zero_le _⟩ rfl (by simp [cat_rf, cat_i, cat_j, cat_d, cat_a]) dX4_bestMix_114 (fun v30 σ31 => ?_)
        show Wo _ _ _ _ _ _ _ _ _ _ [.int v30, .int x44_4]
        refine r_min hC q_342 q_343 q_24 q_344 (Nat.le_of_ble_eq_true rfl) (Nat.le_of_ble_eq_true rfl) ⟨Nat.zero_le _, Nat.zero_le _⟩ dX4_bestMix_117 (fun v32 => ?_)
        refine r_istore hC [(4, .int v32), (7, .int v25), (0, va_rf (some a0)), (1, .int x44_1), (2, .int x44_2), (3, .int x44_3), (5, .int x44_5), (6, .int x44_6)] (i := 4) (by decide) rfl dX4_bestMix_120 ?_
        refine Wo.sub [2, 3, 4, 5, 0, 6, 7] rfl ?_
        exact t_X4_bestMix_122 hC k29 hk29 k44 hk44 a0 x44_1 x44_2 x44_3 v32 x44_5 x44_6 σ31

set_option maxRecDepth 100000 in
set_option maxHeartbeats 4000000 in
theorem u_X4_bestMix_44 {C : Cxt} {G : Glb} (hC : CX C G RX4 cX4_bestMix 8 (some .int) 4 0 0 95) (k29 : Nat → Int32 → Int32 → Int32 → Int32 → Int32 → Mem → Option ((Int32) × Mem)) (hk29 : ∀ (a0 : Nat) (x29_1 : Int32) (x29_2 : Int32) (x29_3 : Int32) (x29_4 : Int32) (x29_5 : Int32) (σ : Mem), Wo C G 8 (QP C G rvI 0 0) (k29 a0 x29_1 x29_2 x29_3 x29_4 x29_5 σ) σ 0 0 29 [(0, va_rf (some a0)), (1, .int x29_1), (2, .int x29_2), (3, .int x29_3), (4, .int x29_4), (5, .int x29_5)] []) : ∀ (n : Nat) (a0 : Nat) (x44_1 : Int32) (x44_2 : Int32) (x44_3 : Int32) (x44_4 : Int32) (x44_5 : Int32) (x44_6 : Int32) (σ : Mem), Wo C G 8 (QP C G rvI 0 0) (l_X4_bestMix_44 k29 n a0 x44_1 x44_2 x44_3 x44_4 x44_5 x44_6 σ) σ 0 0 44 [(0, va_rf (some a0)), (1, .int x44_1), (2, .int x44_2), (3, .int x44_3), (4, .int x44_4), (5, .int x44_5), (6, .int x44_6)] [] := by
  intro n
  induction n with
  | zero => intro a0 x44_1 x44_2 x44_3 x44_4 x44_5 x44_6 σ; exact Wo.none
  | succ n ih => intro a0 x44_1 x44_2 x44_3 x44_4 x44_5 x44_6 σ; exact t_X4_bestMix_44 hC k29 hk29 (l_X4_bestMix_44 k29 n) ih a0 x44_1 x44_2 x44_3 x44_4 x44_5 x44_6 σ

set_option maxRecDepth 100000 in
set_option maxHeartbeats 4000000 in
theorem t_X4_bestMix_29 {C : Cxt} {G : Glb} (hC : CX C G RX4 cX4_bestMix 8 (some .int) 4 0 0 95) (k29 : Nat → Int32 → Int32 → Int32 → Int32 → Int32 → Mem → Option ((Int32) × Mem)) (hk29 : ∀ (a0 : Nat) (x29_1 : Int32) (x29_2 : Int32) (x29_3 : Int32) (x29_4 : Int32) (x29_5 : Int32) (σ : Mem), Wo C G 8 (QP C G rvI 0 0) (k29 a0 x29_1 x29_2 x29_3 x29_4 x29_5 σ) σ 0 0 29 [(0, va_rf (some a0)), (1, .int x29_1), (2, .int x29_2), (3, .int x29_3), (4, .int x29_4), (5, .int x29_5)] []) (a0 : Nat) (x29_1 : Int32) (x29_2 : Int32) (x29_3 : Int32) (x29_4 : Int32) (x29_5 : Int32) (σ : Mem) : Wo C G 8 (QP C G rvI 0 0) (b_X4_bestMix_29 k29 a0 x29_1 x29_2 x29_3 x29_4 x29_5 σ) σ 0 0 29 [(0, va_rf (some a0)), (1, .int x29_1), (2, .int x29_2), (3, .int x29_3), (4, .int x29_4), (5, .int x29_5)] [] := by
  unfold b_X4_bestMix_29
  refine r_iload hC 5 rfl dX4_bestMix_29 ?_
  refine r_aloadn hC 0 (r := (some a0)) rfl rfl dX4_bestMix_31 ?_
  refine r_gI hC (k := 4) (r := (some a0)) cls_4 (by decide) rfl q_191 (Or.inl rfl) dX4_bestMix_32 (fun v7 => ?_)
  refine r_icmp_ge hC 134 dX4_bestMix_35 (by decide) ?_ ?_
  · refine r_iload hC 4 rfl dX4_bestMix_134 ?_
    refine r_ldcw hC (v := 100000000) q_454 dX4_bestMix_136 ?_
    refine r_icmp_ne hC 146 dX4_bestMix_139 (by decide) ?_ ?_
    · refine r_iload hC 4 rfl dX4_bestMix_146 ?_
      refine r_ldcw hC (v := 100000) q_464 dX4_bestMix_148 ?_
      refine r_irem hC dX4_bestMix_151 (fun v8 => ?_)
      refine Wo.sub [] rfl ?_
      exact t_X4_bestMix_152 hC v8 σ
    · refine r_iconst hC (-1) rfl dX4_bestMix_142 ?_
      refine r_goto hC 152 dX4_bestMix_143 (by decide) ?_
      refine Wo.sub [] rfl ?_
      exact t_X4_bestMix_152 hC (-1) σ
  · refine r_iload hC 5 rfl dX4_bestMix_38 ?_
    refine r_iconst hC (1) rfl dX4_bestMix_40 ?_
    refine r_iadd hC dX4_bestMix_41 (fun v9 => ?_)
    refine r_istore hC [(6, .int v9), (0, va_rf (some a0)), (1, .int x29_1), (2, .int x29_2), (3, .int x29_3), (4, .int x29_4), (5, .int x29_5)] (i := 6) (by decide) rfl dX4_bestMix_42 ?_
    refine Wo.sub [1, 2, 3, 4, 5, 6, 0] rfl ?_
    exact u_X4_bestMix_44 hC k29 hk29 40 a0 x29_1 x29_2 x29_3 x29_4 x29_5 v9 σ

set_option maxRecDepth 100000 in
set_option maxHeartbeats 4000000 in
theorem u_X4_bestMix_29 {C : Cxt} {G : Glb} (hC : CX C G RX4 cX4_bestMix 8 (some .int) 4 0 0 95) : ∀ (n : Nat) (a0 : Nat) (x29_1 : Int32) (x29_2 : Int32) (x29_3 : Int32) (x29_4 : Int32) (x29_5 : Int32) (σ : Mem), Wo C G 8 (QP C G rvI 0 0) (l_X4_bestMix_29  n a0 x29_1 x29_2 x29_3 x29_4 x29_5 σ) σ 0 0 29 [(0, va_rf (some a0)), (1, .int x29_1), (2, .int x29_2), (3, .int x29_3), (4, .int x29_4), (5, .int x29_5)] [] := by
  intro n
  induction n with
  | zero => intro a0 x29_1 x29_2 x29_3 x29_4 x29_5 σ; exact Wo.none
  | succ n ih => intro a0 x29_1 x29_2 x29_3 x29_4 x29_5 σ; exact t_X4_bestMix_29 hC (l_X4_bestMix_29  n) ih a0 x29_1 x29_2 x29_3 x29_4 x29_5 σ

set_option maxRecDepth 100000 in
set_option maxHeartbeats 4000000 in
theorem t_X4_bestMix_0 {C : Cxt} {G : Glb} (hC : CX C G RX4 cX4_bestMix 8 (some .int) 4 0 0 95) (a0 : Nat) (p0 : Int32) (p1 : Int32) (p2 : Int32) (σ : Mem) : Wo C G 8 (QP C G rvI 0 0) (b_X4_bestMix_0  a0 p0 p1 p2 σ) σ 0 0 0 [(0, va_rf (some a0)), (1, .int p0), (2, .int p1), (3, .int p2)] [] := by
  unfold b_X4_bestMix_0
  refine r_iloadn hC 1 rfl rfl dX4_bestMix_0 ?_
  refine r_iconst hC (0) rfl dX4_bestMix_1 ?_
  refine r_bipush hC (9) (by decide) dX4_bestMix_2 ?_
  refine call_S hC (av := [.int p0, .int 0, .int 9]) (st := []) (ct_X4_requireArgument hC.hl G p0 0 9 σ) q_228 q_229 q_13 q_230 yd_X4_requireArgument rfl ⟨Nat.le_of_ble_eq_true rfl, Nat.le_of_ble_eq_true rfl⟩ ⟨Nat.zero_le _, Nat.zero_le _⟩ rfl (Nat.le_of_ble_eq_true rfl) dX4_bestMix_4 (fun u1 σ2 => ?_)
  show Wo _ _ _ _ _ _ _ _ _ _ []
  refine r_iloadn hC 2 rfl rfl dX4_bestMix_7 ?_
  refine r_iconst hC (0) rfl dX4_bestMix_8 ?_
  refine r_bipush hC (9) (by decide) dX4_bestMix_9 ?_
  refine call_S hC (av := [.int p1, .int 0, .int 9]) (st := []) (ct_X4_requireArgument hC.hl G p1 0 9 σ2) q_228 q_229 q_13 q_230 yd_X4_requireArgument rfl ⟨Nat.le_of_ble_eq_true rfl, Nat.le_of_ble_eq_true rfl⟩ ⟨Nat.zero_le _, Nat.zero_le _⟩ rfl (Nat.le_of_ble_eq_true rfl) dX4_bestMix_11 (fun u3 σ4 => ?_)
  show Wo _ _ _ _ _ _ _ _ _ _ []
  refine r_iloadn hC 3 rfl rfl dX4_bestMix_14 ?_
  refine r_iconst hC (0) rfl dX4_bestMix_15 ?_
  refine r_bipush hC (9) (by decide) dX4_bestMix_16 ?_
  refine call_S hC (av := [.int p2, .int 0, .int 9]) (st := []) (ct_X4_requireArgument hC.hl G p2 0 9 σ4) q_228 q_229 q_13 q_230 yd_X4_requireArgument rfl ⟨Nat.le_of_ble_eq_true rfl, Nat.le_of_ble_eq_true rfl⟩ ⟨Nat.zero_le _, Nat.zero_le _⟩ rfl (Nat.le_of_ble_eq_true rfl) dX4_bestMix_18 (fun u5 σ6 => ?_)
  show Wo _ _ _ _ _ _ _ _ _ _ []
  refine r_ldcw hC (v := 100000000) q_454 dX4_bestMix_21 ?_
  refine r_istore hC [(4, .int 100000000), (0, va_rf (some a0)), (1, .int p0), (2, .int p1), (3, .int p2)] (i := 4) (by decide) rfl dX4_bestMix_24 ?_
  refine r_iconst hC (0) rfl dX4_bestMix_26 ?_
  refine r_istore hC [(5, .int 0), (4, .int 100000000), (0, va_rf (some a0)), (1, .int p0), (2, .int p1), (3, .int p2)] (i := 5) (by decide) rfl dX4_bestMix_27 ?_
  refine Wo.sub [2, 3, 4, 5, 1, 0] rfl ?_
  exact u_X4_bestMix_29 hC 40 a0 p0 p1 p2 100000000 0 σ6

set_option maxRecDepth 100000 in
set_option maxHeartbeats 4000000 in
theorem ct_X4_bestMix {l : Launch} (hl : l.stackTraces = false) (G : Glb) (a0 : Nat) (p0 : Int32) (p1 : Int32) (p2 : Int32) (σ : Mem) : Ct rvI l yX4_bestMix (Cond.code yX4_bestMix cX4_bestMix 8 (some .int) :: uW) { frames := 4, cells := 0, slots := 0, locals := 95 } 0 0 G [.ref a0, .int p0, .int p1, .int p2] σ (f_X4_bestMix a0 p0 p1 p2 σ) := by
  refine Ct.of hl (by decide +kernel) (Nat.le_of_ble_eq_true rfl) (fun C hC hin => ?_)
  have e : lv_args 0 [.ref a0, .int p0, .int p1, .int p2] = [(0, .ref a0), (1, .int p0), (2, .int p1), (3, .int p2)] := rfl
  rw [e]
  exact t_X4_bestMix_0 hC a0 p0 p1 p2 σ

noncomputable def b_X4_wouldPay_41 (y41_0 : Int32) (σ : Mem) : Option ((Int32) × Mem) :=
some (y41_0, σ)

noncomputable def b_X4_wouldPay_0 (a0 : Nat) (p0 : Int32) (σ : Mem) : Option ((Int32) × Mem) :=
ob 4 σ (some a0) fun h3 => cl1 (f_X4_lotAt h3 p0 σ) fun r1 σ2 =>
gR 1 15 σ2 r1 fun r4 =>
ob 0 σ2 r4 fun h7 => cl1 (f_X0_isOpen h7 σ2) fun v5 σ6 =>
cl1 (f_X4_requireState v5 σ6) fun u8 σ9 =>
ob 4 σ9 (some a0) fun h12 => cl1 (f_X4_winnerOf h12 r1 σ9) fun v10 σ11 =>
if v10 = (-1) then
b_X4_wouldPay_41 0 σ11
else
ob 4 σ11 (some a0) fun h15 => cl1 (f_X4_priceFor h15 r1 v10 σ11) fun v13 σ14 =>
cl1 (f_X4_costOf r1 v13 σ14) fun v16 σ17 =>
b_X4_wouldPay_41 v16 σ17

noncomputable def f_X4_wouldPay (a0 : Nat) (p0 : Int32) (σ : Mem) : Option ((Int32) × Mem) := b_X4_wouldPay_0 a0 p0 σ
set_option maxRecDepth 100000 in
set_option maxHeartbeats 4000000 in
theorem t_X4_wouldPay_41 {C : Cxt} {G : Glb} (hC : CX C G RX4 cX4_wouldPay 4 (some .int) 3 0 0 68) (y41_0 : Int32) (σ : Mem) : Wo C G 4 (QP C G rvI 0 0) (b_X4_wouldPay_41  y41_0 σ) σ 0 0 41 [] [.int y41_0] := by
  unfold b_X4_wouldPay_41
  exact e_I hC ⟨Nat.zero_le _, Nat.zero_le _⟩ dX4_wouldPay_41

set_option maxRecDepth 100000 in
set_option maxHeartbeats 4000000 in
theorem t_X4_wouldPay_0 {C : Cxt} {G : Glb} (hC : CX C G RX4 cX4_wouldPay 4 (some .int) 3 0 0 68) (a0 : Nat) (p0 : Int32) (σ : Mem) : Wo C G 4 (QP C G rvI 0 0) (b_X4_wouldPay_0  a0 p0 σ) σ 0 0 0 [(0, va_rf (some a0)), (1, .int p0)] [] := by
  unfold b_X4_wouldPay_0
  refine r_aloadn hC 0 (r := (some a0)) rfl rfl dX4_wouldPay_0 ?_
  refine r_iloadn hC 1 rfl rfl dX4_wouldPay_1 ?_
  refine call_V hC (av := [.int p0]) (st := []) (r := (some a0)) (ci := 4) rfl rfl (fun h9 => ct_X4_lotAt hC.hl G h9 p0 σ) q_357 q_359 q_3 q_13 q_360 yd_X4_lotAt rfl ⟨Nat.le_of_ble_eq_true rfl, Nat.le_of_ble_eq_true rfl⟩ ⟨Nat.zero_le _, Nat.zero_le _⟩ rfl (Nat.le_of_ble_eq_true rfl) dX4_wouldPay_2 (fun r1 σ2 => ?_)
  show Wo _ _ _ _ _ _ _ _ _ _ [va_rf r1]
  refine r_astoren hC [(2, va_rf r1), (0, va_rf (some a0)), (1, .int p0)] (r := r1) (i := 2) rfl (by decide) rfl dX4_wouldPay_5 ?_
  refine r_aloadn hC 0 (r := r1) rfl rfl dX4_wouldPay_6 ?_
  refine r_gR hC (k := 15) (r := r1) cls_1 (by decide) rfl q_95 (Or.inl rfl) dX4_wouldPay_7 (fun r4 => ?_)
  refine call_V hC (av := []) (st := []) (r := r4) (ci := 0) rfl rfl (fun h9 => ct_X0_isOpen hC.hl G h9 σ2) q_361 q_362 q_363 q_15 q_364 yd_X0_isOpen rfl ⟨Nat.le_of_ble_eq_true rfl, Nat.le_of_ble_eq_true rfl⟩ ⟨Nat.zero_le _, Nat.zero_le _⟩ rfl (Nat.le_of_ble_eq_true rfl) dX4_wouldPay_10 (fun v5 σ6 => ?_)
  show Wo _ _ _ _ _ _ _ _ _ _ [.int v5]
  refine call_S hC (av := [.int v5]) (st := []) (ct_X4_requireState hC.hl G v5 σ6) q_294 q_295 q_13 q_296 yd_X4_requireState rfl ⟨Nat.le_of_ble_eq_true rfl, Nat.le_of_ble_eq_true rfl⟩ ⟨Nat.zero_le _, Nat.zero_le _⟩ rfl (Nat.le_of_ble_eq_true rfl) dX4_wouldPay_13 (fun u8 σ9 => ?_)
  show Wo _ _ _ _ _ _ _ _ _ _ []
  refine r_aloadn hC 1 (r := (some a0)) rfl rfl dX4_wouldPay_16 ?_
  refine r_aloadn hC 0 (r := r1) rfl rfl dX4_wouldPay_17 ?_
  refine call_V hC (av := [va_rf r1]) (st := []) (r := (some a0)) (ci := 4) rfl rfl (fun h9 => ct_X4_winnerOf hC.hl G h9 r1 σ9) q_520 q_522 q_7 q_13 q_523 yd_X4_winnerOf rfl ⟨Nat.le_of_ble_eq_true rfl, Nat.le_of_ble_eq_true rfl⟩ ⟨Nat.zero_le _, Nat.zero_le _⟩ rfl (Nat.le_of_ble_eq_true rfl) dX4_wouldPay_18 (fun v10 σ11 => ?_)
  show Wo _ _ _ _ _ _ _ _ _ _ [.int v10]
  refine r_istoren hC [(3, .int v10), (2, va_rf r1), (0, va_rf (some a0)), (1, .int p0)] (i := 3) rfl (by decide) (by simp [List.filter, cat_rf, cat_i, cat_j, cat_d, cat_a]) dX4_wouldPay_21 ?_
  refine r_iloadn hC 0 rfl rfl dX4_wouldPay_22 ?_
  refine r_iconst hC (-1) rfl dX4_wouldPay_23 ?_
  refine r_icmp_ne hC 31 dX4_wouldPay_24 (by decide) ?_ ?_
  · refine r_aloadn hC 1 (r := r1) rfl rfl dX4_wouldPay_31 ?_
    refine r_aloadn hC 2 (r := (some a0)) rfl rfl dX4_wouldPay_32 ?_
    refine r_aloadn hC 1 (r := r1) rfl rfl dX4_wouldPay_33 ?_
    refine r_iloadn hC 0 rfl rfl dX4_wouldPay_34 ?_
    refine call_V hC (av := [va_rf r1, .int v10]) (st := [va_rf r1]) (r := (some a0)) (ci := 4) rfl rfl (fun h9 => ct_X4_priceFor hC.hl G h9 r1 v10 σ11) q_535 q_537 q_9 q_13 q_538 yd_X4_priceFor rfl ⟨Nat.le_of_ble_eq_true rfl, Nat.le_of_ble_eq_true rfl⟩ ⟨Nat.zero_le _, Nat.zero_le _⟩ rfl (by simp [cat_rf, cat_i, cat_j, cat_d, cat_a]) dX4_wouldPay_35 (fun v13 σ14 => ?_)
    show Wo _ _ _ _ _ _ _ _ _ _ [.int v13, va_rf r1]
    refine call_S hC (av := [va_rf r1, .int v13]) (st := []) (ct_X4_costOf hC.hl G r1 v13 σ14) q_528 q_529 q_13 q_530 yd_X4_costOf rfl ⟨Nat.le_of_ble_eq_true rfl, Nat.le_of_ble_eq_true rfl⟩ ⟨Nat.zero_le _, Nat.zero_le _⟩ rfl (Nat.le_of_ble_eq_true rfl) dX4_wouldPay_38 (fun v16 σ17 => ?_)
    show Wo _ _ _ _ _ _ _ _ _ _ [.int v16]
    refine Wo.sub [] rfl ?_
    exact t_X4_wouldPay_41 hC v16 σ17
  · refine r_iconst hC (0) rfl dX4_wouldPay_27 ?_
    refine r_goto hC 41 dX4_wouldPay_28 (by decide) ?_
    refine Wo.sub [] rfl ?_
    exact t_X4_wouldPay_41 hC 0 σ11

set_option maxRecDepth 100000 in
set_option maxHeartbeats 4000000 in
theorem ct_X4_wouldPay {l : Launch} (hl : l.stackTraces = false) (G : Glb) (a0 : Nat) (p0 : Int32) (σ : Mem) : Ct rvI l yX4_wouldPay (Cond.code yX4_wouldPay cX4_wouldPay 4 (some .int) :: uW) { frames := 3, cells := 0, slots := 0, locals := 68 } 0 0 G [.ref a0, .int p0] σ (f_X4_wouldPay a0 p0 σ) := by
  refine Ct.of hl (by decide +kernel) (Nat.le_of_ble_eq_true rfl) (fun C hC hin => ?_)
  have e : lv_args 0 [.ref a0, .int p0] = [(0, .ref a0), (1, .int p0)] := rfl
  rw [e]
  exact t_X4_wouldPay_0 hC a0 p0 σ

noncomputable def b_X4_digestLot_207 (x207_4 : Int64) (σ : Mem) : Option ((Int64) × Mem) :=
some (x207_4, σ)

noncomputable def b_X4_digestLot_178 (k178 : Nat → Int32 → Int64 → Int32 → Mem → Option ((Int64) × Mem)) (a0 : Nat) (x178_3 : Int32) (x178_4 : Int64) (x178_7 : Int32) (σ : Mem) : Option ((Int64) × Mem) :=
if 4 ≤ x178_7 then
b_X4_digestLot_207 x178_4 σ
else
nm (x178_4 * 31) fun v17 =>
ob 4 σ (some a0) fun h20 => cl1 (f_X4_bidOf h20 x178_7 x178_3 σ) fun v18 σ19 =>
nm (v18.toInt64) fun v21 =>
nm (v17 + v21) fun v22 =>
nm (x178_7 + 1) fun v23 =>
k178 a0 x178_3 v22 v23 σ19

noncomputable def l_X4_digestLot_178 (n : Nat) : Nat → Int32 → Int64 → Int32 → Mem → Option ((Int64) × Mem) := itr (fun _ _ _ _ _ => none) (fun k => b_X4_digestLot_178  k) n

noncomputable def b_X4_digestLot_149 (a0 : Nat) (x149_3 : Int32) (x149_4 : Int64) (x149_6 : (Option Nat)) (σ : Mem) : Option ((Int64) × Mem) :=
gR 1 15 σ x149_6 fun r7 =>
ob 0 σ r7 fun h10 => cl1 (f_X0_isOpen h10 σ) fun v8 σ9 =>
if v8 = 0 then
b_X4_digestLot_207 x149_4 σ9
else
nm (x149_4 * 31) fun v11 =>
ob 4 σ9 (some a0) fun h14 => cl1 (f_X4_wouldPay h14 x149_3 σ9) fun v12 σ13 =>
nm (v12.toInt64) fun v15 =>
nm (v11 + v15) fun v16 =>
l_X4_digestLot_178 40 a0 x149_3 v16 0 σ13

noncomputable def b_X4_digestLot_125 (a0 : Nat) (x125_3 : Int32) (x125_4 : Int64) (x125_6 : (Option Nat)) (σ : Mem) : Option ((Int64) × Mem) :=
gI 1 0 σ x125_6 fun v6 =>
if v6 = 1 then
nm (x125_4 * 31) fun v24 =>
ob 4 σ (some a0) fun h27 => cl1 (f_X4_bestFire h27 x125_3 σ) fun v25 σ26 =>
nm (v25.toInt64) fun v28 =>
nm (v24 + v28) fun v29 =>
b_X4_digestLot_149 a0 x125_3 v29 x125_6 σ26
else
b_X4_digestLot_149 a0 x125_3 x125_4 x125_6 σ

noncomputable def b_X4_digestLot_87 (k87 : Nat → Int32 → Int64 → (Option Nat) → Int32 → Mem → Option ((Int64) × Mem)) (a0 : Nat) (x87_3 : Int32) (x87_4 : Int64) (x87_6 : (Option Nat)) (x87_7 : Int32) (σ : Mem) : Option ((Int64) × Mem) :=
gI 1 0 σ x87_6 fun v5 =>
if v5 = 2 then
if 3 ≤ x87_7 then
b_X4_digestLot_125 a0 x87_3 x87_4 x87_6 σ
else
nm (x87_4 * 31) fun v30 =>
ob 4 σ (some a0) fun h33 => cl1 (f_X4_taste h33 x87_3 x87_7 σ) fun v31 σ32 =>
nm (v31.toInt64) fun v34 =>
nm (v30 + v34) fun v35 =>
nm (x87_7 + 1) fun v36 =>
k87 a0 x87_3 v35 x87_6 v36 σ32
else
b_X4_digestLot_125 a0 x87_3 x87_4 x87_6 σ

noncomputable def l_X4_digestLot_87 (n : Nat) : Nat → Int32 → Int64 → (Option Nat) → Int32 → Mem → Option ((Int64) × Mem) := itr (fun _ _ _ _ _ _ => none) (fun k => b_X4_digestLot_87  k) n

noncomputable def b_X4_digestLot_84 (a0 : Nat) (x84_3 : Int32) (x84_4 : Int64) (x84_6 : (Option Nat)) (σ : Mem) : Option ((Int64) × Mem) :=
l_X4_digestLot_87 40 a0 x84_3 x84_4 x84_6 0 σ

noncomputable def b_X4_digestLot_46 (k46 : Nat → Int32 → Int64 → (Option Nat) → Int32 → Mem → Option ((Int64) × Mem)) (a0 : Nat) (x46_3 : Int32) (x46_4 : Int64) (x46_6 : (Option Nat)) (x46_7 : Int32) (σ : Mem) : Option ((Int64) × Mem) :=
gI 1 0 σ x46_6 fun v4 =>
if v4 = 2 then
if 3 ≤ x46_7 then
b_X4_digestLot_84 a0 x46_3 x46_4 x46_6 σ
else
nm (x46_4 * 31) fun v37 =>
ob 4 σ (some a0) fun h40 => cl1 (f_X4_note h40 x46_3 x46_7 σ) fun v38 σ39 =>
nm (v38.toInt64) fun v41 =>
nm (v37 + v41) fun v42 =>
nm (x46_7 + 1) fun v43 =>
k46 a0 x46_3 v42 x46_6 v43 σ39
else
b_X4_digestLot_84 a0 x46_3 x46_4 x46_6 σ

noncomputable def l_X4_digestLot_46 (n : Nat) : Nat → Int32 → Int64 → (Option Nat) → Int32 → Mem → Option ((Int64) × Mem) := itr (fun _ _ _ _ _ _ => none) (fun k => b_X4_digestLot_46  k) n

noncomputable def b_X4_digestLot_6 (k6 : Nat → Int32 → Int64 → Int32 → Mem → Option ((Int64) × Mem)) (a0 : Nat) (x6_3 : Int32) (x6_4 : Int64) (x6_6 : Int32) (σ : Mem) : Option ((Int64) × Mem) :=
if 17 < x6_6 then
ob 4 σ (some a0) fun h3 => cl1 (f_X4_lotAt h3 x6_3 σ) fun r1 σ2 =>
l_X4_digestLot_46 40 a0 x6_3 x6_4 r1 0 σ2
else
nm (x6_4 * 31) fun v44 =>
ob 4 σ (some a0) fun h47 => cl1 (f_X4_ofLot h47 x6_3 x6_6 σ) fun v45 σ46 =>
nm (v45.toInt64) fun v48 =>
nm (v44 + v48) fun v49 =>
nm (x6_6 + 1) fun v50 =>
k6 a0 x6_3 v49 v50 σ46

noncomputable def l_X4_digestLot_6 (n : Nat) : Nat → Int32 → Int64 → Int32 → Mem → Option ((Int64) × Mem) := itr (fun _ _ _ _ _ => none) (fun k => b_X4_digestLot_6  k) n

noncomputable def b_X4_digestLot_0 (a0 : Nat) (p0 : Int64) (p1 : Int32) (σ : Mem) : Option ((Int64) × Mem) :=
l_X4_digestLot_6 40 a0 p1 p0 0 σ

noncomputable def f_X4_digestLot (a0 : Nat) (p0 : Int64) (p1 : Int32) (σ : Mem) : Option ((Int64) × Mem) := b_X4_digestLot_0 a0 p0 p1 σ
set_option maxRecDepth 100000 in
set_option maxHeartbeats 4000000 in
theorem t_X4_digestLot_207 {C : Cxt} {G : Glb} (hC : CX C G RX4 cX4_digestLot 8 (some .long) 5 0 0 107) (x207_4 : Int64) (σ : Mem) : Wo C G 8 (QP C G rvJ 0 0) (b_X4_digestLot_207  x207_4 σ) σ 0 0 207 [(4, .long x207_4)] [] := by
  unfold b_X4_digestLot_207
  refine r_lload hC 0 rfl dX4_digestLot_207 ?_
  exact e_J hC ⟨Nat.zero_le _, Nat.zero_le _⟩ dX4_digestLot_209

set_option maxRecDepth 100000 in
set_option maxHeartbeats 4000000 in
theorem t_X4_digestLot_178 {C : Cxt} {G : Glb} (hC : CX C G RX4 cX4_digestLot 8 (some .long) 5 0 0 107) (k178 : Nat → Int32 → Int64 → Int32 → Mem → Option ((Int64) × Mem)) (hk178 : ∀ (a0 : Nat) (x178_3 : Int32) (x178_4 : Int64) (x178_7 : Int32) (σ : Mem), Wo C G 8 (QP C G rvJ 0 0) (k178 a0 x178_3 x178_4 x178_7 σ) σ 0 0 178 [(0, va_rf (some a0)), (3, .int x178_3), (4, .long x178_4), (7, .int x178_7)] []) (a0 : Nat) (x178_3 : Int32) (x178_4 : Int64) (x178_7 : Int32) (σ : Mem) : Wo C G 8 (QP C G rvJ 0 0) (b_X4_digestLot_178 k178 a0 x178_3 x178_4 x178_7 σ) σ 0 0 178 [(0, va_rf (some a0)), (3, .int x178_3), (4, .long x178_4), (7, .int x178_7)] [] := by
  unfold b_X4_digestLot_178
  refine r_iload hC 3 rfl dX4_digestLot_178 ?_
  refine r_iconst hC (4) rfl dX4_digestLot_180 ?_
  refine r_icmp_ge hC 207 dX4_digestLot_181 (by decide) ?_ ?_
  · refine Wo.sub [2] rfl ?_
    exact t_X4_digestLot_207 hC x178_4 σ
  · refine r_lload hC 2 rfl dX4_digestLot_184 ?_
    refine r_ldc2 hC (v := 31) q_470 dX4_digestLot_186 ?_
    refine r_lmul hC dX4_digestLot_189 (fun v17 => ?_)
    refine r_aloadn hC 0 (r := (some a0)) rfl rfl dX4_digestLot_190 ?_
    refine r_iload hC 3 rfl dX4_digestLot_191 ?_
    refine r_iloadn hC 1 rfl rfl dX4_digestLot_193 ?_
    refine call_V hC (av := [.int x178_7, .int x178_3]) (st := [.long v17]) (r := (some a0)) (ci := 4) rfl rfl (fun h9 => ct_X4_bidOf hC.hl G h9 x178_7 x178_3 σ) q_539 q_390 q_391 q_13 q_392 yd_X4_bidOf rfl ⟨Nat.le_of_ble_eq_true rfl, Nat.le_of_ble_eq_true rfl⟩ ⟨Nat.zero_le _, Nat.zero_le _⟩ rfl (by simp [cat_rf, cat_i, cat_j, cat_d, cat_a]) dX4_digestLot_194 (fun v18 σ19 => ?_)
    show Wo _ _ _ _ _ _ _ _ _ _ [.int v18, .long v17]
    refine r_i2l hC dX4_digestLot_197 (fun v21 => ?_)
    refine r_ladd hC dX4_digestLot_198 (fun v22 => ?_)
    refine r_lstore hC [(4, .long v22), (0, va_rf (some a0)), (3, .int x178_3), (7, .int x178_7)] (i := 4) (by decide) rfl dX4_digestLot_199 ?_
    refine r_iinc hC 3 (fun w => [(7, .int w), (4, .long v22), (0, va_rf (some a0)), (3, .int x178_3)]) 1 rfl (by decide) rfl (fun w => rfl) dX4_digestLot_201 (fun v23 => ?_)
    refine r_goto hC 178 dX4_digestLot_204 (by decide) ?_
    refine Wo.sub [2, 3, 1, 0] rfl ?_
    exact hk178 a0 x178_3 v22 v23 σ19

set_option maxRecDepth 100000 in
set_option maxHeartbeats 4000000 in
theorem u_X4_digestLot_178 {C : Cxt} {G : Glb} (hC : CX C G RX4 cX4_digestLot 8 (some .long) 5 0 0 107) : ∀ (n : Nat) (a0 : Nat) (x178_3 : Int32) (x178_4 : Int64) (x178_7 : Int32) (σ : Mem), Wo C G 8 (QP C G rvJ 0 0) (l_X4_digestLot_178  n a0 x178_3 x178_4 x178_7 σ) σ 0 0 178 [(0, va_rf (some a0)), (3, .int x178_3), (4, .long x178_4), (7, .int x178_7)] [] := by
  intro n
  induction n with
  | zero => intro a0 x178_3 x178_4 x178_7 σ; exact Wo.none
  | succ n ih => intro a0 x178_3 x178_4 x178_7 σ; exact t_X4_digestLot_178 hC (l_X4_digestLot_178  n) ih a0 x178_3 x178_4 x178_7 σ

set_option maxRecDepth 100000 in
set_option maxHeartbeats 4000000 in
theorem t_X4_digestLot_149 {C : Cxt} {G : Glb} (hC : CX C G RX4 cX4_digestLot 8 (some .long) 5 0 0 107) (a0 : Nat) (x149_3 : Int32) (x149_4 : Int64) (x149_6 : (Option Nat)) (σ : Mem) : Wo C G 8 (QP C G rvJ 0 0) (b_X4_digestLot_149  a0 x149_3 x149_4 x149_6 σ) σ 0 0 149 [(0, va_rf (some a0)), (3, .int x149_3), (4, .long x149_4), (6, va_rf x149_6)] [] := by
  unfold b_X4_digestLot_149
  refine r_aload hC 3 (r := x149_6) rfl dX4_digestLot_149 ?_
  refine r_gR hC (k := 15) (r := x149_6) cls_1 (by decide) rfl q_95 (Or.inl rfl) dX4_digestLot_151 (fun r7 => ?_)
  refine call_V hC (av := []) (st := []) (r := r7) (ci := 0) rfl rfl (fun h9 => ct_X0_isOpen hC.hl G h9 σ) q_361 q_362 q_363 q_15 q_364 yd_X0_isOpen rfl ⟨Nat.le_of_ble_eq_true rfl, Nat.le_of_ble_eq_true rfl⟩ ⟨Nat.zero_le _, Nat.zero_le _⟩ rfl (Nat.le_of_ble_eq_true rfl) dX4_digestLot_154 (fun v8 σ9 => ?_)
  show Wo _ _ _ _ _ _ _ _ _ _ [.int v8]
  refine r_if_eq hC 207 dX4_digestLot_157 (by decide) ?_ ?_
  · refine Wo.sub [2] rfl ?_
    exact t_X4_digestLot_207 hC x149_4 σ9
  · refine r_lload hC 2 rfl dX4_digestLot_160 ?_
    refine r_ldc2 hC (v := 31) q_470 dX4_digestLot_162 ?_
    refine r_lmul hC dX4_digestLot_165 (fun v11 => ?_)
    refine r_aloadn hC 0 (r := (some a0)) rfl rfl dX4_digestLot_166 ?_
    refine r_iloadn hC 1 rfl rfl dX4_digestLot_167 ?_
    refine call_V hC (av := [.int x149_3]) (st := [.long v11]) (r := (some a0)) (ci := 4) rfl rfl (fun h9 => ct_X4_wouldPay hC.hl G h9 x149_3 σ9) q_516 q_517 q_518 q_13 q_519 yd_X4_wouldPay rfl ⟨Nat.le_of_ble_eq_true rfl, Nat.le_of_ble_eq_true rfl⟩ ⟨Nat.zero_le _, Nat.zero_le _⟩ rfl (by simp [cat_rf, cat_i, cat_j, cat_d, cat_a]) dX4_digestLot_168 (fun v12 σ13 => ?_)
    show Wo _ _ _ _ _ _ _ _ _ _ [.int v12, .long v11]
    refine r_i2l hC dX4_digestLot_171 (fun v15 => ?_)
    refine r_ladd hC dX4_digestLot_172 (fun v16 => ?_)
    refine r_lstore hC [(4, .long v16), (0, va_rf (some a0)), (3, .int x149_3), (6, va_rf x149_6)] (i := 4) (by decide) rfl dX4_digestLot_173 ?_
    refine r_iconst hC (0) rfl dX4_digestLot_175 ?_
    refine r_istore hC [(7, .int 0), (4, .long v16), (0, va_rf (some a0)), (3, .int x149_3), (6, va_rf x149_6)] (i := 7) (by decide) (by simp [List.filter, cat_rf, cat_i, cat_j, cat_d, cat_a]) dX4_digestLot_176 ?_
    refine Wo.sub [2, 3, 1, 0] rfl ?_
    exact u_X4_digestLot_178 hC 40 a0 x149_3 v16 0 σ13

set_option maxRecDepth 100000 in
set_option maxHeartbeats 4000000 in
theorem t_X4_digestLot_125 {C : Cxt} {G : Glb} (hC : CX C G RX4 cX4_digestLot 8 (some .long) 5 0 0 107) (a0 : Nat) (x125_3 : Int32) (x125_4 : Int64) (x125_6 : (Option Nat)) (σ : Mem) : Wo C G 8 (QP C G rvJ 0 0) (b_X4_digestLot_125  a0 x125_3 x125_4 x125_6 σ) σ 0 0 125 [(0, va_rf (some a0)), (3, .int x125_3), (4, .long x125_4), (6, va_rf x125_6)] [] := by
  unfold b_X4_digestLot_125
  refine r_aload hC 3 (r := x125_6) rfl dX4_digestLot_125 ?_
  refine r_gI hC (k := 0) (r := x125_6) cls_1 (by decide) rfl q_65 (Or.inl rfl) dX4_digestLot_127 (fun v6 => ?_)
  refine r_iconst hC (1) rfl dX4_digestLot_130 ?_
  refine r_icmp_ne hC 149 dX4_digestLot_131 (by decide) ?_ ?_
  · exact t_X4_digestLot_149 hC a0 x125_3 x125_4 x125_6 σ
  · refine r_lload hC 2 rfl dX4_digestLot_134 ?_
    refine r_ldc2 hC (v := 31) q_470 dX4_digestLot_136 ?_
    refine r_lmul hC dX4_digestLot_139 (fun v24 => ?_)
    refine r_aloadn hC 0 (r := (some a0)) rfl rfl dX4_digestLot_140 ?_
    refine r_iloadn hC 1 rfl rfl dX4_digestLot_141 ?_
    refine call_V hC (av := [.int x125_3]) (st := [.long v24]) (r := (some a0)) (ci := 4) rfl rfl (fun h9 => ct_X4_bestFire hC.hl G h9 x125_3 σ) q_498 q_499 q_500 q_13 q_501 yd_X4_bestFire rfl ⟨Nat.le_of_ble_eq_true rfl, Nat.le_of_ble_eq_true rfl⟩ ⟨Nat.zero_le _, Nat.zero_le _⟩ rfl (by simp [cat_rf, cat_i, cat_j, cat_d, cat_a]) dX4_digestLot_142 (fun v25 σ26 => ?_)
    show Wo _ _ _ _ _ _ _ _ _ _ [.int v25, .long v24]
    refine r_i2l hC dX4_digestLot_145 (fun v28 => ?_)
    refine r_ladd hC dX4_digestLot_146 (fun v29 => ?_)
    refine r_lstore hC [(4, .long v29), (0, va_rf (some a0)), (3, .int x125_3), (6, va_rf x125_6)] (i := 4) (by decide) rfl dX4_digestLot_147 ?_
    refine Wo.sub [1, 2, 0, 3] rfl ?_
    exact t_X4_digestLot_149 hC a0 x125_3 v29 x125_6 σ26

set_option maxRecDepth 100000 in
set_option maxHeartbeats 4000000 in
theorem t_X4_digestLot_87 {C : Cxt} {G : Glb} (hC : CX C G RX4 cX4_digestLot 8 (some .long) 5 0 0 107) (k87 : Nat → Int32 → Int64 → (Option Nat) → Int32 → Mem → Option ((Int64) × Mem)) (hk87 : ∀ (a0 : Nat) (x87_3 : Int32) (x87_4 : Int64) (x87_6 : (Option Nat)) (x87_7 : Int32) (σ : Mem), Wo C G 8 (QP C G rvJ 0 0) (k87 a0 x87_3 x87_4 x87_6 x87_7 σ) σ 0 0 87 [(0, va_rf (some a0)), (3, .int x87_3), (4, .long x87_4), (6, va_rf x87_6), (7, .int x87_7)] []) (a0 : Nat) (x87_3 : Int32) (x87_4 : Int64) (x87_6 : (Option Nat)) (x87_7 : Int32) (σ : Mem) : Wo C G 8 (QP C G rvJ 0 0) (b_X4_digestLot_87 k87 a0 x87_3 x87_4 x87_6 x87_7 σ) σ 0 0 87 [(0, va_rf (some a0)), (3, .int x87_3), (4, .long x87_4), (6, va_rf x87_6), (7, .int x87_7)] [] := by
  unfold b_X4_digestLot_87
  refine r_aload hC 3 (r := x87_6) rfl dX4_digestLot_87 ?_
  refine r_gI hC (k := 0) (r := x87_6) cls_1 (by decide) rfl q_65 (Or.inl rfl) dX4_digestLot_89 (fun v5 => ?_)
  refine r_iconst hC (2) rfl dX4_digestLot_92 ?_
  refine r_icmp_ne hC 125 dX4_digestLot_93 (by decide) ?_ ?_
  · refine Wo.sub [0, 1, 2, 3] rfl ?_
    exact t_X4_digestLot_125 hC a0 x87_3 x87_4 x87_6 σ
  · refine r_iload hC 4 rfl dX4_digestLot_96 ?_
    refine r_iconst hC (3) rfl dX4_digestLot_98 ?_
    refine r_icmp_ge hC 125 dX4_digestLot_99 (by decide) ?_ ?_
    · refine Wo.sub [0, 1, 2, 3] rfl ?_
      exact t_X4_digestLot_125 hC a0 x87_3 x87_4 x87_6 σ
    · refine r_lload hC 2 rfl dX4_digestLot_102 ?_
      refine r_ldc2 hC (v := 31) q_470 dX4_digestLot_104 ?_
      refine r_lmul hC dX4_digestLot_107 (fun v30 => ?_)
      refine r_aloadn hC 0 (r := (some a0)) rfl rfl dX4_digestLot_108 ?_
      refine r_iloadn hC 1 rfl rfl dX4_digestLot_109 ?_
      refine r_iload hC 4 rfl dX4_digestLot_110 ?_
      refine call_V hC (av := [.int x87_3, .int x87_7]) (st := [.long v30]) (r := (some a0)) (ci := 4) rfl rfl (fun h9 => ct_X4_taste hC.hl G h9 x87_3 x87_7 σ) q_483 q_484 q_485 q_13 q_486 yd_X4_taste rfl ⟨Nat.le_of_ble_eq_true rfl, Nat.le_of_ble_eq_true rfl⟩ ⟨Nat.zero_le _, Nat.zero_le _⟩ rfl (by simp [cat_rf, cat_i, cat_j, cat_d, cat_a]) dX4_digestLot_112 (fun v31 σ32 => ?_)
      show Wo _ _ _ _ _ _ _ _ _ _ [.int v31, .long v30]
      refine r_i2l hC dX4_digestLot_115 (fun v34 => ?_)
      refine r_ladd hC dX4_digestLot_116 (fun v35 => ?_)
      refine r_lstore hC [(4, .long v35), (0, va_rf (some a0)), (3, .int x87_3), (6, va_rf x87_6), (7, .int x87_7)] (i := 4) (by decide) rfl dX4_digestLot_117 ?_
      refine r_iinc hC 4 (fun w => [(7, .int w), (4, .long v35), (0, va_rf (some a0)), (3, .int x87_3), (6, va_rf x87_6)]) 1 rfl (by decide) rfl (fun w => by simp [List.filter, cat_rf, cat_i, cat_j, cat_d, cat_a]) dX4_digestLot_119 (fun v36 => ?_)
      refine r_goto hC 87 dX4_digestLot_122 (by decide) ?_
      refine Wo.sub [2, 3, 1, 4, 0] rfl ?_
      exact hk87 a0 x87_3 v35 x87_6 v36 σ32

set_option maxRecDepth 100000 in
set_option maxHeartbeats 4000000 in
theorem u_X4_digestLot_87 {C : Cxt} {G : Glb} (hC : CX C G RX4 cX4_digestLot 8 (some .long) 5 0 0 107) : ∀ (n : Nat) (a0 : Nat) (x87_3 : Int32) (x87_4 : Int64) (x87_6 : (Option Nat)) (x87_7 : Int32) (σ : Mem), Wo C G 8 (QP C G rvJ 0 0) (l_X4_digestLot_87  n a0 x87_3 x87_4 x87_6 x87_7 σ) σ 0 0 87 [(0, va_rf (some a0)), (3, .int x87_3), (4, .long x87_4), (6, va_rf x87_6), (7, .int x87_7)] [] := by
  intro n
  induction n with
  | zero => intro a0 x87_3 x87_4 x87_6 x87_7 σ; exact Wo.none
  | succ n ih => intro a0 x87_3 x87_4 x87_6 x87_7 σ; exact t_X4_digestLot_87 hC (l_X4_digestLot_87  n) ih a0 x87_3 x87_4 x87_6 x87_7 σ

set_option maxRecDepth 100000 in
set_option maxHeartbeats 4000000 in
theorem t_X4_digestLot_84 {C : Cxt} {G : Glb} (hC : CX C G RX4 cX4_digestLot 8 (some .long) 5 0 0 107) (a0 : Nat) (x84_3 : Int32) (x84_4 : Int64) (x84_6 : (Option Nat)) (σ : Mem) : Wo C G 8 (QP C G rvJ 0 0) (b_X4_digestLot_84  a0 x84_3 x84_4 x84_6 σ) σ 0 0 84 [(0, va_rf (some a0)), (3, .int x84_3), (4, .long x84_4), (6, va_rf x84_6)] [] := by
  unfold b_X4_digestLot_84
  refine r_iconst hC (0) rfl dX4_digestLot_84 ?_
  refine r_istore hC [(7, .int 0), (0, va_rf (some a0)), (3, .int x84_3), (4, .long x84_4), (6, va_rf x84_6)] (i := 7) (by decide) (by simp [List.filter, cat_rf, cat_i, cat_j, cat_d, cat_a]) dX4_digestLot_85 ?_
  refine Wo.sub [1, 2, 3, 4, 0] rfl ?_
  exact u_X4_digestLot_87 hC 40 a0 x84_3 x84_4 x84_6 0 σ

set_option maxRecDepth 100000 in
set_option maxHeartbeats 4000000 in
theorem t_X4_digestLot_46 {C : Cxt} {G : Glb} (hC : CX C G RX4 cX4_digestLot 8 (some .long) 5 0 0 107) (k46 : Nat → Int32 → Int64 → (Option Nat) → Int32 → Mem → Option ((Int64) × Mem)) (hk46 : ∀ (a0 : Nat) (x46_3 : Int32) (x46_4 : Int64) (x46_6 : (Option Nat)) (x46_7 : Int32) (σ : Mem), Wo C G 8 (QP C G rvJ 0 0) (k46 a0 x46_3 x46_4 x46_6 x46_7 σ) σ 0 0 46 [(0, va_rf (some a0)), (3, .int x46_3), (4, .long x46_4), (6, va_rf x46_6), (7, .int x46_7)] []) (a0 : Nat) (x46_3 : Int32) (x46_4 : Int64) (x46_6 : (Option Nat)) (x46_7 : Int32) (σ : Mem) : Wo C G 8 (QP C G rvJ 0 0) (b_X4_digestLot_46 k46 a0 x46_3 x46_4 x46_6 x46_7 σ) σ 0 0 46 [(0, va_rf (some a0)), (3, .int x46_3), (4, .long x46_4), (6, va_rf x46_6), (7, .int x46_7)] [] := by
  unfold b_X4_digestLot_46
  refine r_aload hC 3 (r := x46_6) rfl dX4_digestLot_46 ?_
  refine r_gI hC (k := 0) (r := x46_6) cls_1 (by decide) rfl q_65 (Or.inl rfl) dX4_digestLot_48 (fun v4 => ?_)
  refine r_iconst hC (2) rfl dX4_digestLot_51 ?_
  refine r_icmp_ne hC 84 dX4_digestLot_52 (by decide) ?_ ?_
  · refine Wo.sub [0, 1, 2, 3] rfl ?_
    exact t_X4_digestLot_84 hC a0 x46_3 x46_4 x46_6 σ
  · refine r_iload hC 4 rfl dX4_digestLot_55 ?_
    refine r_iconst hC (3) rfl dX4_digestLot_57 ?_
    refine r_icmp_ge hC 84 dX4_digestLot_58 (by decide) ?_ ?_
    · refine Wo.sub [0, 1, 2, 3] rfl ?_
      exact t_X4_digestLot_84 hC a0 x46_3 x46_4 x46_6 σ
    · refine r_lload hC 2 rfl dX4_digestLot_61 ?_
      refine r_ldc2 hC (v := 31) q_470 dX4_digestLot_63 ?_
      refine r_lmul hC dX4_digestLot_66 (fun v37 => ?_)
      refine r_aloadn hC 0 (r := (some a0)) rfl rfl dX4_digestLot_67 ?_
      refine r_iloadn hC 1 rfl rfl dX4_digestLot_68 ?_
      refine r_iload hC 4 rfl dX4_digestLot_69 ?_
      refine call_V hC (av := [.int x46_3, .int x46_7]) (st := [.long v37]) (r := (some a0)) (ci := 4) rfl rfl (fun h9 => ct_X4_note hC.hl G h9 x46_3 x46_7 σ) q_479 q_480 q_481 q_13 q_482 yd_X4_note rfl ⟨Nat.le_of_ble_eq_true rfl, Nat.le_of_ble_eq_true rfl⟩ ⟨Nat.zero_le _, Nat.zero_le _⟩ rfl (by simp [cat_rf, cat_i, cat_j, cat_d, cat_a]) dX4_digestLot_71 (fun v38 σ39 => ?_)
      show Wo _ _ _ _ _ _ _ _ _ _ [.int v38, .long v37]
      refine r_i2l hC dX4_digestLot_74 (fun v41 => ?_)
      refine r_ladd hC dX4_digestLot_75 (fun v42 => ?_)
      refine r_lstore hC [(4, .long v42), (0, va_rf (some a0)), (3, .int x46_3), (6, va_rf x46_6), (7, .int x46_7)] (i := 4) (by decide) rfl dX4_digestLot_76 ?_
      refine r_iinc hC 4 (fun w => [(7, .int w), (4, .long v42), (0, va_rf (some a0)), (3, .int x46_3), (6, va_rf x46_6)]) 1 rfl (by decide) rfl (fun w => by simp [List.filter, cat_rf, cat_i, cat_j, cat_d, cat_a]) dX4_digestLot_78 (fun v43 => ?_)
      refine r_goto hC 46 dX4_digestLot_81 (by decide) ?_
      refine Wo.sub [2, 3, 1, 4, 0] rfl ?_
      exact hk46 a0 x46_3 v42 x46_6 v43 σ39

set_option maxRecDepth 100000 in
set_option maxHeartbeats 4000000 in
theorem u_X4_digestLot_46 {C : Cxt} {G : Glb} (hC : CX C G RX4 cX4_digestLot 8 (some .long) 5 0 0 107) : ∀ (n : Nat) (a0 : Nat) (x46_3 : Int32) (x46_4 : Int64) (x46_6 : (Option Nat)) (x46_7 : Int32) (σ : Mem), Wo C G 8 (QP C G rvJ 0 0) (l_X4_digestLot_46  n a0 x46_3 x46_4 x46_6 x46_7 σ) σ 0 0 46 [(0, va_rf (some a0)), (3, .int x46_3), (4, .long x46_4), (6, va_rf x46_6), (7, .int x46_7)] [] := by
  intro n
  induction n with
  | zero => intro a0 x46_3 x46_4 x46_6 x46_7 σ; exact Wo.none
  | succ n ih => intro a0 x46_3 x46_4 x46_6 x46_7 σ; exact t_X4_digestLot_46 hC (l_X4_digestLot_46  n) ih a0 x46_3 x46_4 x46_6 x46_7 σ

set_option maxRecDepth 100000 in
set_option maxHeartbeats 4000000 in
theorem t_X4_digestLot_6 {C : Cxt} {G : Glb} (hC : CX C G RX4 cX4_digestLot 8 (some .long) 5 0 0 107) (k6 : Nat → Int32 → Int64 → Int32 → Mem → Option ((Int64) × Mem)) (hk6 : ∀ (a0 : Nat) (x6_3 : Int32) (x6_4 : Int64) (x6_6 : Int32) (σ : Mem), Wo C G 8 (QP C G rvJ 0 0) (k6 a0 x6_3 x6_4 x6_6 σ) σ 0 0 6 [(0, va_rf (some a0)), (3, .int x6_3), (4, .long x6_4), (6, .int x6_6)] []) (a0 : Nat) (x6_3 : Int32) (x6_4 : Int64) (x6_6 : Int32) (σ : Mem) : Wo C G 8 (QP C G rvJ 0 0) (b_X4_digestLot_6 k6 a0 x6_3 x6_4 x6_6 σ) σ 0 0 6 [(0, va_rf (some a0)), (3, .int x6_3), (4, .long x6_4), (6, .int x6_6)] [] := by
  unfold b_X4_digestLot_6
  refine r_iload hC 3 rfl dX4_digestLot_6 ?_
  refine r_bipush hC (17) (by decide) dX4_digestLot_8 ?_
  refine r_icmp_gt hC 36 dX4_digestLot_10 (by decide) ?_ ?_
  · refine r_aloadn hC 0 (r := (some a0)) rfl rfl dX4_digestLot_36 ?_
    refine r_iloadn hC 1 rfl rfl dX4_digestLot_37 ?_
    refine call_V hC (av := [.int x6_3]) (st := []) (r := (some a0)) (ci := 4) rfl rfl (fun h9 => ct_X4_lotAt hC.hl G h9 x6_3 σ) q_357 q_359 q_3 q_13 q_360 yd_X4_lotAt rfl ⟨Nat.le_of_ble_eq_true rfl, Nat.le_of_ble_eq_true rfl⟩ ⟨Nat.zero_le _, Nat.zero_le _⟩ rfl (Nat.le_of_ble_eq_true rfl) dX4_digestLot_38 (fun r1 σ2 => ?_)
    show Wo _ _ _ _ _ _ _ _ _ _ [va_rf r1]
    refine r_astore hC [(6, va_rf r1), (0, va_rf (some a0)), (3, .int x6_3), (4, .long x6_4)] (r := r1) (i := 6) (by decide) rfl dX4_digestLot_41 ?_
    refine r_iconst hC (0) rfl dX4_digestLot_43 ?_
    refine r_istore hC [(7, .int 0), (6, va_rf r1), (0, va_rf (some a0)), (3, .int x6_3), (4, .long x6_4)] (i := 7) (by decide) (by simp [List.filter, cat_rf, cat_i, cat_j, cat_d, cat_a]) dX4_digestLot_44 ?_
    refine Wo.sub [2, 3, 4, 1, 0] rfl ?_
    exact u_X4_digestLot_46 hC 40 a0 x6_3 x6_4 r1 0 σ2
  · refine r_lload hC 2 rfl dX4_digestLot_13 ?_
    refine r_ldc2 hC (v := 31) q_470 dX4_digestLot_15 ?_
    refine r_lmul hC dX4_digestLot_18 (fun v44 => ?_)
    refine r_aloadn hC 0 (r := (some a0)) rfl rfl dX4_digestLot_19 ?_
    refine r_iloadn hC 1 rfl rfl dX4_digestLot_20 ?_
    refine r_iload hC 3 rfl dX4_digestLot_21 ?_
    refine call_V hC (av := [.int x6_3, .int x6_6]) (st := [.long v44]) (r := (some a0)) (ci := 4) rfl rfl (fun h9 => ct_X4_ofLot hC.hl G h9 x6_3 x6_6 σ) q_478 q_386 q_387 q_13 q_388 yd_X4_ofLot rfl ⟨Nat.le_of_ble_eq_true rfl, Nat.le_of_ble_eq_true rfl⟩ ⟨Nat.zero_le _, Nat.zero_le _⟩ rfl (by simp [cat_rf, cat_i, cat_j, cat_d, cat_a]) dX4_digestLot_23 (fun v45 σ46 => ?_)
    show Wo _ _ _ _ _ _ _ _ _ _ [.int v45, .long v44]
    refine r_i2l hC dX4_digestLot_26 (fun v48 => ?_)
    refine r_ladd hC dX4_digestLot_27 (fun v49 => ?_)
    refine r_lstore hC [(4, .long v49), (0, va_rf (some a0)), (3, .int x6_3), (6, .int x6_6)] (i := 4) (by decide) rfl dX4_digestLot_28 ?_
    refine r_iinc hC 3 (fun w => [(6, .int w), (4, .long v49), (0, va_rf (some a0)), (3, .int x6_3)]) 1 rfl (by decide) rfl (fun w => rfl) dX4_digestLot_30 (fun v50 => ?_)
    refine r_goto hC 6 dX4_digestLot_33 (by decide) ?_
    refine Wo.sub [2, 3, 1, 0] rfl ?_
    exact hk6 a0 x6_3 v49 v50 σ46

set_option maxRecDepth 100000 in
set_option maxHeartbeats 4000000 in
theorem u_X4_digestLot_6 {C : Cxt} {G : Glb} (hC : CX C G RX4 cX4_digestLot 8 (some .long) 5 0 0 107) : ∀ (n : Nat) (a0 : Nat) (x6_3 : Int32) (x6_4 : Int64) (x6_6 : Int32) (σ : Mem), Wo C G 8 (QP C G rvJ 0 0) (l_X4_digestLot_6  n a0 x6_3 x6_4 x6_6 σ) σ 0 0 6 [(0, va_rf (some a0)), (3, .int x6_3), (4, .long x6_4), (6, .int x6_6)] [] := by
  intro n
  induction n with
  | zero => intro a0 x6_3 x6_4 x6_6 σ; exact Wo.none
  | succ n ih => intro a0 x6_3 x6_4 x6_6 σ; exact t_X4_digestLot_6 hC (l_X4_digestLot_6  n) ih a0 x6_3 x6_4 x6_6 σ

set_option maxRecDepth 100000 in
set_option maxHeartbeats 4000000 in
theorem t_X4_digestLot_0 {C : Cxt} {G : Glb} (hC : CX C G RX4 cX4_digestLot 8 (some .long) 5 0 0 107) (a0 : Nat) (p0 : Int64) (p1 : Int32) (σ : Mem) : Wo C G 8 (QP C G rvJ 0 0) (b_X4_digestLot_0  a0 p0 p1 σ) σ 0 0 0 [(0, va_rf (some a0)), (1, .long p0), (3, .int p1)] [] := by
  unfold b_X4_digestLot_0
  refine r_lloadn hC 1 rfl rfl dX4_digestLot_0 ?_
  refine r_lstore hC [(4, .long p0), (0, va_rf (some a0)), (1, .long p0), (3, .int p1)] (i := 4) (by decide) rfl dX4_digestLot_1 ?_
  refine r_iconst hC (0) rfl dX4_digestLot_3 ?_
  refine r_istore hC [(6, .int 0), (4, .long p0), (0, va_rf (some a0)), (1, .long p0), (3, .int p1)] (i := 6) (by decide) rfl dX4_digestLot_4 ?_
  refine Wo.sub [2, 4, 1, 0] rfl ?_
  exact u_X4_digestLot_6 hC 40 a0 p1 p0 0 σ

set_option maxRecDepth 100000 in
set_option maxHeartbeats 4000000 in
theorem ct_X4_digestLot {l : Launch} (hl : l.stackTraces = false) (G : Glb) (a0 : Nat) (p0 : Int64) (p1 : Int32) (σ : Mem) : Ct rvJ l yX4_digestLot (Cond.code yX4_digestLot cX4_digestLot 8 (some .long) :: uW) { frames := 5, cells := 0, slots := 0, locals := 107 } 0 0 G [.ref a0, .long p0, .int p1] σ (f_X4_digestLot a0 p0 p1 σ) := by
  refine Ct.of hl (by decide +kernel) (Nat.le_of_ble_eq_true rfl) (fun C hC hin => ?_)
  have e : lv_args 0 [.ref a0, .long p0, .int p1] = [(0, .ref a0), (1, .long p0), (3, .int p1)] := rfl
  rw [e]
  exact t_X4_digestLot_0 hC a0 p0 p1 σ

noncomputable def b_X4_digest_118 (k118 : Nat → Int64 → Int32 → Mem → Option ((Int64) × Mem)) (a0 : Nat) (x118_1 : Int64) (x118_3 : Int32) (σ : Mem) : Option ((Int64) × Mem) :=
if 3 ≤ x118_3 then
nm (x118_1 * 31) fun v3 =>
ob 4 σ (some a0) fun h6 => cl1 (f_X4_bestMix h6 3 3 3 σ) fun v4 σ5 =>
nm (v4.toInt64) fun v7 =>
nm (v3 + v7) fun v8 =>
some (v8, σ5)
else
nm (x118_1 * 31) fun v9 =>
ob 4 σ (some a0) fun h12 => cl1 (f_X4_ofTaster h12 x118_3 0 σ) fun v10 σ11 =>
nm (v10.toInt64) fun v13 =>
nm (v9 + v13) fun v14 =>
nm (v14 * 31) fun v15 =>
ob 4 σ11 (some a0) fun h18 => cl1 (f_X4_ofTaster h18 x118_3 1 σ11) fun v16 σ17 =>
nm (v16.toInt64) fun v19 =>
nm (v15 + v19) fun v20 =>
nm (x118_3 + 1) fun v21 =>
k118 a0 v20 v21 σ17

noncomputable def l_X4_digest_118 (n : Nat) : Nat → Int64 → Int32 → Mem → Option ((Int64) × Mem) := itr (fun _ _ _ _ => none) (fun k => b_X4_digest_118  k) n

noncomputable def b_X4_digest_95 (k95 : Nat → Int64 → Int32 → Mem → Option ((Int64) × Mem)) (a0 : Nat) (x95_1 : Int64) (x95_3 : Int32) (σ : Mem) : Option ((Int64) × Mem) :=
gI 4 4 σ (some a0) fun v2 =>
if v2 ≤ x95_3 then
l_X4_digest_118 40 a0 x95_1 0 σ
else
ob 4 σ (some a0) fun h24 => cl1 (f_X4_digestLot h24 x95_1 x95_3 σ) fun v22 σ23 =>
nm (x95_3 + 1) fun v25 =>
k95 a0 v22 v25 σ23

noncomputable def l_X4_digest_95 (n : Nat) : Nat → Int64 → Int32 → Mem → Option ((Int64) × Mem) := itr (fun _ _ _ _ => none) (fun k => b_X4_digest_95  k) n

noncomputable def b_X4_digest_44 (k33 : Nat → Int64 → Int32 → Mem → Option ((Int64) × Mem)) (k44 : Nat → Int64 → Int32 → Int32 → Mem → Option ((Int64) × Mem)) (a0 : Nat) (x44_1 : Int64) (x44_3 : Int32) (x44_4 : Int32) (σ : Mem) : Option ((Int64) × Mem) :=
if 10 < x44_4 then
nm (x44_1 * 31) fun v26 =>
ob 4 σ (some a0) fun h29 => cl1 (f_X4_flushIn h29 x44_3 3 2 σ) fun v27 σ28 =>
nm (v27.toInt64) fun v30 =>
nm (v26 + v30) fun v31 =>
nm (x44_3 + 1) fun v32 =>
k33 a0 v31 v32 σ28
else
nm (x44_1 * 31) fun v33 =>
ob 4 σ (some a0) fun h36 => cl1 (f_X4_ofSection h36 x44_3 x44_4 σ) fun v34 σ35 =>
nm (v34.toInt64) fun v37 =>
nm (v33 + v37) fun v38 =>
nm (x44_4 + 1) fun v39 =>
k44 a0 v38 x44_3 v39 σ35

noncomputable def l_X4_digest_44 (k33 : Nat → Int64 → Int32 → Mem → Option ((Int64) × Mem)) (n : Nat) : Nat → Int64 → Int32 → Int32 → Mem → Option ((Int64) × Mem) := itr (fun _ _ _ _ _ => none) (fun k => b_X4_digest_44 k33 k) n

noncomputable def b_X4_digest_33 (k33 : Nat → Int64 → Int32 → Mem → Option ((Int64) × Mem)) (a0 : Nat) (x33_1 : Int64) (x33_3 : Int32) (σ : Mem) : Option ((Int64) × Mem) :=
gI 4 1 σ (some a0) fun v1 =>
if v1 ≤ x33_3 then
l_X4_digest_95 40 a0 x33_1 0 σ
else
l_X4_digest_44 k33 40 a0 x33_1 x33_3 0 σ

noncomputable def l_X4_digest_33 (n : Nat) : Nat → Int64 → Int32 → Mem → Option ((Int64) × Mem) := itr (fun _ _ _ _ => none) (fun k => b_X4_digest_33  k) n

noncomputable def b_X4_digest_6 (k6 : Nat → Int64 → Int32 → Mem → Option ((Int64) × Mem)) (a0 : Nat) (x6_1 : Int64) (x6_3 : Int32) (σ : Mem) : Option ((Int64) × Mem) :=
if 14 < x6_3 then
l_X4_digest_33 40 a0 x6_1 0 σ
else
nm (x6_1 * 31) fun v40 =>
ob 4 σ (some a0) fun h43 => cl1 (f_X4_many h43 x6_3 σ) fun v41 σ42 =>
nm (v41.toInt64) fun v44 =>
nm (v40 + v44) fun v45 =>
nm (x6_3 + 1) fun v46 =>
k6 a0 v45 v46 σ42

noncomputable def l_X4_digest_6 (n : Nat) : Nat → Int64 → Int32 → Mem → Option ((Int64) × Mem) := itr (fun _ _ _ _ => none) (fun k => b_X4_digest_6  k) n

noncomputable def b_X4_digest_0 (a0 : Nat) (σ : Mem) : Option ((Int64) × Mem) :=
l_X4_digest_6 40 a0 5402 0 σ

noncomputable def f_X4_digest (a0 : Nat) (σ : Mem) : Option ((Int64) × Mem) := b_X4_digest_0 a0 σ
set_option maxRecDepth 100000 in
set_option maxHeartbeats 4000000 in
theorem t_X4_digest_118 {C : Cxt} {G : Glb} (hC : CX C G RX4 cX4_digest 5 (some .long) 6 0 0 134) (k118 : Nat → Int64 → Int32 → Mem → Option ((Int64) × Mem)) (hk118 : ∀ (a0 : Nat) (x118_1 : Int64) (x118_3 : Int32) (σ : Mem), Wo C G 5 (QP C G rvJ 0 0) (k118 a0 x118_1 x118_3 σ) σ 0 0 118 [(0, va_rf (some a0)), (1, .long x118_1), (3, .int x118_3)] []) (a0 : Nat) (x118_1 : Int64) (x118_3 : Int32) (σ : Mem) : Wo C G 5 (QP C G rvJ 0 0) (b_X4_digest_118 k118 a0 x118_1 x118_3 σ) σ 0 0 118 [(0, va_rf (some a0)), (1, .long x118_1), (3, .int x118_3)] [] := by
  unfold b_X4_digest_118
  refine r_iloadn hC 2 rfl rfl dX4_digest_118 ?_
  refine r_iconst hC (3) rfl dX4_digest_119 ?_
  refine r_icmp_ge hC 157 dX4_digest_120 (by decide) ?_ ?_
  · refine r_lloadn hC 1 rfl rfl dX4_digest_157 ?_
    refine r_ldc2 hC (v := 31) q_470 dX4_digest_158 ?_
    refine r_lmul hC dX4_digest_161 (fun v3 => ?_)
    refine r_aloadn hC 0 (r := (some a0)) rfl rfl dX4_digest_162 ?_
    refine r_iconst hC (3) rfl dX4_digest_163 ?_
    refine r_iconst hC (3) rfl dX4_digest_164 ?_
    refine r_iconst hC (3) rfl dX4_digest_165 ?_
    refine call_V hC (av := [.int 3, .int 3, .int 3]) (st := [.long v3]) (r := (some a0)) (ci := 4) rfl rfl (fun h9 => ct_X4_bestMix hC.hl G h9 3 3 3 σ) q_548 q_451 q_452 q_13 q_453 yd_X4_bestMix rfl ⟨Nat.le_of_ble_eq_true rfl, Nat.le_of_ble_eq_true rfl⟩ ⟨Nat.zero_le _, Nat.zero_le _⟩ rfl (by simp [cat_rf, cat_i, cat_j, cat_d, cat_a]) dX4_digest_166 (fun v4 σ5 => ?_)
    show Wo _ _ _ _ _ _ _ _ _ _ [.int v4, .long v3]
    refine r_i2l hC dX4_digest_169 (fun v7 => ?_)
    refine r_ladd hC dX4_digest_170 (fun v8 => ?_)
    exact e_J hC ⟨Nat.zero_le _, Nat.zero_le _⟩ dX4_digest_171
  · refine r_lloadn hC 1 rfl rfl dX4_digest_123 ?_
    refine r_ldc2 hC (v := 31) q_470 dX4_digest_124 ?_
    refine r_lmul hC dX4_digest_127 (fun v9 => ?_)
    refine r_aloadn hC 0 (r := (some a0)) rfl rfl dX4_digest_128 ?_
    refine r_iloadn hC 2 rfl rfl dX4_digest_129 ?_
    refine r_iconst hC (0) rfl dX4_digest_130 ?_
    refine call_V hC (av := [.int x118_3, .int 0]) (st := [.long v9]) (r := (some a0)) (ci := 4) rfl rfl (fun h9 => ct_X4_ofTaster hC.hl G h9 x118_3 0 σ) q_540 q_541 q_542 q_13 q_543 yd_X4_ofTaster rfl ⟨Nat.le_of_ble_eq_true rfl, Nat.le_of_ble_eq_true rfl⟩ ⟨Nat.zero_le _, Nat.zero_le _⟩ rfl (by simp [cat_rf, cat_i, cat_j, cat_d, cat_a]) dX4_digest_131 (fun v10 σ11 => ?_)
    show Wo _ _ _ _ _ _ _ _ _ _ [.int v10, .long v9]
    refine r_i2l hC dX4_digest_134 (fun v13 => ?_)
    refine r_ladd hC dX4_digest_135 (fun v14 => ?_)
    refine r_lstoren hC [(1, .long v14), (0, va_rf (some a0)), (3, .int x118_3)] (i := 1) rfl (by decide) rfl dX4_digest_136 ?_
    refine r_lloadn hC 0 rfl rfl dX4_digest_137 ?_
    refine r_ldc2 hC (v := 31) q_470 dX4_digest_138 ?_
    refine r_lmul hC dX4_digest_141 (fun v15 => ?_)
    refine r_aloadn hC 1 (r := (some a0)) rfl rfl dX4_digest_142 ?_
    refine r_iloadn hC 2 rfl rfl dX4_digest_143 ?_
    refine r_iconst hC (1) rfl dX4_digest_144 ?_
    refine call_V hC (av := [.int x118_3, .int 1]) (st := [.long v15]) (r := (some a0)) (ci := 4) rfl rfl (fun h9 => ct_X4_ofTaster hC.hl G h9 x118_3 1 σ11) q_540 q_541 q_542 q_13 q_543 yd_X4_ofTaster rfl ⟨Nat.le_of_ble_eq_true rfl, Nat.le_of_ble_eq_true rfl⟩ ⟨Nat.zero_le _, Nat.zero_le _⟩ rfl (by simp [cat_rf, cat_i, cat_j, cat_d, cat_a]) dX4_digest_145 (fun v16 σ17 => ?_)
    show Wo _ _ _ _ _ _ _ _ _ _ [.int v16, .long v15]
    refine r_i2l hC dX4_digest_148 (fun v19 => ?_)
    refine r_ladd hC dX4_digest_149 (fun v20 => ?_)
    refine r_lstoren hC [(1, .long v20), (0, va_rf (some a0)), (3, .int x118_3)] (i := 1) rfl (by decide) rfl dX4_digest_150 ?_
    refine r_iinc hC 2 (fun w => [(3, .int w), (1, .long v20), (0, va_rf (some a0))]) 1 rfl (by decide) rfl (fun w => rfl) dX4_digest_151 (fun v21 => ?_)
    refine r_goto hC 118 dX4_digest_154 (by decide) ?_
    refine Wo.sub [2, 1, 0] rfl ?_
    exact hk118 a0 v20 v21 σ17

set_option maxRecDepth 100000 in
set_option maxHeartbeats 4000000 in
theorem u_X4_digest_118 {C : Cxt} {G : Glb} (hC : CX C G RX4 cX4_digest 5 (some .long) 6 0 0 134) : ∀ (n : Nat) (a0 : Nat) (x118_1 : Int64) (x118_3 : Int32) (σ : Mem), Wo C G 5 (QP C G rvJ 0 0) (l_X4_digest_118  n a0 x118_1 x118_3 σ) σ 0 0 118 [(0, va_rf (some a0)), (1, .long x118_1), (3, .int x118_3)] [] := by
  intro n
  induction n with
  | zero => intro a0 x118_1 x118_3 σ; exact Wo.none
  | succ n ih => intro a0 x118_1 x118_3 σ; exact t_X4_digest_118 hC (l_X4_digest_118  n) ih a0 x118_1 x118_3 σ

set_option maxRecDepth 100000 in
set_option maxHeartbeats 4000000 in
theorem t_X4_digest_95 {C : Cxt} {G : Glb} (hC : CX C G RX4 cX4_digest 5 (some .long) 6 0 0 134) (k95 : Nat → Int64 → Int32 → Mem → Option ((Int64) × Mem)) (hk95 : ∀ (a0 : Nat) (x95_1 : Int64) (x95_3 : Int32) (σ : Mem), Wo C G 5 (QP C G rvJ 0 0) (k95 a0 x95_1 x95_3 σ) σ 0 0 95 [(0, va_rf (some a0)), (1, .long x95_1), (3, .int x95_3)] []) (a0 : Nat) (x95_1 : Int64) (x95_3 : Int32) (σ : Mem) : Wo C G 5 (QP C G rvJ 0 0) (b_X4_digest_95 k95 a0 x95_1 x95_3 σ) σ 0 0 95 [(0, va_rf (some a0)), (1, .long x95_1), (3, .int x95_3)] [] := by
  unfold b_X4_digest_95
  refine r_iloadn hC 2 rfl rfl dX4_digest_95 ?_
  refine r_aloadn hC 0 (r := (some a0)) rfl rfl dX4_digest_96 ?_
  refine r_gI hC (k := 4) (r := (some a0)) cls_4 (by decide) rfl q_191 (Or.inl rfl) dX4_digest_97 (fun v2 => ?_)
  refine r_icmp_ge hC 116 dX4_digest_100 (by decide) ?_ ?_
  · refine r_iconst hC (0) rfl dX4_digest_116 ?_
    refine r_istoren hC [(3, .int 0), (0, va_rf (some a0)), (1, .long x95_1)] (i := 3) rfl (by decide) rfl dX4_digest_117 ?_
    refine Wo.sub [1, 2, 0] rfl ?_
    exact u_X4_digest_118 hC 40 a0 x95_1 0 σ
  · refine r_aloadn hC 0 (r := (some a0)) rfl rfl dX4_digest_103 ?_
    refine r_lloadn hC 1 rfl rfl dX4_digest_104 ?_
    refine r_iloadn hC 2 rfl rfl dX4_digest_105 ?_
    refine call_V hC (av := [.long x95_1, .int x95_3]) (st := []) (r := (some a0)) (ci := 4) rfl rfl (fun h9 => ct_X4_digestLot hC.hl G h9 x95_1 x95_3 σ) q_474 q_476 q_6 q_13 q_477 yd_X4_digestLot rfl ⟨Nat.le_of_ble_eq_true rfl, Nat.le_of_ble_eq_true rfl⟩ ⟨Nat.zero_le _, Nat.zero_le _⟩ rfl (Nat.le_of_ble_eq_true rfl) dX4_digest_106 (fun v22 σ23 => ?_)
    show Wo _ _ _ _ _ _ _ _ _ _ [.long v22]
    refine r_lstoren hC [(1, .long v22), (0, va_rf (some a0)), (3, .int x95_3)] (i := 1) rfl (by decide) rfl dX4_digest_109 ?_
    refine r_iinc hC 2 (fun w => [(3, .int w), (1, .long v22), (0, va_rf (some a0))]) 1 rfl (by decide) rfl (fun w => rfl) dX4_digest_110 (fun v25 => ?_)
    refine r_goto hC 95 dX4_digest_113 (by decide) ?_
    refine Wo.sub [2, 1, 0] rfl ?_
    exact hk95 a0 v22 v25 σ23

set_option maxRecDepth 100000 in
set_option maxHeartbeats 4000000 in
theorem u_X4_digest_95 {C : Cxt} {G : Glb} (hC : CX C G RX4 cX4_digest 5 (some .long) 6 0 0 134) : ∀ (n : Nat) (a0 : Nat) (x95_1 : Int64) (x95_3 : Int32) (σ : Mem), Wo C G 5 (QP C G rvJ 0 0) (l_X4_digest_95  n a0 x95_1 x95_3 σ) σ 0 0 95 [(0, va_rf (some a0)), (1, .long x95_1), (3, .int x95_3)] [] := by
  intro n
  induction n with
  | zero => intro a0 x95_1 x95_3 σ; exact Wo.none
  | succ n ih => intro a0 x95_1 x95_3 σ; exact t_X4_digest_95 hC (l_X4_digest_95  n) ih a0 x95_1 x95_3 σ

set_option maxRecDepth 100000 in
set_option maxHeartbeats 4000000 in
theorem t_X4_digest_44 {C : Cxt} {G : Glb} (hC : CX C G RX4 cX4_digest 5 (some .long) 6 0 0 134) (k33 : Nat → Int64 → Int32 → Mem → Option ((Int64) × Mem)) (hk33 : ∀ (a0 : Nat) (x33_1 : Int64) (x33_3 : Int32) (σ : Mem), Wo C G 5 (QP C G rvJ 0 0) (k33 a0 x33_1 x33_3 σ) σ 0 0 33 [(0, va_rf (some a0)), (1, .long x33_1), (3, .int x33_3)] []) (k44 : Nat → Int64 → Int32 → Int32 → Mem → Option ((Int64) × Mem)) (hk44 : ∀ (a0 : Nat) (x44_1 : Int64) (x44_3 : Int32) (x44_4 : Int32) (σ : Mem), Wo C G 5 (QP C G rvJ 0 0) (k44 a0 x44_1 x44_3 x44_4 σ) σ 0 0 44 [(0, va_rf (some a0)), (1, .long x44_1), (3, .int x44_3), (4, .int x44_4)] []) (a0 : Nat) (x44_1 : Int64) (x44_3 : Int32) (x44_4 : Int32) (σ : Mem) : Wo C G 5 (QP C G rvJ 0 0) (b_X4_digest_44 k33 k44 a0 x44_1 x44_3 x44_4 σ) σ 0 0 44 [(0, va_rf (some a0)), (1, .long x44_1), (3, .int x44_3), (4, .int x44_4)] [] := by
  unfold b_X4_digest_44
  refine r_iload hC 3 rfl dX4_digest_44 ?_
  refine r_bipush hC (10) (by decide) dX4_digest_46 ?_
  refine r_icmp_gt hC 72 dX4_digest_48 (by decide) ?_ ?_
  · refine r_lloadn hC 1 rfl rfl dX4_digest_72 ?_
    refine r_ldc2 hC (v := 31) q_470 dX4_digest_73 ?_
    refine r_lmul hC dX4_digest_76 (fun v26 => ?_)
    refine r_aloadn hC 0 (r := (some a0)) rfl rfl dX4_digest_77 ?_
    refine r_iloadn hC 2 rfl rfl dX4_digest_78 ?_
    refine r_iconst hC (3) rfl dX4_digest_79 ?_
    refine r_iconst hC (2) rfl dX4_digest_80 ?_
    refine call_V hC (av := [.int x44_3, .int 3, .int 2]) (st := [.long v26]) (r := (some a0)) (ci := 4) rfl rfl (fun h9 => ct_X4_flushIn hC.hl G h9 x44_3 3 2 σ) q_473 q_441 q_442 q_13 q_443 yd_X4_flushIn rfl ⟨Nat.le_of_ble_eq_true rfl, Nat.le_of_ble_eq_true rfl⟩ ⟨Nat.zero_le _, Nat.zero_le _⟩ rfl (by simp [cat_rf, cat_i, cat_j, cat_d, cat_a]) dX4_digest_81 (fun v27 σ28 => ?_)
    show Wo _ _ _ _ _ _ _ _ _ _ [.int v27, .long v26]
    refine r_i2l hC dX4_digest_84 (fun v30 => ?_)
    refine r_ladd hC dX4_digest_85 (fun v31 => ?_)
    refine r_lstoren hC [(1, .long v31), (0, va_rf (some a0)), (3, .int x44_3), (4, .int x44_4)] (i := 1) rfl (by decide) rfl dX4_digest_86 ?_
    refine r_iinc hC 2 (fun w => [(3, .int w), (1, .long v31), (0, va_rf (some a0)), (4, .int x44_4)]) 1 rfl (by decide) rfl (fun w => rfl) dX4_digest_87 (fun v32 => ?_)
    refine r_goto hC 33 dX4_digest_90 (by decide) ?_
    refine Wo.sub [2, 1, 0] rfl ?_
    exact hk33 a0 v31 v32 σ28
  · refine r_lloadn hC 1 rfl rfl dX4_digest_51 ?_
    refine r_ldc2 hC (v := 31) q_470 dX4_digest_52 ?_
    refine r_lmul hC dX4_digest_55 (fun v33 => ?_)
    refine r_aloadn hC 0 (r := (some a0)) rfl rfl dX4_digest_56 ?_
    refine r_iloadn hC 2 rfl rfl dX4_digest_57 ?_
    refine r_iload hC 3 rfl dX4_digest_58 ?_
    refine call_V hC (av := [.int x44_3, .int x44_4]) (st := [.long v33]) (r := (some a0)) (ci := 4) rfl rfl (fun h9 => ct_X4_ofSection hC.hl G h9 x44_3 x44_4 σ) q_472 q_382 q_383 q_13 q_384 yd_X4_ofSection rfl ⟨Nat.le_of_ble_eq_true rfl, Nat.le_of_ble_eq_true rfl⟩ ⟨Nat.zero_le _, Nat.zero_le _⟩ rfl (by simp [cat_rf, cat_i, cat_j, cat_d, cat_a]) dX4_digest_60 (fun v34 σ35 => ?_)
    show Wo _ _ _ _ _ _ _ _ _ _ [.int v34, .long v33]
    refine r_i2l hC dX4_digest_63 (fun v37 => ?_)
    refine r_ladd hC dX4_digest_64 (fun v38 => ?_)
    refine r_lstoren hC [(1, .long v38), (0, va_rf (some a0)), (3, .int x44_3), (4, .int x44_4)] (i := 1) rfl (by decide) rfl dX4_digest_65 ?_
    refine r_iinc hC 3 (fun w => [(4, .int w), (1, .long v38), (0, va_rf (some a0)), (3, .int x44_3)]) 1 rfl (by decide) rfl (fun w => rfl) dX4_digest_66 (fun v39 => ?_)
    refine r_goto hC 44 dX4_digest_69 (by decide) ?_
    refine Wo.sub [2, 1, 3, 0] rfl ?_
    exact hk44 a0 v38 x44_3 v39 σ35

set_option maxRecDepth 100000 in
set_option maxHeartbeats 4000000 in
theorem u_X4_digest_44 {C : Cxt} {G : Glb} (hC : CX C G RX4 cX4_digest 5 (some .long) 6 0 0 134) (k33 : Nat → Int64 → Int32 → Mem → Option ((Int64) × Mem)) (hk33 : ∀ (a0 : Nat) (x33_1 : Int64) (x33_3 : Int32) (σ : Mem), Wo C G 5 (QP C G rvJ 0 0) (k33 a0 x33_1 x33_3 σ) σ 0 0 33 [(0, va_rf (some a0)), (1, .long x33_1), (3, .int x33_3)] []) : ∀ (n : Nat) (a0 : Nat) (x44_1 : Int64) (x44_3 : Int32) (x44_4 : Int32) (σ : Mem), Wo C G 5 (QP C G rvJ 0 0) (l_X4_digest_44 k33 n a0 x44_1 x44_3 x44_4 σ) σ 0 0 44 [(0, va_rf (some a0)), (1, .long x44_1), (3, .int x44_3), (4, .int x44_4)] [] := by
  intro n
  induction n with
  | zero => intro a0 x44_1 x44_3 x44_4 σ; exact Wo.none
  | succ n ih => intro a0 x44_1 x44_3 x44_4 σ; exact t_X4_digest_44 hC k33 hk33 (l_X4_digest_44 k33 n) ih a0 x44_1 x44_3 x44_4 σ

set_option maxRecDepth 100000 in
set_option maxHeartbeats 4000000 in
theorem t_X4_digest_33 {C : Cxt} {G : Glb} (hC : CX C G RX4 cX4_digest 5 (some .long) 6 0 0 134) (k33 : Nat → Int64 → Int32 → Mem → Option ((Int64) × Mem)) (hk33 : ∀ (a0 : Nat) (x33_1 : Int64) (x33_3 : Int32) (σ : Mem), Wo C G 5 (QP C G rvJ 0 0) (k33 a0 x33_1 x33_3 σ) σ 0 0 33 [(0, va_rf (some a0)), (1, .long x33_1), (3, .int x33_3)] []) (a0 : Nat) (x33_1 : Int64) (x33_3 : Int32) (σ : Mem) : Wo C G 5 (QP C G rvJ 0 0) (b_X4_digest_33 k33 a0 x33_1 x33_3 σ) σ 0 0 33 [(0, va_rf (some a0)), (1, .long x33_1), (3, .int x33_3)] [] := by
  unfold b_X4_digest_33
  refine r_iloadn hC 2 rfl rfl dX4_digest_33 ?_
  refine r_aloadn hC 0 (r := (some a0)) rfl rfl dX4_digest_34 ?_
  refine r_gI hC (k := 1) (r := (some a0)) cls_4 (by decide) rfl q_188 (Or.inl rfl) dX4_digest_35 (fun v1 => ?_)
  refine r_icmp_ge hC 93 dX4_digest_38 (by decide) ?_ ?_
  · refine r_iconst hC (0) rfl dX4_digest_93 ?_
    refine r_istoren hC [(3, .int 0), (0, va_rf (some a0)), (1, .long x33_1)] (i := 3) rfl (by decide) rfl dX4_digest_94 ?_
    refine Wo.sub [1, 2, 0] rfl ?_
    exact u_X4_digest_95 hC 40 a0 x33_1 0 σ
  · refine r_iconst hC (0) rfl dX4_digest_41 ?_
    refine r_istore hC [(4, .int 0), (0, va_rf (some a0)), (1, .long x33_1), (3, .int x33_3)] (i := 4) (by decide) rfl dX4_digest_42 ?_
    refine Wo.sub [1, 2, 3, 0] rfl ?_
    exact u_X4_digest_44 hC k33 hk33 40 a0 x33_1 x33_3 0 σ

set_option maxRecDepth 100000 in
set_option maxHeartbeats 4000000 in
theorem u_X4_digest_33 {C : Cxt} {G : Glb} (hC : CX C G RX4 cX4_digest 5 (some .long) 6 0 0 134) : ∀ (n : Nat) (a0 : Nat) (x33_1 : Int64) (x33_3 : Int32) (σ : Mem), Wo C G 5 (QP C G rvJ 0 0) (l_X4_digest_33  n a0 x33_1 x33_3 σ) σ 0 0 33 [(0, va_rf (some a0)), (1, .long x33_1), (3, .int x33_3)] [] := by
  intro n
  induction n with
  | zero => intro a0 x33_1 x33_3 σ; exact Wo.none
  | succ n ih => intro a0 x33_1 x33_3 σ; exact t_X4_digest_33 hC (l_X4_digest_33  n) ih a0 x33_1 x33_3 σ

set_option maxRecDepth 100000 in
set_option maxHeartbeats 4000000 in
theorem t_X4_digest_6 {C : Cxt} {G : Glb} (hC : CX C G RX4 cX4_digest 5 (some .long) 6 0 0 134) (k6 : Nat → Int64 → Int32 → Mem → Option ((Int64) × Mem)) (hk6 : ∀ (a0 : Nat) (x6_1 : Int64) (x6_3 : Int32) (σ : Mem), Wo C G 5 (QP C G rvJ 0 0) (k6 a0 x6_1 x6_3 σ) σ 0 0 6 [(0, va_rf (some a0)), (1, .long x6_1), (3, .int x6_3)] []) (a0 : Nat) (x6_1 : Int64) (x6_3 : Int32) (σ : Mem) : Wo C G 5 (QP C G rvJ 0 0) (b_X4_digest_6 k6 a0 x6_1 x6_3 σ) σ 0 0 6 [(0, va_rf (some a0)), (1, .long x6_1), (3, .int x6_3)] [] := by
  unfold b_X4_digest_6
  refine r_iloadn hC 2 rfl rfl dX4_digest_6 ?_
  refine r_bipush hC (14) (by decide) dX4_digest_7 ?_
  refine r_icmp_gt hC 31 dX4_digest_9 (by decide) ?_ ?_
  · refine r_iconst hC (0) rfl dX4_digest_31 ?_
    refine r_istoren hC [(3, .int 0), (0, va_rf (some a0)), (1, .long x6_1)] (i := 3) rfl (by decide) rfl dX4_digest_32 ?_
    refine Wo.sub [1, 2, 0] rfl ?_
    exact u_X4_digest_33 hC 40 a0 x6_1 0 σ
  · refine r_lloadn hC 1 rfl rfl dX4_digest_12 ?_
    refine r_ldc2 hC (v := 31) q_470 dX4_digest_13 ?_
    refine r_lmul hC dX4_digest_16 (fun v40 => ?_)
    refine r_aloadn hC 0 (r := (some a0)) rfl rfl dX4_digest_17 ?_
    refine r_iloadn hC 2 rfl rfl dX4_digest_18 ?_
    refine call_V hC (av := [.int x6_3]) (st := [.long v40]) (r := (some a0)) (ci := 4) rfl rfl (fun h9 => ct_X4_many hC.hl G h9 x6_3 σ) q_471 q_395 q_396 q_13 q_397 yd_X4_many rfl ⟨Nat.le_of_ble_eq_true rfl, Nat.le_of_ble_eq_true rfl⟩ ⟨Nat.zero_le _, Nat.zero_le _⟩ rfl (by simp [cat_rf, cat_i, cat_j, cat_d, cat_a]) dX4_digest_19 (fun v41 σ42 => ?_)
    show Wo _ _ _ _ _ _ _ _ _ _ [.int v41, .long v40]
    refine r_i2l hC dX4_digest_22 (fun v44 => ?_)
    refine r_ladd hC dX4_digest_23 (fun v45 => ?_)
    refine r_lstoren hC [(1, .long v45), (0, va_rf (some a0)), (3, .int x6_3)] (i := 1) rfl (by decide) rfl dX4_digest_24 ?_
    refine r_iinc hC 2 (fun w => [(3, .int w), (1, .long v45), (0, va_rf (some a0))]) 1 rfl (by decide) rfl (fun w => rfl) dX4_digest_25 (fun v46 => ?_)
    refine r_goto hC 6 dX4_digest_28 (by decide) ?_
    refine Wo.sub [2, 1, 0] rfl ?_
    exact hk6 a0 v45 v46 σ42

set_option maxRecDepth 100000 in
set_option maxHeartbeats 4000000 in
theorem u_X4_digest_6 {C : Cxt} {G : Glb} (hC : CX C G RX4 cX4_digest 5 (some .long) 6 0 0 134) : ∀ (n : Nat) (a0 : Nat) (x6_1 : Int64) (x6_3 : Int32) (σ : Mem), Wo C G 5 (QP C G rvJ 0 0) (l_X4_digest_6  n a0 x6_1 x6_3 σ) σ 0 0 6 [(0, va_rf (some a0)), (1, .long x6_1), (3, .int x6_3)] [] := by
  intro n
  induction n with
  | zero => intro a0 x6_1 x6_3 σ; exact Wo.none
  | succ n ih => intro a0 x6_1 x6_3 σ; exact t_X4_digest_6 hC (l_X4_digest_6  n) ih a0 x6_1 x6_3 σ

set_option maxRecDepth 100000 in
set_option maxHeartbeats 4000000 in
theorem t_X4_digest_0 {C : Cxt} {G : Glb} (hC : CX C G RX4 cX4_digest 5 (some .long) 6 0 0 134) (a0 : Nat) (σ : Mem) : Wo C G 5 (QP C G rvJ 0 0) (b_X4_digest_0  a0 σ) σ 0 0 0 [(0, va_rf (some a0))] [] := by
  unfold b_X4_digest_0
  refine r_ldc2 hC (v := 5402) q_469 dX4_digest_0 ?_
  refine r_lstoren hC [(1, .long 5402), (0, va_rf (some a0))] (i := 1) rfl (by decide) rfl dX4_digest_3 ?_
  refine r_iconst hC (0) rfl dX4_digest_4 ?_
  refine r_istoren hC [(3, .int 0), (1, .long 5402), (0, va_rf (some a0))] (i := 3) rfl (by decide) rfl dX4_digest_5 ?_
  refine Wo.sub [2, 1, 0] rfl ?_
  exact u_X4_digest_6 hC 40 a0 5402 0 σ

set_option maxRecDepth 100000 in
set_option maxHeartbeats 4000000 in
theorem ct_X4_digest {l : Launch} (hl : l.stackTraces = false) (G : Glb) (a0 : Nat) (σ : Mem) : Ct rvJ l yX4_digest (Cond.code yX4_digest cX4_digest 5 (some .long) :: uW) { frames := 6, cells := 0, slots := 0, locals := 134 } 0 0 G [.ref a0] σ (f_X4_digest a0 σ) := by
  refine Ct.of hl (by decide +kernel) (Nat.le_of_ble_eq_true rfl) (fun C hC hin => ?_)
  have e : lv_args 0 [.ref a0] = [(0, .ref a0)] := rfl
  rw [e]
  exact t_X4_digest_0 hC a0 σ
