noncomputable def b_X0_init_0 (a0 : Nat) (σ : Mem) : Option ((Unit) × Mem) :=
ob 0 σ (some a0) fun _ =>
pI 0 0 σ (some a0) 0 fun σ1 =>
pI 0 1 σ1 (some a0) 0 fun σ2 =>
nA 0 4 σ2 4 fun σ3 r4 =>
pR 0 2 σ3 (some a0) r4 fun σ5 =>
nA 0 4 σ5 4 fun σ6 r7 =>
pR 0 3 σ6 (some a0) r7 fun σ8 =>
some ((), σ8)

noncomputable def f_X0_init (a0 : Nat) (σ : Mem) : Option ((Unit) × Mem) := b_X0_init_0 a0 σ
set_option maxRecDepth 100000 in
set_option maxHeartbeats 4000000 in
theorem t_X0_init_0 {C : Cxt} {G : Glb} (hC : CX C G RX0 cX0_init 1 none 1 2 8 12) (hin : (cF C).name = "<init>") (a0 : Nat) (σ : Mem) (kc ks : Nat) (hN : kc + 2 ≤ 2 ∧ ks + 8 ≤ 8) : Wo C G 1 (QP C G rvU 2 8) (b_X0_init_0  a0 σ) σ kc ks 0 [(0, va_rf (some a0))] [] := by
  unfold b_X0_init_0
  refine r_aloadn hC 0 (r := (some a0)) rfl rfl dX0_init_0 ?_
  refine call_O hC (r := (some a0)) q_47 q_31 q_32 (Nat.le_of_ble_eq_true rfl) (Nat.le_of_ble_eq_true rfl) dX0_init_1 ?_
  refine r_aloadn hC 0 (r := (some a0)) rfl rfl dX0_init_4 ?_
  refine r_iconst hC (0) rfl dX0_init_5 ?_
  refine r_pI hC (k := 0) (r := (some a0)) cls_0 (by decide) rfl q_48 (Or.inl rfl) (Or.inl rfl) dX0_init_6 (fun σ1 => ?_)
  refine r_aloadn hC 0 (r := (some a0)) rfl rfl dX0_init_9 ?_
  refine r_iconst hC (0) rfl dX0_init_10 ?_
  refine r_pI hC (k := 1) (r := (some a0)) cls_0 (by decide) rfl q_50 (Or.inl rfl) (Or.inl rfl) dX0_init_11 (fun σ2 => ?_)
  refine r_aloadn hC 0 (r := (some a0)) rfl rfl dX0_init_14 ?_
  refine r_iconst hC (4) rfl dX0_init_15 ?_
  refine r_nA hC (t := 0) (b := 4) (ty := .int) rfl rfl rfl (fun _ h => va_nm_int h) q_63 (Nat.le_of_ble_eq_true rfl) ⟨by omega, by omega⟩ dX0_init_16 (fun σ3 r4 => ?_)
  refine r_pR hC (k := 2) (r := (some a0)) (v := r4) cls_0 (by decide) rfl (Or.inr ⟨_, rfl⟩) q_51 (Or.inl rfl) (Or.inr ⟨rfl, hin, rfl⟩) dX0_init_18 (fun σ5 => ?_)
  refine r_aloadn hC 0 (r := (some a0)) rfl rfl dX0_init_21 ?_
  refine r_iconst hC (4) rfl dX0_init_22 ?_
  refine r_nA hC (t := 0) (b := 4) (ty := .int) rfl rfl rfl (fun _ h => va_nm_int h) q_63 (Nat.le_of_ble_eq_true rfl) ⟨by omega, by omega⟩ dX0_init_23 (fun σ6 r7 => ?_)
  refine r_pR hC (k := 3) (r := (some a0)) (v := r7) cls_0 (by decide) rfl (Or.inr ⟨_, rfl⟩) q_53 (Or.inl rfl) (Or.inr ⟨rfl, hin, rfl⟩) dX0_init_25 (fun σ8 => ?_)
  exact e_U hC ⟨by omega, by omega⟩ dX0_init_28

set_option maxRecDepth 100000 in
set_option maxHeartbeats 4000000 in
theorem ct_X0_init {l : Launch} (hl : l.stackTraces = false) (G : Glb) (a0 : Nat) (σ : Mem) : Ct rvU l yX0_init (Cond.code yX0_init cX0_init 1 none :: uW) { frames := 1, cells := 2, slots := 8, locals := 12 } 2 8 G [.ref a0] σ (f_X0_init a0 σ) := by
  refine Ct.of hl (by decide +kernel) (Nat.le_of_ble_eq_true rfl) (fun C hC hin => ?_)
  have e : lv_args 0 [.ref a0] = [(0, .ref a0)] := rfl
  rw [e]
  exact t_X0_init_0 hC hin a0 σ 0 0 ⟨Nat.le_of_ble_eq_true rfl, Nat.le_of_ble_eq_true rfl⟩

noncomputable def b_X0_isOpen_12 (y12_0 : Int32) (σ : Mem) : Option ((Int32) × Mem) :=
bo y12_0 (some (y12_0, σ))

noncomputable def b_X0_isOpen_0 (a0 : Nat) (σ : Mem) : Option ((Int32) × Mem) :=
gI 0 0 σ (some a0) fun v1 =>
if v1 ≤ 0 then
b_X0_isOpen_12 0 σ
else
b_X0_isOpen_12 1 σ

noncomputable def f_X0_isOpen (a0 : Nat) (σ : Mem) : Option ((Int32) × Mem) := b_X0_isOpen_0 a0 σ
set_option maxRecDepth 100000 in
set_option maxHeartbeats 4000000 in
theorem t_X0_isOpen_12 {C : Cxt} {G : Glb} (hC : CX C G RX0 cX0_isOpen 1 (some .boolean) 0 0 0 0) (y12_0 : Int32) (σ : Mem) : Wo C G 1 (QP C G rvI 0 0) (b_X0_isOpen_12  y12_0 σ) σ 0 0 12 [] [.int y12_0] := by
  unfold b_X0_isOpen_12
  exact e_B hC ⟨Nat.zero_le _, Nat.zero_le _⟩ dX0_isOpen_12

set_option maxRecDepth 100000 in
set_option maxHeartbeats 4000000 in
theorem t_X0_isOpen_0 {C : Cxt} {G : Glb} (hC : CX C G RX0 cX0_isOpen 1 (some .boolean) 0 0 0 0) (a0 : Nat) (σ : Mem) : Wo C G 1 (QP C G rvI 0 0) (b_X0_isOpen_0  a0 σ) σ 0 0 0 [(0, va_rf (some a0))] [] := by
  unfold b_X0_isOpen_0
  refine r_aloadn hC 0 (r := (some a0)) rfl rfl dX0_isOpen_0 ?_
  refine r_gI hC (k := 0) (r := (some a0)) cls_0 (by decide) rfl q_48 (Or.inl rfl) dX0_isOpen_1 (fun v1 => ?_)
  refine r_if_le hC 11 dX0_isOpen_4 (by decide) ?_ ?_
  · refine r_iconst hC (0) rfl dX0_isOpen_11 ?_
    refine Wo.sub [] rfl ?_
    exact t_X0_isOpen_12 hC 0 σ
  · refine r_iconst hC (1) rfl dX0_isOpen_7 ?_
    refine r_goto hC 12 dX0_isOpen_8 (by decide) ?_
    refine Wo.sub [] rfl ?_
    exact t_X0_isOpen_12 hC 1 σ

set_option maxRecDepth 100000 in
set_option maxHeartbeats 4000000 in
theorem ct_X0_isOpen {l : Launch} (hl : l.stackTraces = false) (G : Glb) (a0 : Nat) (σ : Mem) : Ct rvI l yX0_isOpen (Cond.code yX0_isOpen cX0_isOpen 1 (some .boolean) :: uW) { frames := 0, cells := 0, slots := 0, locals := 0 } 0 0 G [.ref a0] σ (f_X0_isOpen a0 σ) := by
  refine Ct.of hl (by decide +kernel) (Nat.le_of_ble_eq_true rfl) (fun C hC hin => ?_)
  have e : lv_args 0 [.ref a0] = [(0, .ref a0)] := rfl
  rw [e]
  exact t_X0_isOpen_0 hC a0 σ

noncomputable def b_X0_hasBid_14 (y14_0 : Int32) (σ : Mem) : Option ((Int32) × Mem) :=
bo y14_0 (some (y14_0, σ))

noncomputable def b_X0_hasBid_0 (a0 : Nat) (p0 : Int32) (σ : Mem) : Option ((Int32) × Mem) :=
gR 0 2 σ (some a0) fun r1 =>
aI σ r1 p0 fun v2 =>
if v2 ≤ 0 then
b_X0_hasBid_14 0 σ
else
b_X0_hasBid_14 1 σ

noncomputable def f_X0_hasBid (a0 : Nat) (p0 : Int32) (σ : Mem) : Option ((Int32) × Mem) := b_X0_hasBid_0 a0 p0 σ
set_option maxRecDepth 100000 in
set_option maxHeartbeats 4000000 in
theorem t_X0_hasBid_14 {C : Cxt} {G : Glb} (hC : CX C G RX0 cX0_hasBid 2 (some .boolean) 0 0 0 0) (y14_0 : Int32) (σ : Mem) : Wo C G 2 (QP C G rvI 0 0) (b_X0_hasBid_14  y14_0 σ) σ 0 0 14 [] [.int y14_0] := by
  unfold b_X0_hasBid_14
  exact e_B hC ⟨Nat.zero_le _, Nat.zero_le _⟩ dX0_hasBid_14

set_option maxRecDepth 100000 in
set_option maxHeartbeats 4000000 in
theorem t_X0_hasBid_0 {C : Cxt} {G : Glb} (hC : CX C G RX0 cX0_hasBid 2 (some .boolean) 0 0 0 0) (a0 : Nat) (p0 : Int32) (σ : Mem) : Wo C G 2 (QP C G rvI 0 0) (b_X0_hasBid_0  a0 p0 σ) σ 0 0 0 [(0, va_rf (some a0)), (1, .int p0)] [] := by
  unfold b_X0_hasBid_0
  refine r_aloadn hC 0 (r := (some a0)) rfl rfl dX0_hasBid_0 ?_
  refine r_gR hC (k := 2) (r := (some a0)) cls_0 (by decide) rfl q_51 (Or.inl rfl) dX0_hasBid_1 (fun r1 => ?_)
  refine r_iloadn hC 1 rfl rfl dX0_hasBid_4 ?_
  refine r_aI hC (r := r1) dX0_hasBid_5 (fun v2 => ?_)
  refine r_if_le hC 13 dX0_hasBid_6 (by decide) ?_ ?_
  · refine r_iconst hC (0) rfl dX0_hasBid_13 ?_
    refine Wo.sub [] rfl ?_
    exact t_X0_hasBid_14 hC 0 σ
  · refine r_iconst hC (1) rfl dX0_hasBid_9 ?_
    refine r_goto hC 14 dX0_hasBid_10 (by decide) ?_
    refine Wo.sub [] rfl ?_
    exact t_X0_hasBid_14 hC 1 σ

set_option maxRecDepth 100000 in
set_option maxHeartbeats 4000000 in
theorem ct_X0_hasBid {l : Launch} (hl : l.stackTraces = false) (G : Glb) (a0 : Nat) (p0 : Int32) (σ : Mem) : Ct rvI l yX0_hasBid (Cond.code yX0_hasBid cX0_hasBid 2 (some .boolean) :: uW) { frames := 0, cells := 0, slots := 0, locals := 0 } 0 0 G [.ref a0, .int p0] σ (f_X0_hasBid a0 p0 σ) := by
  refine Ct.of hl (by decide +kernel) (Nat.le_of_ble_eq_true rfl) (fun C hC hin => ?_)
  have e : lv_args 0 [.ref a0, .int p0] = [(0, .ref a0), (1, .int p0)] := rfl
  rw [e]
  exact t_X0_hasBid_0 hC a0 p0 σ

noncomputable def b_X0_place_0 (a0 : Nat) (p0 : Int32) (p1 : Int32) (σ : Mem) : Option ((Unit) × Mem) :=
gI 0 1 σ (some a0) fun v1 =>
nm (v1 + 1) fun v2 =>
pI 0 1 σ (some a0) v2 fun σ3 =>
gR 0 2 σ3 (some a0) fun r4 =>
wI σ3 r4 p0 p1 fun σ5 =>
gR 0 3 σ5 (some a0) fun r6 =>
gI 0 1 σ5 (some a0) fun v7 =>
wI σ5 r6 p0 v7 fun σ8 =>
some ((), σ8)

noncomputable def f_X0_place (a0 : Nat) (p0 : Int32) (p1 : Int32) (σ : Mem) : Option ((Unit) × Mem) := b_X0_place_0 a0 p0 p1 σ
set_option maxRecDepth 100000 in
set_option maxHeartbeats 4000000 in
theorem t_X0_place_0 {C : Cxt} {G : Glb} (hC : CX C G RX0 cX0_place 3 none 0 0 0 0) (a0 : Nat) (p0 : Int32) (p1 : Int32) (σ : Mem) : Wo C G 3 (QP C G rvU 0 0) (b_X0_place_0  a0 p0 p1 σ) σ 0 0 0 [(0, va_rf (some a0)), (1, .int p0), (2, .int p1)] [] := by
  unfold b_X0_place_0
  refine r_aloadn hC 0 (r := (some a0)) rfl rfl dX0_place_0 ?_
  refine r_dup hC (cat_rf _) dX0_place_1 ?_
  refine r_gI hC (k := 1) (r := (some a0)) cls_0 (by decide) rfl q_50 (Or.inl rfl) dX0_place_2 (fun v1 => ?_)
  refine r_iconst hC (1) rfl dX0_place_5 ?_
  refine r_iadd hC dX0_place_6 (fun v2 => ?_)
  refine r_pI hC (k := 1) (r := (some a0)) cls_0 (by decide) rfl q_50 (Or.inl rfl) (Or.inl rfl) dX0_place_7 (fun σ3 => ?_)
  refine r_aloadn hC 0 (r := (some a0)) rfl rfl dX0_place_10 ?_
  refine r_gR hC (k := 2) (r := (some a0)) cls_0 (by decide) rfl q_51 (Or.inl rfl) dX0_place_11 (fun r4 => ?_)
  refine r_iloadn hC 1 rfl rfl dX0_place_14 ?_
  refine r_iloadn hC 2 rfl rfl dX0_place_15 ?_
  refine r_wI hC (r := r4) dX0_place_16 (fun σ5 => ?_)
  refine r_aloadn hC 0 (r := (some a0)) rfl rfl dX0_place_17 ?_
  refine r_gR hC (k := 3) (r := (some a0)) cls_0 (by decide) rfl q_53 (Or.inl rfl) dX0_place_18 (fun r6 => ?_)
  refine r_iloadn hC 1 rfl rfl dX0_place_21 ?_
  refine r_aloadn hC 0 (r := (some a0)) rfl rfl dX0_place_22 ?_
  refine r_gI hC (k := 1) (r := (some a0)) cls_0 (by decide) rfl q_50 (Or.inl rfl) dX0_place_23 (fun v7 => ?_)
  refine r_wI hC (r := r6) dX0_place_26 (fun σ8 => ?_)
  exact e_U hC ⟨Nat.zero_le _, Nat.zero_le _⟩ dX0_place_27

set_option maxRecDepth 100000 in
set_option maxHeartbeats 4000000 in
theorem ct_X0_place {l : Launch} (hl : l.stackTraces = false) (G : Glb) (a0 : Nat) (p0 : Int32) (p1 : Int32) (σ : Mem) : Ct rvU l yX0_place (Cond.code yX0_place cX0_place 3 none :: uW) { frames := 0, cells := 0, slots := 0, locals := 0 } 0 0 G [.ref a0, .int p0, .int p1] σ (f_X0_place a0 p0 p1 σ) := by
  refine Ct.of hl (by decide +kernel) (Nat.le_of_ble_eq_true rfl) (fun C hC hin => ?_)
  have e : lv_args 0 [.ref a0, .int p0, .int p1] = [(0, .ref a0), (1, .int p0), (2, .int p1)] := rfl
  rw [e]
  exact t_X0_place_0 hC a0 p0 p1 σ

noncomputable def b_X0_countBids_24 (k4 : Nat → Int32 → Int32 → Mem → Option ((Int32) × Mem)) (a0 : Nat) (x24_1 : Int32) (x24_2 : Int32) (σ : Mem) : Option ((Int32) × Mem) :=
nm (x24_2 + 1) fun v6 =>
k4 a0 x24_1 v6 σ

noncomputable def b_X0_countBids_4 (k4 : Nat → Int32 → Int32 → Mem → Option ((Int32) × Mem)) (a0 : Nat) (x4_1 : Int32) (x4_2 : Int32) (σ : Mem) : Option ((Int32) × Mem) :=
gR 0 2 σ (some a0) fun r1 =>
aL σ r1 fun v2 =>
if v2 ≤ x4_2 then
some (x4_1, σ)
else
ob 0 σ (some a0) fun h5 => cl1 (f_X0_hasBid h5 x4_2 σ) fun v3 σ4 =>
if v3 = 0 then
b_X0_countBids_24 k4 a0 x4_1 x4_2 σ4
else
nm (x4_1 + 1) fun v7 =>
b_X0_countBids_24 k4 a0 v7 x4_2 σ4

noncomputable def l_X0_countBids_4 (n : Nat) : Nat → Int32 → Int32 → Mem → Option ((Int32) × Mem) := itr (fun _ _ _ _ => none) (fun k => b_X0_countBids_4  k) n

noncomputable def b_X0_countBids_0 (a0 : Nat) (σ : Mem) : Option ((Int32) × Mem) :=
l_X0_countBids_4 40 a0 0 0 σ

noncomputable def f_X0_countBids (a0 : Nat) (σ : Mem) : Option ((Int32) × Mem) := b_X0_countBids_0 a0 σ
set_option maxRecDepth 100000 in
set_option maxHeartbeats 4000000 in
theorem t_X0_countBids_24 {C : Cxt} {G : Glb} (hC : CX C G RX0 cX0_countBids 3 (some .int) 1 0 0 21) (k4 : Nat → Int32 → Int32 → Mem → Option ((Int32) × Mem)) (hk4 : ∀ (a0 : Nat) (x4_1 : Int32) (x4_2 : Int32) (σ : Mem), Wo C G 3 (QP C G rvI 0 0) (k4 a0 x4_1 x4_2 σ) σ 0 0 4 [(0, va_rf (some a0)), (1, .int x4_1), (2, .int x4_2)] []) (a0 : Nat) (x24_1 : Int32) (x24_2 : Int32) (σ : Mem) : Wo C G 3 (QP C G rvI 0 0) (b_X0_countBids_24 k4 a0 x24_1 x24_2 σ) σ 0 0 24 [(0, va_rf (some a0)), (1, .int x24_1), (2, .int x24_2)] [] := by
  unfold b_X0_countBids_24
  refine r_iinc hC 2 (fun w => [(2, .int w), (0, va_rf (some a0)), (1, .int x24_1)]) 1 rfl (by decide) rfl (fun w => rfl) dX0_countBids_24 (fun v6 => ?_)
  refine r_goto hC 4 dX0_countBids_27 (by decide) ?_
  refine Wo.sub [1, 2, 0] rfl ?_
  exact hk4 a0 x24_1 v6 σ

set_option maxRecDepth 100000 in
set_option maxHeartbeats 4000000 in
theorem t_X0_countBids_4 {C : Cxt} {G : Glb} (hC : CX C G RX0 cX0_countBids 3 (some .int) 1 0 0 21) (k4 : Nat → Int32 → Int32 → Mem → Option ((Int32) × Mem)) (hk4 : ∀ (a0 : Nat) (x4_1 : Int32) (x4_2 : Int32) (σ : Mem), Wo C G 3 (QP C G rvI 0 0) (k4 a0 x4_1 x4_2 σ) σ 0 0 4 [(0, va_rf (some a0)), (1, .int x4_1), (2, .int x4_2)] []) (a0 : Nat) (x4_1 : Int32) (x4_2 : Int32) (σ : Mem) : Wo C G 3 (QP C G rvI 0 0) (b_X0_countBids_4 k4 a0 x4_1 x4_2 σ) σ 0 0 4 [(0, va_rf (some a0)), (1, .int x4_1), (2, .int x4_2)] [] := by
  unfold b_X0_countBids_4
  refine r_iloadn hC 2 rfl rfl dX0_countBids_4 ?_
  refine r_aloadn hC 0 (r := (some a0)) rfl rfl dX0_countBids_5 ?_
  refine r_gR hC (k := 2) (r := (some a0)) cls_0 (by decide) rfl q_51 (Or.inl rfl) dX0_countBids_6 (fun r1 => ?_)
  refine r_aL hC (r := r1) dX0_countBids_9 (fun v2 => ?_)
  refine r_icmp_ge hC 30 dX0_countBids_10 (by decide) ?_ ?_
  · refine r_iloadn hC 1 rfl rfl dX0_countBids_30 ?_
    exact e_I hC ⟨Nat.zero_le _, Nat.zero_le _⟩ dX0_countBids_31
  · refine r_aloadn hC 0 (r := (some a0)) rfl rfl dX0_countBids_13 ?_
    refine r_iloadn hC 2 rfl rfl dX0_countBids_14 ?_
    refine call_V hC (av := [.int x4_2]) (st := []) (r := (some a0)) (ci := 0) rfl rfl (fun h9 => ct_X0_hasBid hC.hl G h9 x4_2 σ) q_377 q_378 q_379 q_15 q_380 yd_X0_hasBid rfl ⟨Nat.le_of_ble_eq_true rfl, Nat.le_of_ble_eq_true rfl⟩ ⟨Nat.zero_le _, Nat.zero_le _⟩ rfl (Nat.le_of_ble_eq_true rfl) dX0_countBids_15 (fun v3 σ4 => ?_)
    show Wo _ _ _ _ _ _ _ _ _ _ [.int v3]
    refine r_if_eq hC 24 dX0_countBids_18 (by decide) ?_ ?_
    · exact t_X0_countBids_24 hC k4 hk4 a0 x4_1 x4_2 σ4
    · refine r_iinc hC 1 (fun w => [(1, .int w), (0, va_rf (some a0)), (2, .int x4_2)]) 1 rfl (by decide) rfl (fun w => rfl) dX0_countBids_21 (fun v7 => ?_)
      refine Wo.sub [1, 0, 2] rfl ?_
      exact t_X0_countBids_24 hC k4 hk4 a0 v7 x4_2 σ4

set_option maxRecDepth 100000 in
set_option maxHeartbeats 4000000 in
theorem u_X0_countBids_4 {C : Cxt} {G : Glb} (hC : CX C G RX0 cX0_countBids 3 (some .int) 1 0 0 21) : ∀ (n : Nat) (a0 : Nat) (x4_1 : Int32) (x4_2 : Int32) (σ : Mem), Wo C G 3 (QP C G rvI 0 0) (l_X0_countBids_4  n a0 x4_1 x4_2 σ) σ 0 0 4 [(0, va_rf (some a0)), (1, .int x4_1), (2, .int x4_2)] [] := by
  intro n
  induction n with
  | zero => intro a0 x4_1 x4_2 σ; exact Wo.none
  | succ n ih => intro a0 x4_1 x4_2 σ; exact t_X0_countBids_4 hC (l_X0_countBids_4  n) ih a0 x4_1 x4_2 σ

set_option maxRecDepth 100000 in
set_option maxHeartbeats 4000000 in
theorem t_X0_countBids_0 {C : Cxt} {G : Glb} (hC : CX C G RX0 cX0_countBids 3 (some .int) 1 0 0 21) (a0 : Nat) (σ : Mem) : Wo C G 3 (QP C G rvI 0 0) (b_X0_countBids_0  a0 σ) σ 0 0 0 [(0, va_rf (some a0))] [] := by
  unfold b_X0_countBids_0
  refine r_iconst hC (0) rfl dX0_countBids_0 ?_
  refine r_istoren hC [(1, .int 0), (0, va_rf (some a0))] (i := 1) rfl (by decide) rfl dX0_countBids_1 ?_
  refine r_iconst hC (0) rfl dX0_countBids_2 ?_
  refine r_istoren hC [(2, .int 0), (1, .int 0), (0, va_rf (some a0))] (i := 2) rfl (by decide) rfl dX0_countBids_3 ?_
  refine Wo.sub [2, 1, 0] rfl ?_
  exact u_X0_countBids_4 hC 40 a0 0 0 σ

set_option maxRecDepth 100000 in
set_option maxHeartbeats 4000000 in
theorem ct_X0_countBids {l : Launch} (hl : l.stackTraces = false) (G : Glb) (a0 : Nat) (σ : Mem) : Ct rvI l yX0_countBids (Cond.code yX0_countBids cX0_countBids 3 (some .int) :: uW) { frames := 1, cells := 0, slots := 0, locals := 21 } 0 0 G [.ref a0] σ (f_X0_countBids a0 σ) := by
  refine Ct.of hl (by decide +kernel) (Nat.le_of_ble_eq_true rfl) (fun C hC hin => ?_)
  have e : lv_args 0 [.ref a0] = [(0, .ref a0)] := rfl
  rw [e]
  exact t_X0_countBids_0 hC a0 σ

noncomputable def b_X0_isAhead_50 (y50_0 : Int32) (σ : Mem) : Option ((Int32) × Mem) :=
bo y50_0 (some (y50_0, σ))

noncomputable def b_X0_isAhead_45 (σ : Mem) : Option ((Int32) × Mem) :=
b_X0_isAhead_50 1 σ

noncomputable def b_X0_isAhead_49 (σ : Mem) : Option ((Int32) × Mem) :=
b_X0_isAhead_50 0 σ

noncomputable def b_X0_isAhead_0 (a0 : Nat) (p0 : Int32) (p1 : Int32) (σ : Mem) : Option ((Int32) × Mem) :=
gR 0 2 σ (some a0) fun r1 =>
aI σ r1 p0 fun v2 =>
gR 0 2 σ (some a0) fun r3 =>
aI σ r3 p1 fun v4 =>
if v4 < v2 then
b_X0_isAhead_45 σ
else
gR 0 2 σ (some a0) fun r5 =>
aI σ r5 p0 fun v6 =>
gR 0 2 σ (some a0) fun r7 =>
aI σ r7 p1 fun v8 =>
if v6 = v8 then
gR 0 3 σ (some a0) fun r9 =>
aI σ r9 p0 fun v10 =>
gR 0 3 σ (some a0) fun r11 =>
aI σ r11 p1 fun v12 =>
if v12 ≤ v10 then
b_X0_isAhead_49 σ
else
b_X0_isAhead_45 σ
else
b_X0_isAhead_49 σ

noncomputable def f_X0_isAhead (a0 : Nat) (p0 : Int32) (p1 : Int32) (σ : Mem) : Option ((Int32) × Mem) := b_X0_isAhead_0 a0 p0 p1 σ
set_option maxRecDepth 100000 in
set_option maxHeartbeats 4000000 in
theorem t_X0_isAhead_50 {C : Cxt} {G : Glb} (hC : CX C G RX0 cX0_isAhead 3 (some .boolean) 0 0 0 0) (y50_0 : Int32) (σ : Mem) : Wo C G 3 (QP C G rvI 0 0) (b_X0_isAhead_50  y50_0 σ) σ 0 0 50 [] [.int y50_0] := by
  unfold b_X0_isAhead_50
  exact e_B hC ⟨Nat.zero_le _, Nat.zero_le _⟩ dX0_isAhead_50

set_option maxRecDepth 100000 in
set_option maxHeartbeats 4000000 in
theorem t_X0_isAhead_45 {C : Cxt} {G : Glb} (hC : CX C G RX0 cX0_isAhead 3 (some .boolean) 0 0 0 0) (σ : Mem) : Wo C G 3 (QP C G rvI 0 0) (b_X0_isAhead_45   σ) σ 0 0 45 [] [] := by
  unfold b_X0_isAhead_45
  refine r_iconst hC (1) rfl dX0_isAhead_45 ?_
  refine r_goto hC 50 dX0_isAhead_46 (by decide) ?_
  exact t_X0_isAhead_50 hC 1 σ

set_option maxRecDepth 100000 in
set_option maxHeartbeats 4000000 in
theorem t_X0_isAhead_49 {C : Cxt} {G : Glb} (hC : CX C G RX0 cX0_isAhead 3 (some .boolean) 0 0 0 0) (σ : Mem) : Wo C G 3 (QP C G rvI 0 0) (b_X0_isAhead_49   σ) σ 0 0 49 [] [] := by
  unfold b_X0_isAhead_49
  refine r_iconst hC (0) rfl dX0_isAhead_49 ?_
  exact t_X0_isAhead_50 hC 0 σ

set_option maxRecDepth 100000 in
set_option maxHeartbeats 4000000 in
theorem t_X0_isAhead_0 {C : Cxt} {G : Glb} (hC : CX C G RX0 cX0_isAhead 3 (some .boolean) 0 0 0 0) (a0 : Nat) (p0 : Int32) (p1 : Int32) (σ : Mem) : Wo C G 3 (QP C G rvI 0 0) (b_X0_isAhead_0  a0 p0 p1 σ) σ 0 0 0 [(0, va_rf (some a0)), (1, .int p0), (2, .int p1)] [] := by
  unfold b_X0_isAhead_0
  refine r_aloadn hC 0 (r := (some a0)) rfl rfl dX0_isAhead_0 ?_
  refine r_gR hC (k := 2) (r := (some a0)) cls_0 (by decide) rfl q_51 (Or.inl rfl) dX0_isAhead_1 (fun r1 => ?_)
  refine r_iloadn hC 1 rfl rfl dX0_isAhead_4 ?_
  refine r_aI hC (r := r1) dX0_isAhead_5 (fun v2 => ?_)
  refine r_aloadn hC 0 (r := (some a0)) rfl rfl dX0_isAhead_6 ?_
  refine r_gR hC (k := 2) (r := (some a0)) cls_0 (by decide) rfl q_51 (Or.inl rfl) dX0_isAhead_7 (fun r3 => ?_)
  refine r_iloadn hC 2 rfl rfl dX0_isAhead_10 ?_
  refine r_aI hC (r := r3) dX0_isAhead_11 (fun v4 => ?_)
  refine r_icmp_gt hC 45 dX0_isAhead_12 (by decide) ?_ ?_
  · refine Wo.sub [] rfl ?_
    exact t_X0_isAhead_45 hC  σ
  · refine r_aloadn hC 0 (r := (some a0)) rfl rfl dX0_isAhead_15 ?_
    refine r_gR hC (k := 2) (r := (some a0)) cls_0 (by decide) rfl q_51 (Or.inl rfl) dX0_isAhead_16 (fun r5 => ?_)
    refine r_iloadn hC 1 rfl rfl dX0_isAhead_19 ?_
    refine r_aI hC (r := r5) dX0_isAhead_20 (fun v6 => ?_)
    refine r_aloadn hC 0 (r := (some a0)) rfl rfl dX0_isAhead_21 ?_
    refine r_gR hC (k := 2) (r := (some a0)) cls_0 (by decide) rfl q_51 (Or.inl rfl) dX0_isAhead_22 (fun r7 => ?_)
    refine r_iloadn hC 2 rfl rfl dX0_isAhead_25 ?_
    refine r_aI hC (r := r7) dX0_isAhead_26 (fun v8 => ?_)
    refine r_icmp_ne hC 49 dX0_isAhead_27 (by decide) ?_ ?_
    · refine Wo.sub [] rfl ?_
      exact t_X0_isAhead_49 hC  σ
    · refine r_aloadn hC 0 (r := (some a0)) rfl rfl dX0_isAhead_30 ?_
      refine r_gR hC (k := 3) (r := (some a0)) cls_0 (by decide) rfl q_53 (Or.inl rfl) dX0_isAhead_31 (fun r9 => ?_)
      refine r_iloadn hC 1 rfl rfl dX0_isAhead_34 ?_
      refine r_aI hC (r := r9) dX0_isAhead_35 (fun v10 => ?_)
      refine r_aloadn hC 0 (r := (some a0)) rfl rfl dX0_isAhead_36 ?_
      refine r_gR hC (k := 3) (r := (some a0)) cls_0 (by decide) rfl q_53 (Or.inl rfl) dX0_isAhead_37 (fun r11 => ?_)
      refine r_iloadn hC 2 rfl rfl dX0_isAhead_40 ?_
      refine r_aI hC (r := r11) dX0_isAhead_41 (fun v12 => ?_)
      refine r_icmp_ge hC 49 dX0_isAhead_42 (by decide) ?_ ?_
      · refine Wo.sub [] rfl ?_
        exact t_X0_isAhead_49 hC  σ
      · refine Wo.sub [] rfl ?_
        exact t_X0_isAhead_45 hC  σ

set_option maxRecDepth 100000 in
set_option maxHeartbeats 4000000 in
theorem ct_X0_isAhead {l : Launch} (hl : l.stackTraces = false) (G : Glb) (a0 : Nat) (p0 : Int32) (p1 : Int32) (σ : Mem) : Ct rvI l yX0_isAhead (Cond.code yX0_isAhead cX0_isAhead 3 (some .boolean) :: uW) { frames := 0, cells := 0, slots := 0, locals := 0 } 0 0 G [.ref a0, .int p0, .int p1] σ (f_X0_isAhead a0 p0 p1 σ) := by
  refine Ct.of hl (by decide +kernel) (Nat.le_of_ble_eq_true rfl) (fun C hC hin => ?_)
  have e : lv_args 0 [.ref a0, .int p0, .int p1] = [(0, .ref a0), (1, .int p0), (2, .int p1)] := rfl
  rw [e]
  exact t_X0_isAhead_0 hC a0 p0 p1 σ

noncomputable def b_X0_close_7 (k7 : Nat → Int32 → Mem → Option ((Unit) × Mem)) (a0 : Nat) (x7_1 : Int32) (σ : Mem) : Option ((Unit) × Mem) :=
gR 0 2 σ (some a0) fun r2 =>
aL σ r2 fun v3 =>
if v3 ≤ x7_1 then
some ((), σ)
else
gR 0 2 σ (some a0) fun r4 =>
wI σ r4 x7_1 0 fun σ5 =>
nm (x7_1 + 1) fun v6 =>
k7 a0 v6 σ5

noncomputable def l_X0_close_7 (n : Nat) : Nat → Int32 → Mem → Option ((Unit) × Mem) := itr (fun _ _ _ => none) (fun k => b_X0_close_7  k) n

noncomputable def b_X0_close_0 (a0 : Nat) (σ : Mem) : Option ((Unit) × Mem) :=
pI 0 0 σ (some a0) 0 fun σ1 =>
l_X0_close_7 40 a0 0 σ1

noncomputable def f_X0_close (a0 : Nat) (σ : Mem) : Option ((Unit) × Mem) := b_X0_close_0 a0 σ
set_option maxRecDepth 100000 in
set_option maxHeartbeats 4000000 in
theorem t_X0_close_7 {C : Cxt} {G : Glb} (hC : CX C G RX0 cX0_close 2 none 0 0 0 0) (k7 : Nat → Int32 → Mem → Option ((Unit) × Mem)) (hk7 : ∀ (a0 : Nat) (x7_1 : Int32) (σ : Mem), Wo C G 2 (QP C G rvU 0 0) (k7 a0 x7_1 σ) σ 0 0 7 [(0, va_rf (some a0)), (1, .int x7_1)] []) (a0 : Nat) (x7_1 : Int32) (σ : Mem) : Wo C G 2 (QP C G rvU 0 0) (b_X0_close_7 k7 a0 x7_1 σ) σ 0 0 7 [(0, va_rf (some a0)), (1, .int x7_1)] [] := by
  unfold b_X0_close_7
  refine r_iloadn hC 1 rfl rfl dX0_close_7 ?_
  refine r_aloadn hC 0 (r := (some a0)) rfl rfl dX0_close_8 ?_
  refine r_gR hC (k := 2) (r := (some a0)) cls_0 (by decide) rfl q_51 (Or.inl rfl) dX0_close_9 (fun r2 => ?_)
  refine r_aL hC (r := r2) dX0_close_12 (fun v3 => ?_)
  refine r_icmp_ge hC 29 dX0_close_13 (by decide) ?_ ?_
  · exact e_U hC ⟨Nat.zero_le _, Nat.zero_le _⟩ dX0_close_29
  · refine r_aloadn hC 0 (r := (some a0)) rfl rfl dX0_close_16 ?_
    refine r_gR hC (k := 2) (r := (some a0)) cls_0 (by decide) rfl q_51 (Or.inl rfl) dX0_close_17 (fun r4 => ?_)
    refine r_iloadn hC 1 rfl rfl dX0_close_20 ?_
    refine r_iconst hC (0) rfl dX0_close_21 ?_
    refine r_wI hC (r := r4) dX0_close_22 (fun σ5 => ?_)
    refine r_iinc hC 1 (fun w => [(1, .int w), (0, va_rf (some a0))]) 1 rfl (by decide) rfl (fun w => rfl) dX0_close_23 (fun v6 => ?_)
    refine r_goto hC 7 dX0_close_26 (by decide) ?_
    refine Wo.sub [1, 0] rfl ?_
    exact hk7 a0 v6 σ5

set_option maxRecDepth 100000 in
set_option maxHeartbeats 4000000 in
theorem u_X0_close_7 {C : Cxt} {G : Glb} (hC : CX C G RX0 cX0_close 2 none 0 0 0 0) : ∀ (n : Nat) (a0 : Nat) (x7_1 : Int32) (σ : Mem), Wo C G 2 (QP C G rvU 0 0) (l_X0_close_7  n a0 x7_1 σ) σ 0 0 7 [(0, va_rf (some a0)), (1, .int x7_1)] [] := by
  intro n
  induction n with
  | zero => intro a0 x7_1 σ; exact Wo.none
  | succ n ih => intro a0 x7_1 σ; exact t_X0_close_7 hC (l_X0_close_7  n) ih a0 x7_1 σ

set_option maxRecDepth 100000 in
set_option maxHeartbeats 4000000 in
theorem t_X0_close_0 {C : Cxt} {G : Glb} (hC : CX C G RX0 cX0_close 2 none 0 0 0 0) (a0 : Nat) (σ : Mem) : Wo C G 2 (QP C G rvU 0 0) (b_X0_close_0  a0 σ) σ 0 0 0 [(0, va_rf (some a0))] [] := by
  unfold b_X0_close_0
  refine r_aloadn hC 0 (r := (some a0)) rfl rfl dX0_close_0 ?_
  refine r_iconst hC (0) rfl dX0_close_1 ?_
  refine r_pI hC (k := 0) (r := (some a0)) cls_0 (by decide) rfl q_48 (Or.inl rfl) (Or.inl rfl) dX0_close_2 (fun σ1 => ?_)
  refine r_iconst hC (0) rfl dX0_close_5 ?_
  refine r_istoren hC [(1, .int 0), (0, va_rf (some a0))] (i := 1) rfl (by decide) rfl dX0_close_6 ?_
  refine Wo.sub [1, 0] rfl ?_
  exact u_X0_close_7 hC 40 a0 0 σ1

set_option maxRecDepth 100000 in
set_option maxHeartbeats 4000000 in
theorem ct_X0_close {l : Launch} (hl : l.stackTraces = false) (G : Glb) (a0 : Nat) (σ : Mem) : Ct rvU l yX0_close (Cond.code yX0_close cX0_close 2 none :: uW) { frames := 0, cells := 0, slots := 0, locals := 0 } 0 0 G [.ref a0] σ (f_X0_close a0 σ) := by
  refine Ct.of hl (by decide +kernel) (Nat.le_of_ble_eq_true rfl) (fun C hC hin => ?_)
  have e : lv_args 0 [.ref a0] = [(0, .ref a0)] := rfl
  rw [e]
  exact t_X0_close_0 hC a0 σ

noncomputable def b_X2_init_0 (a0 : Nat) (σ : Mem) : Option ((Unit) × Mem) :=
ob 2 σ (some a0) fun _ =>
pI 2 0 σ (some a0) 0 fun σ1 =>
pI 2 1 σ1 (some a0) 0 fun σ2 =>
pI 2 2 σ2 (some a0) 0 fun σ3 =>
pI 2 3 σ3 (some a0) 0 fun σ4 =>
pI 2 4 σ4 (some a0) 0 fun σ5 =>
pI 2 5 σ5 (some a0) 0 fun σ6 =>
pI 2 6 σ6 (some a0) 0 fun σ7 =>
nA 0 4 σ7 4 fun σ8 r9 =>
pR 2 7 σ8 (some a0) r9 fun σ10 =>
some ((), σ10)

noncomputable def f_X2_init (a0 : Nat) (σ : Mem) : Option ((Unit) × Mem) := b_X2_init_0 a0 σ
set_option maxRecDepth 100000 in
set_option maxHeartbeats 4000000 in
theorem t_X2_init_0 {C : Cxt} {G : Glb} (hC : CX C G RX2 cX2_init 1 none 1 1 4 12) (hin : (cF C).name = "<init>") (a0 : Nat) (σ : Mem) (kc ks : Nat) (hN : kc + 1 ≤ 1 ∧ ks + 4 ≤ 4) : Wo C G 1 (QP C G rvU 1 4) (b_X2_init_0  a0 σ) σ kc ks 0 [(0, va_rf (some a0))] [] := by
  unfold b_X2_init_0
  refine r_aloadn hC 0 (r := (some a0)) rfl rfl dX2_init_0 ?_
  refine call_O hC (r := (some a0)) q_135 q_31 q_32 (Nat.le_of_ble_eq_true rfl) (Nat.le_of_ble_eq_true rfl) dX2_init_1 ?_
  refine r_aloadn hC 0 (r := (some a0)) rfl rfl dX2_init_4 ?_
  refine r_iconst hC (0) rfl dX2_init_5 ?_
  refine r_pI hC (k := 0) (r := (some a0)) cls_2 (by decide) rfl q_136 (Or.inl rfl) (Or.inl rfl) dX2_init_6 (fun σ1 => ?_)
  refine r_aloadn hC 0 (r := (some a0)) rfl rfl dX2_init_9 ?_
  refine r_iconst hC (0) rfl dX2_init_10 ?_
  refine r_pI hC (k := 1) (r := (some a0)) cls_2 (by decide) rfl q_138 (Or.inl rfl) (Or.inl rfl) dX2_init_11 (fun σ2 => ?_)
  refine r_aloadn hC 0 (r := (some a0)) rfl rfl dX2_init_14 ?_
  refine r_iconst hC (0) rfl dX2_init_15 ?_
  refine r_pI hC (k := 2) (r := (some a0)) cls_2 (by decide) rfl q_140 (Or.inl rfl) (Or.inl rfl) dX2_init_16 (fun σ3 => ?_)
  refine r_aloadn hC 0 (r := (some a0)) rfl rfl dX2_init_19 ?_
  refine r_iconst hC (0) rfl dX2_init_20 ?_
  refine r_pI hC (k := 3) (r := (some a0)) cls_2 (by decide) rfl q_142 (Or.inl rfl) (Or.inl rfl) dX2_init_21 (fun σ4 => ?_)
  refine r_aloadn hC 0 (r := (some a0)) rfl rfl dX2_init_24 ?_
  refine r_iconst hC (0) rfl dX2_init_25 ?_
  refine r_pI hC (k := 4) (r := (some a0)) cls_2 (by decide) rfl q_144 (Or.inl rfl) (Or.inl rfl) dX2_init_26 (fun σ5 => ?_)
  refine r_aloadn hC 0 (r := (some a0)) rfl rfl dX2_init_29 ?_
  refine r_iconst hC (0) rfl dX2_init_30 ?_
  refine r_pI hC (k := 5) (r := (some a0)) cls_2 (by decide) rfl q_146 (Or.inl rfl) (Or.inl rfl) dX2_init_31 (fun σ6 => ?_)
  refine r_aloadn hC 0 (r := (some a0)) rfl rfl dX2_init_34 ?_
  refine r_iconst hC (0) rfl dX2_init_35 ?_
  refine r_pI hC (k := 6) (r := (some a0)) cls_2 (by decide) rfl q_148 (Or.inl rfl) (Or.inl rfl) dX2_init_36 (fun σ7 => ?_)
  refine r_aloadn hC 0 (r := (some a0)) rfl rfl dX2_init_39 ?_
  refine r_iconst hC (4) rfl dX2_init_40 ?_
  refine r_nA hC (t := 0) (b := 4) (ty := .int) rfl rfl rfl (fun _ h => va_nm_int h) q_63 (Nat.le_of_ble_eq_true rfl) ⟨by omega, by omega⟩ dX2_init_41 (fun σ8 r9 => ?_)
  refine r_pR hC (k := 7) (r := (some a0)) (v := r9) cls_2 (by decide) rfl (Or.inr ⟨_, rfl⟩) q_150 (Or.inl rfl) (Or.inr ⟨rfl, hin, rfl⟩) dX2_init_43 (fun σ10 => ?_)
  exact e_U hC ⟨by omega, by omega⟩ dX2_init_46

set_option maxRecDepth 100000 in
set_option maxHeartbeats 4000000 in
theorem ct_X2_init {l : Launch} (hl : l.stackTraces = false) (G : Glb) (a0 : Nat) (σ : Mem) : Ct rvU l yX2_init (Cond.code yX2_init cX2_init 1 none :: uW) { frames := 1, cells := 1, slots := 4, locals := 12 } 1 4 G [.ref a0] σ (f_X2_init a0 σ) := by
  refine Ct.of hl (by decide +kernel) (Nat.le_of_ble_eq_true rfl) (fun C hC hin => ?_)
  have e : lv_args 0 [.ref a0] = [(0, .ref a0)] := rfl
  rw [e]
  exact t_X2_init_0 hC hin a0 σ 0 0 ⟨Nat.le_of_ble_eq_true rfl, Nat.le_of_ble_eq_true rfl⟩

noncomputable def b_X2_sapOfDay_0 (a0 : Nat) (p0 : Int32) (p1 : Int32) (σ : Mem) : Option ((Int32) × Mem) :=
gI 2 1 σ (some a0) fun v1 =>
nm (p0 - v1) fun v2 =>
nm (if 0 < v2 then v2 else 0) fun v3 =>
nm (if p1 < 3 then p1 else 3) fun v4 =>
nm (v3 + v4) fun v5 =>
some (v5, σ)

noncomputable def f_X2_sapOfDay (a0 : Nat) (p0 : Int32) (p1 : Int32) (σ : Mem) : Option ((Int32) × Mem) := b_X2_sapOfDay_0 a0 p0 p1 σ
set_option maxRecDepth 100000 in
set_option maxHeartbeats 4000000 in
theorem t_X2_sapOfDay_0 {C : Cxt} {G : Glb} (hC : CX C G RX2 cX2_sapOfDay 3 (some .int) 1 0 0 14) (a0 : Nat) (p0 : Int32) (p1 : Int32) (σ : Mem) : Wo C G 3 (QP C G rvI 0 0) (b_X2_sapOfDay_0  a0 p0 p1 σ) σ 0 0 0 [(0, va_rf (some a0)), (1, .int p0), (2, .int p1)] [] := by
  unfold b_X2_sapOfDay_0
  refine r_iconst hC (0) rfl dX2_sapOfDay_0 ?_
  refine r_iloadn hC 1 rfl rfl dX2_sapOfDay_1 ?_
  refine r_aloadn hC 0 (r := (some a0)) rfl rfl dX2_sapOfDay_2 ?_
  refine r_gI hC (k := 1) (r := (some a0)) cls_2 (by decide) rfl q_138 (Or.inl rfl) dX2_sapOfDay_3 (fun v1 => ?_)
  refine r_isub hC dX2_sapOfDay_6 (fun v2 => ?_)
  refine r_max hC q_448 q_426 q_24 q_427 (Nat.le_of_ble_eq_true rfl) (Nat.le_of_ble_eq_true rfl) ⟨Nat.zero_le _, Nat.zero_le _⟩ dX2_sapOfDay_7 (fun v3 => ?_)
  refine r_iconst hC (3) rfl dX2_sapOfDay_10 ?_
  refine r_iloadn hC 2 rfl rfl dX2_sapOfDay_11 ?_
  refine r_min hC q_449 q_343 q_24 q_344 (Nat.le_of_ble_eq_true rfl) (by simp [cat_rf, cat_i, cat_j, cat_d, cat_a]) ⟨Nat.zero_le _, Nat.zero_le _⟩ dX2_sapOfDay_12 (fun v4 => ?_)
  refine r_iadd hC dX2_sapOfDay_15 (fun v5 => ?_)
  exact e_I hC ⟨Nat.zero_le _, Nat.zero_le _⟩ dX2_sapOfDay_16

set_option maxRecDepth 100000 in
set_option maxHeartbeats 4000000 in
theorem ct_X2_sapOfDay {l : Launch} (hl : l.stackTraces = false) (G : Glb) (a0 : Nat) (p0 : Int32) (p1 : Int32) (σ : Mem) : Ct rvI l yX2_sapOfDay (Cond.code yX2_sapOfDay cX2_sapOfDay 3 (some .int) :: uW) { frames := 1, cells := 0, slots := 0, locals := 14 } 0 0 G [.ref a0, .int p0, .int p1] σ (f_X2_sapOfDay a0 p0 p1 σ) := by
  refine Ct.of hl (by decide +kernel) (Nat.le_of_ble_eq_true rfl) (fun C hC hin => ?_)
  have e : lv_args 0 [.ref a0, .int p0, .int p1] = [(0, .ref a0), (1, .int p0), (2, .int p1)] := rfl
  rw [e]
  exact t_X2_sapOfDay_0 hC a0 p0 p1 σ

noncomputable def b_X2_flushOnce_87 (y87_0 : Int32) (y87_1 : Int32) (y87_2 : (Option Nat)) (σ : Mem) : Option ((Unit) × Mem) :=
wI σ y87_2 y87_1 y87_0 fun σ25 =>
some ((), σ25)

noncomputable def b_X2_flushOnce_0 (a0 : Nat) (σ : Mem) : Option ((Unit) × Mem) :=
gI 2 2 σ (some a0) fun v1 =>
nm (v1 - 5) fun v2 =>
pI 2 2 σ (some a0) v2 fun σ3 =>
gI 2 6 σ3 (some a0) fun v4 =>
gR 2 7 σ3 (some a0) fun r5 =>
aI σ3 r5 3 fun v6 =>
nm (v4 + v6) fun v7 =>
pI 2 6 σ3 (some a0) v7 fun σ8 =>
gR 2 7 σ8 (some a0) fun r9 =>
gR 2 7 σ8 (some a0) fun r10 =>
aI σ8 r10 2 fun v11 =>
wI σ8 r9 3 v11 fun σ12 =>
gR 2 7 σ12 (some a0) fun r13 =>
gR 2 7 σ12 (some a0) fun r14 =>
aI σ12 r14 1 fun v15 =>
wI σ12 r13 2 v15 fun σ16 =>
gR 2 7 σ16 (some a0) fun r17 =>
gR 2 7 σ16 (some a0) fun r18 =>
aI σ16 r18 0 fun v19 =>
wI σ16 r17 1 v19 fun σ20 =>
gR 2 7 σ20 (some a0) fun r21 =>
gI 2 4 σ20 (some a0) fun v22 =>
if v22 < 3 then
gI 2 0 σ20 (some a0) fun v23 =>
nm (2 * v23) fun v24 =>
b_X2_flushOnce_87 v24 0 r21 σ20
else
gI 2 0 σ20 (some a0) fun v26 =>
b_X2_flushOnce_87 v26 0 r21 σ20

noncomputable def f_X2_flushOnce (a0 : Nat) (σ : Mem) : Option ((Unit) × Mem) := b_X2_flushOnce_0 a0 σ
set_option maxRecDepth 100000 in
set_option maxHeartbeats 4000000 in
theorem t_X2_flushOnce_87 {C : Cxt} {G : Glb} (hC : CX C G RX2 cX2_flushOnce 1 none 0 0 0 0) (y87_0 : Int32) (y87_1 : Int32) (y87_2 : (Option Nat)) (σ : Mem) : Wo C G 1 (QP C G rvU 0 0) (b_X2_flushOnce_87  y87_0 y87_1 y87_2 σ) σ 0 0 87 [] [.int y87_0, .int y87_1, va_rf y87_2] := by
  unfold b_X2_flushOnce_87
  refine r_wI hC (r := y87_2) dX2_flushOnce_87 (fun σ25 => ?_)
  exact e_U hC ⟨Nat.zero_le _, Nat.zero_le _⟩ dX2_flushOnce_88

set_option maxRecDepth 100000 in
set_option maxHeartbeats 4000000 in
theorem t_X2_flushOnce_0 {C : Cxt} {G : Glb} (hC : CX C G RX2 cX2_flushOnce 1 none 0 0 0 0) (a0 : Nat) (σ : Mem) : Wo C G 1 (QP C G rvU 0 0) (b_X2_flushOnce_0  a0 σ) σ 0 0 0 [(0, va_rf (some a0))] [] := by
  unfold b_X2_flushOnce_0
  refine r_aloadn hC 0 (r := (some a0)) rfl rfl dX2_flushOnce_0 ?_
  refine r_dup hC (cat_rf _) dX2_flushOnce_1 ?_
  refine r_gI hC (k := 2) (r := (some a0)) cls_2 (by decide) rfl q_140 (Or.inl rfl) dX2_flushOnce_2 (fun v1 => ?_)
  refine r_iconst hC (5) rfl dX2_flushOnce_5 ?_
  refine r_isub hC dX2_flushOnce_6 (fun v2 => ?_)
  refine r_pI hC (k := 2) (r := (some a0)) cls_2 (by decide) rfl q_140 (Or.inl rfl) (Or.inl rfl) dX2_flushOnce_7 (fun σ3 => ?_)
  refine r_aloadn hC 0 (r := (some a0)) rfl rfl dX2_flushOnce_10 ?_
  refine r_dup hC (cat_rf _) dX2_flushOnce_11 ?_
  refine r_gI hC (k := 6) (r := (some a0)) cls_2 (by decide) rfl q_148 (Or.inl rfl) dX2_flushOnce_12 (fun v4 => ?_)
  refine r_aloadn hC 0 (r := (some a0)) rfl rfl dX2_flushOnce_15 ?_
  refine r_gR hC (k := 7) (r := (some a0)) cls_2 (by decide) rfl q_150 (Or.inl rfl) dX2_flushOnce_16 (fun r5 => ?_)
  refine r_iconst hC (3) rfl dX2_flushOnce_19 ?_
  refine r_aI hC (r := r5) dX2_flushOnce_20 (fun v6 => ?_)
  refine r_iadd hC dX2_flushOnce_21 (fun v7 => ?_)
  refine r_pI hC (k := 6) (r := (some a0)) cls_2 (by decide) rfl q_148 (Or.inl rfl) (Or.inl rfl) dX2_flushOnce_22 (fun σ8 => ?_)
  refine r_aloadn hC 0 (r := (some a0)) rfl rfl dX2_flushOnce_25 ?_
  refine r_gR hC (k := 7) (r := (some a0)) cls_2 (by decide) rfl q_150 (Or.inl rfl) dX2_flushOnce_26 (fun r9 => ?_)
  refine r_iconst hC (3) rfl dX2_flushOnce_29 ?_
  refine r_aloadn hC 0 (r := (some a0)) rfl rfl dX2_flushOnce_30 ?_
  refine r_gR hC (k := 7) (r := (some a0)) cls_2 (by decide) rfl q_150 (Or.inl rfl) dX2_flushOnce_31 (fun r10 => ?_)
  refine r_iconst hC (2) rfl dX2_flushOnce_34 ?_
  refine r_aI hC (r := r10) dX2_flushOnce_35 (fun v11 => ?_)
  refine r_wI hC (r := r9) dX2_flushOnce_36 (fun σ12 => ?_)
  refine r_aloadn hC 0 (r := (some a0)) rfl rfl dX2_flushOnce_37 ?_
  refine r_gR hC (k := 7) (r := (some a0)) cls_2 (by decide) rfl q_150 (Or.inl rfl) dX2_flushOnce_38 (fun r13 => ?_)
  refine r_iconst hC (2) rfl dX2_flushOnce_41 ?_
  refine r_aloadn hC 0 (r := (some a0)) rfl rfl dX2_flushOnce_42 ?_
  refine r_gR hC (k := 7) (r := (some a0)) cls_2 (by decide) rfl q_150 (Or.inl rfl) dX2_flushOnce_43 (fun r14 => ?_)
  refine r_iconst hC (1) rfl dX2_flushOnce_46 ?_
  refine r_aI hC (r := r14) dX2_flushOnce_47 (fun v15 => ?_)
  refine r_wI hC (r := r13) dX2_flushOnce_48 (fun σ16 => ?_)
  refine r_aloadn hC 0 (r := (some a0)) rfl rfl dX2_flushOnce_49 ?_
  refine r_gR hC (k := 7) (r := (some a0)) cls_2 (by decide) rfl q_150 (Or.inl rfl) dX2_flushOnce_50 (fun r17 => ?_)
  refine r_iconst hC (1) rfl dX2_flushOnce_53 ?_
  refine r_aloadn hC 0 (r := (some a0)) rfl rfl dX2_flushOnce_54 ?_
  refine r_gR hC (k := 7) (r := (some a0)) cls_2 (by decide) rfl q_150 (Or.inl rfl) dX2_flushOnce_55 (fun r18 => ?_)
  refine r_iconst hC (0) rfl dX2_flushOnce_58 ?_
  refine r_aI hC (r := r18) dX2_flushOnce_59 (fun v19 => ?_)
  refine r_wI hC (r := r17) dX2_flushOnce_60 (fun σ20 => ?_)
  refine r_aloadn hC 0 (r := (some a0)) rfl rfl dX2_flushOnce_61 ?_
  refine r_gR hC (k := 7) (r := (some a0)) cls_2 (by decide) rfl q_150 (Or.inl rfl) dX2_flushOnce_62 (fun r21 => ?_)
  refine r_iconst hC (0) rfl dX2_flushOnce_65 ?_
  refine r_aloadn hC 0 (r := (some a0)) rfl rfl dX2_flushOnce_66 ?_
  refine r_gI hC (k := 4) (r := (some a0)) cls_2 (by decide) rfl q_144 (Or.inl rfl) dX2_flushOnce_67 (fun v22 => ?_)
  refine r_iconst hC (3) rfl dX2_flushOnce_70 ?_
  refine r_icmp_lt hC 81 dX2_flushOnce_71 (by decide) ?_ ?_
  · refine r_iconst hC (2) rfl dX2_flushOnce_81 ?_
    refine r_aloadn hC 0 (r := (some a0)) rfl rfl dX2_flushOnce_82 ?_
    refine r_gI hC (k := 0) (r := (some a0)) cls_2 (by decide) rfl q_136 (Or.inl rfl) dX2_flushOnce_83 (fun v23 => ?_)
    refine r_imul hC dX2_flushOnce_86 (fun v24 => ?_)
    refine Wo.sub [] rfl ?_
    exact t_X2_flushOnce_87 hC v24 0 r21 σ20
  · refine r_aloadn hC 0 (r := (some a0)) rfl rfl dX2_flushOnce_74 ?_
    refine r_gI hC (k := 0) (r := (some a0)) cls_2 (by decide) rfl q_136 (Or.inl rfl) dX2_flushOnce_75 (fun v26 => ?_)
    refine r_goto hC 87 dX2_flushOnce_78 (by decide) ?_
    refine Wo.sub [] rfl ?_
    exact t_X2_flushOnce_87 hC v26 0 r21 σ20

set_option maxRecDepth 100000 in
set_option maxHeartbeats 4000000 in
theorem ct_X2_flushOnce {l : Launch} (hl : l.stackTraces = false) (G : Glb) (a0 : Nat) (σ : Mem) : Ct rvU l yX2_flushOnce (Cond.code yX2_flushOnce cX2_flushOnce 1 none :: uW) { frames := 0, cells := 0, slots := 0, locals := 0 } 0 0 G [.ref a0] σ (f_X2_flushOnce a0 σ) := by
  refine Ct.of hl (by decide +kernel) (Nat.le_of_ble_eq_true rfl) (fun C hC hin => ?_)
  have e : lv_args 0 [.ref a0] = [(0, .ref a0)] := rfl
  rw [e]
  exact t_X2_flushOnce_0 hC a0 σ

noncomputable def b_X2_growDay_94 (k94 : Nat → Int32 → Int32 → Mem → Option ((Int32) × Mem)) (a0 : Nat) (x94_3 : Int32) (x94_4 : Int32) (σ : Mem) : Option ((Int32) × Mem) :=
if x94_3 ≤ x94_4 then
some (x94_3, σ)
else
ob 2 σ (some a0) fun h19 => cl1 (f_X2_flushOnce h19 σ) fun u17 σ18 =>
nm (x94_4 + 1) fun v20 =>
k94 a0 x94_3 v20 σ18

noncomputable def l_X2_growDay_94 (n : Nat) : Nat → Int32 → Int32 → Mem → Option ((Int32) × Mem) := itr (fun _ _ _ _ => none) (fun k => b_X2_growDay_94  k) n

noncomputable def b_X2_growDay_66 (a0 : Nat) (x66_1 : Int32) (x66_2 : Int32) (y66_0 : Int32) (y66_1 : (Option Nat)) (σ : Mem) : Option ((Int32) × Mem) :=
pI 2 4 σ y66_1 y66_0 fun σ8 =>
gI 2 2 σ8 (some a0) fun v9 =>
ob 2 σ8 (some a0) fun h12 => cl1 (f_X2_sapOfDay h12 x66_1 x66_2 σ8) fun v10 σ11 =>
nm (v9 + v10) fun v13 =>
pI 2 2 σ11 (some a0) v13 fun σ14 =>
gI 2 2 σ14 (some a0) fun v15 =>
dv v15 5 fun v16 =>
l_X2_growDay_94 40 a0 v16 0 σ14

noncomputable def b_X2_growDay_17 (a0 : Nat) (x17_1 : Int32) (x17_2 : Int32) (σ : Mem) : Option ((Int32) × Mem) :=
gI 2 3 σ (some a0) fun v2 =>
if v2 ≤ 0 then
gI 2 1 σ (some a0) fun v3 =>
nm (x17_2 + v3) fun v4 =>
if v4 < 5 then
gI 2 4 σ (some a0) fun v5 =>
nm (v5 - 1) fun v6 =>
nm (if 0 < v6 then v6 else 0) fun v7 =>
b_X2_growDay_66 a0 x17_1 x17_2 v7 (some a0) σ
else
gI 2 4 σ (some a0) fun v21 =>
nm (v21 + 1) fun v22 =>
b_X2_growDay_66 a0 x17_1 x17_2 v22 (some a0) σ
else
gI 2 3 σ (some a0) fun v23 =>
nm (v23 - 1) fun v24 =>
pI 2 3 σ (some a0) v24 fun σ25 =>
some (0, σ25)

noncomputable def b_X2_growDay_0 (a0 : Nat) (p0 : Int32) (p1 : Int32) (σ : Mem) : Option ((Int32) × Mem) :=
gI 2 5 σ (some a0) fun v1 =>
if v1 ≤ 0 then
b_X2_growDay_17 a0 p0 p1 σ
else
gI 2 5 σ (some a0) fun v26 =>
nm (v26 - 1) fun v27 =>
pI 2 5 σ (some a0) v27 fun σ28 =>
b_X2_growDay_17 a0 p0 p1 σ28

noncomputable def f_X2_growDay (a0 : Nat) (p0 : Int32) (p1 : Int32) (σ : Mem) : Option ((Int32) × Mem) := b_X2_growDay_0 a0 p0 p1 σ
set_option maxRecDepth 100000 in
set_option maxHeartbeats 4000000 in
theorem t_X2_growDay_94 {C : Cxt} {G : Glb} (hC : CX C G RX2 cX2_growDay 5 (some .int) 2 0 0 36) (k94 : Nat → Int32 → Int32 → Mem → Option ((Int32) × Mem)) (hk94 : ∀ (a0 : Nat) (x94_3 : Int32) (x94_4 : Int32) (σ : Mem), Wo C G 5 (QP C G rvI 0 0) (k94 a0 x94_3 x94_4 σ) σ 0 0 94 [(0, va_rf (some a0)), (3, .int x94_3), (4, .int x94_4)] []) (a0 : Nat) (x94_3 : Int32) (x94_4 : Int32) (σ : Mem) : Wo C G 5 (QP C G rvI 0 0) (b_X2_growDay_94 k94 a0 x94_3 x94_4 σ) σ 0 0 94 [(0, va_rf (some a0)), (3, .int x94_3), (4, .int x94_4)] [] := by
  unfold b_X2_growDay_94
  refine r_iload hC 2 rfl dX2_growDay_94 ?_
  refine r_iloadn hC 1 rfl rfl dX2_growDay_96 ?_
  refine r_icmp_ge hC 110 dX2_growDay_97 (by decide) ?_ ?_
  · refine r_iloadn hC 1 rfl rfl dX2_growDay_110 ?_
    exact e_I hC ⟨Nat.zero_le _, Nat.zero_le _⟩ dX2_growDay_111
  · refine r_aloadn hC 0 (r := (some a0)) rfl rfl dX2_growDay_100 ?_
    refine call_V hC (av := []) (st := []) (r := (some a0)) (ci := 2) rfl rfl (fun h9 => ct_X2_flushOnce hC.hl G h9 σ) q_569 q_570 q_571 q_16 q_572 yd_X2_flushOnce rfl ⟨Nat.le_of_ble_eq_true rfl, Nat.le_of_ble_eq_true rfl⟩ ⟨Nat.zero_le _, Nat.zero_le _⟩ rfl (Nat.le_of_ble_eq_true rfl) dX2_growDay_101 (fun u17 σ18 => ?_)
    show Wo _ _ _ _ _ _ _ _ _ _ []
    refine r_iinc hC 2 (fun w => [(4, .int w), (0, va_rf (some a0)), (3, .int x94_3)]) 1 rfl (by decide) rfl (fun w => rfl) dX2_growDay_104 (fun v20 => ?_)
    refine r_goto hC 94 dX2_growDay_107 (by decide) ?_
    refine Wo.sub [1, 2, 0] rfl ?_
    exact hk94 a0 x94_3 v20 σ18

set_option maxRecDepth 100000 in
set_option maxHeartbeats 4000000 in
theorem u_X2_growDay_94 {C : Cxt} {G : Glb} (hC : CX C G RX2 cX2_growDay 5 (some .int) 2 0 0 36) : ∀ (n : Nat) (a0 : Nat) (x94_3 : Int32) (x94_4 : Int32) (σ : Mem), Wo C G 5 (QP C G rvI 0 0) (l_X2_growDay_94  n a0 x94_3 x94_4 σ) σ 0 0 94 [(0, va_rf (some a0)), (3, .int x94_3), (4, .int x94_4)] [] := by
  intro n
  induction n with
  | zero => intro a0 x94_3 x94_4 σ; exact Wo.none
  | succ n ih => intro a0 x94_3 x94_4 σ; exact t_X2_growDay_94 hC (l_X2_growDay_94  n) ih a0 x94_3 x94_4 σ

set_option maxRecDepth 100000 in
set_option maxHeartbeats 4000000 in
theorem t_X2_growDay_66 {C : Cxt} {G : Glb} (hC : CX C G RX2 cX2_growDay 5 (some .int) 2 0 0 36) (a0 : Nat) (x66_1 : Int32) (x66_2 : Int32) (y66_0 : Int32) (y66_1 : (Option Nat)) (σ : Mem) : Wo C G 5 (QP C G rvI 0 0) (b_X2_growDay_66  a0 x66_1 x66_2 y66_0 y66_1 σ) σ 0 0 66 [(0, va_rf (some a0)), (1, .int x66_1), (2, .int x66_2)] [.int y66_0, va_rf y66_1] := by
  unfold b_X2_growDay_66
  refine r_pI hC (k := 4) (r := y66_1) cls_2 (by decide) rfl q_144 (Or.inl rfl) (Or.inl rfl) dX2_growDay_66 (fun σ8 => ?_)
  refine r_aloadn hC 0 (r := (some a0)) rfl rfl dX2_growDay_69 ?_
  refine r_dup hC (cat_rf _) dX2_growDay_70 ?_
  refine r_gI hC (k := 2) (r := (some a0)) cls_2 (by decide) rfl q_140 (Or.inl rfl) dX2_growDay_71 (fun v9 => ?_)
  refine r_aloadn hC 0 (r := (some a0)) rfl rfl dX2_growDay_74 ?_
  refine r_iloadn hC 1 rfl rfl dX2_growDay_75 ?_
  refine r_iloadn hC 2 rfl rfl dX2_growDay_76 ?_
  refine call_V hC (av := [.int x66_1, .int x66_2]) (st := [.int v9, va_rf (some a0)]) (r := (some a0)) (ci := 2) rfl rfl (fun h9 => ct_X2_sapOfDay hC.hl G h9 x66_1 x66_2 σ8) q_568 q_445 q_446 q_16 q_447 yd_X2_sapOfDay rfl ⟨Nat.le_of_ble_eq_true rfl, Nat.le_of_ble_eq_true rfl⟩ ⟨Nat.zero_le _, Nat.zero_le _⟩ rfl (by simp [cat_rf, cat_i, cat_j, cat_d, cat_a]) dX2_growDay_77 (fun v10 σ11 => ?_)
  show Wo _ _ _ _ _ _ _ _ _ _ [.int v10, .int v9, va_rf (some a0)]
  refine r_iadd hC dX2_growDay_80 (fun v13 => ?_)
  refine r_pI hC (k := 2) (r := (some a0)) cls_2 (by decide) rfl q_140 (Or.inl rfl) (Or.inl rfl) dX2_growDay_81 (fun σ14 => ?_)
  refine r_aloadn hC 0 (r := (some a0)) rfl rfl dX2_growDay_84 ?_
  refine r_gI hC (k := 2) (r := (some a0)) cls_2 (by decide) rfl q_140 (Or.inl rfl) dX2_growDay_85 (fun v15 => ?_)
  refine r_iconst hC (5) rfl dX2_growDay_88 ?_
  refine r_idiv hC dX2_growDay_89 (fun v16 => ?_)
  refine r_istoren hC [(3, .int v16), (0, va_rf (some a0)), (1, .int x66_1), (2, .int x66_2)] (i := 3) rfl (by decide) rfl dX2_growDay_90 ?_
  refine r_iconst hC (0) rfl dX2_growDay_91 ?_
  refine r_istore hC [(4, .int 0), (3, .int v16), (0, va_rf (some a0)), (1, .int x66_1), (2, .int x66_2)] (i := 4) (by decide) rfl dX2_growDay_92 ?_
  refine Wo.sub [2, 1, 0] rfl ?_
  exact u_X2_growDay_94 hC 40 a0 v16 0 σ14

set_option maxRecDepth 100000 in
set_option maxHeartbeats 4000000 in
theorem t_X2_growDay_17 {C : Cxt} {G : Glb} (hC : CX C G RX2 cX2_growDay 5 (some .int) 2 0 0 36) (a0 : Nat) (x17_1 : Int32) (x17_2 : Int32) (σ : Mem) : Wo C G 5 (QP C G rvI 0 0) (b_X2_growDay_17  a0 x17_1 x17_2 σ) σ 0 0 17 [(0, va_rf (some a0)), (1, .int x17_1), (2, .int x17_2)] [] := by
  unfold b_X2_growDay_17
  refine r_aloadn hC 0 (r := (some a0)) rfl rfl dX2_growDay_17 ?_
  refine r_gI hC (k := 3) (r := (some a0)) cls_2 (by decide) rfl q_142 (Or.inl rfl) dX2_growDay_18 (fun v2 => ?_)
  refine r_if_le hC 36 dX2_growDay_21 (by decide) ?_ ?_
  · refine r_aloadn hC 0 (r := (some a0)) rfl rfl dX2_growDay_36 ?_
    refine r_iloadn hC 2 rfl rfl dX2_growDay_37 ?_
    refine r_aloadn hC 0 (r := (some a0)) rfl rfl dX2_growDay_38 ?_
    refine r_gI hC (k := 1) (r := (some a0)) cls_2 (by decide) rfl q_138 (Or.inl rfl) dX2_growDay_39 (fun v3 => ?_)
    refine r_iadd hC dX2_growDay_42 (fun v4 => ?_)
    refine r_iconst hC (5) rfl dX2_growDay_43 ?_
    refine r_icmp_lt hC 56 dX2_growDay_44 (by decide) ?_ ?_
    · refine r_iconst hC (0) rfl dX2_growDay_56 ?_
      refine r_aloadn hC 0 (r := (some a0)) rfl rfl dX2_growDay_57 ?_
      refine r_gI hC (k := 4) (r := (some a0)) cls_2 (by decide) rfl q_144 (Or.inl rfl) dX2_growDay_58 (fun v5 => ?_)
      refine r_iconst hC (1) rfl dX2_growDay_61 ?_
      refine r_isub hC dX2_growDay_62 (fun v6 => ?_)
      refine r_max hC q_448 q_426 q_24 q_427 (Nat.le_of_ble_eq_true rfl) (by simp [cat_rf, cat_i, cat_j, cat_d, cat_a]) ⟨Nat.zero_le _, Nat.zero_le _⟩ dX2_growDay_63 (fun v7 => ?_)
      exact t_X2_growDay_66 hC a0 x17_1 x17_2 v7 (some a0) σ
    · refine r_aloadn hC 0 (r := (some a0)) rfl rfl dX2_growDay_47 ?_
      refine r_gI hC (k := 4) (r := (some a0)) cls_2 (by decide) rfl q_144 (Or.inl rfl) dX2_growDay_48 (fun v21 => ?_)
      refine r_iconst hC (1) rfl dX2_growDay_51 ?_
      refine r_iadd hC dX2_growDay_52 (fun v22 => ?_)
      refine r_goto hC 66 dX2_growDay_53 (by decide) ?_
      exact t_X2_growDay_66 hC a0 x17_1 x17_2 v22 (some a0) σ
  · refine r_aloadn hC 0 (r := (some a0)) rfl rfl dX2_growDay_24 ?_
    refine r_dup hC (cat_rf _) dX2_growDay_25 ?_
    refine r_gI hC (k := 3) (r := (some a0)) cls_2 (by decide) rfl q_142 (Or.inl rfl) dX2_growDay_26 (fun v23 => ?_)
    refine r_iconst hC (1) rfl dX2_growDay_29 ?_
    refine r_isub hC dX2_growDay_30 (fun v24 => ?_)
    refine r_pI hC (k := 3) (r := (some a0)) cls_2 (by decide) rfl q_142 (Or.inl rfl) (Or.inl rfl) dX2_growDay_31 (fun σ25 => ?_)
    refine r_iconst hC (0) rfl dX2_growDay_34 ?_
    exact e_I hC ⟨Nat.zero_le _, Nat.zero_le _⟩ dX2_growDay_35

set_option maxRecDepth 100000 in
set_option maxHeartbeats 4000000 in
theorem t_X2_growDay_0 {C : Cxt} {G : Glb} (hC : CX C G RX2 cX2_growDay 5 (some .int) 2 0 0 36) (a0 : Nat) (p0 : Int32) (p1 : Int32) (σ : Mem) : Wo C G 5 (QP C G rvI 0 0) (b_X2_growDay_0  a0 p0 p1 σ) σ 0 0 0 [(0, va_rf (some a0)), (1, .int p0), (2, .int p1)] [] := by
  unfold b_X2_growDay_0
  refine r_aloadn hC 0 (r := (some a0)) rfl rfl dX2_growDay_0 ?_
  refine r_gI hC (k := 5) (r := (some a0)) cls_2 (by decide) rfl q_146 (Or.inl rfl) dX2_growDay_1 (fun v1 => ?_)
  refine r_if_le hC 17 dX2_growDay_4 (by decide) ?_ ?_
  · exact t_X2_growDay_17 hC a0 p0 p1 σ
  · refine r_aloadn hC 0 (r := (some a0)) rfl rfl dX2_growDay_7 ?_
    refine r_dup hC (cat_rf _) dX2_growDay_8 ?_
    refine r_gI hC (k := 5) (r := (some a0)) cls_2 (by decide) rfl q_146 (Or.inl rfl) dX2_growDay_9 (fun v26 => ?_)
    refine r_iconst hC (1) rfl dX2_growDay_12 ?_
    refine r_isub hC dX2_growDay_13 (fun v27 => ?_)
    refine r_pI hC (k := 5) (r := (some a0)) cls_2 (by decide) rfl q_146 (Or.inl rfl) (Or.inl rfl) dX2_growDay_14 (fun σ28 => ?_)
    exact t_X2_growDay_17 hC a0 p0 p1 σ28

set_option maxRecDepth 100000 in
set_option maxHeartbeats 4000000 in
theorem ct_X2_growDay {l : Launch} (hl : l.stackTraces = false) (G : Glb) (a0 : Nat) (p0 : Int32) (p1 : Int32) (σ : Mem) : Ct rvI l yX2_growDay (Cond.code yX2_growDay cX2_growDay 5 (some .int) :: uW) { frames := 2, cells := 0, slots := 0, locals := 36 } 0 0 G [.ref a0, .int p0, .int p1] σ (f_X2_growDay a0 p0 p1 σ) := by
  refine Ct.of hl (by decide +kernel) (Nat.le_of_ble_eq_true rfl) (fun C hC hin => ?_)
  have e : lv_args 0 [.ref a0, .int p0, .int p1] = [(0, .ref a0), (1, .int p0), (2, .int p1)] := rfl
  rw [e]
  exact t_X2_growDay_0 hC a0 p0 p1 σ

noncomputable def b_X3_init_0 (a0 : Nat) (σ : Mem) : Option ((Unit) × Mem) :=
ob 3 σ (some a0) fun _ =>
pI 3 0 σ (some a0) 0 fun σ1 =>
pI 3 1 σ1 (some a0) 0 fun σ2 =>
pI 3 2 σ2 (some a0) 0 fun σ3 =>
some ((), σ3)

noncomputable def f_X3_init (a0 : Nat) (σ : Mem) : Option ((Unit) × Mem) := b_X3_init_0 a0 σ
set_option maxRecDepth 100000 in
set_option maxHeartbeats 4000000 in
theorem t_X3_init_0 {C : Cxt} {G : Glb} (hC : CX C G RX3 cX3_init 1 none 1 0 0 12) (a0 : Nat) (σ : Mem) : Wo C G 1 (QP C G rvU 0 0) (b_X3_init_0  a0 σ) σ 0 0 0 [(0, va_rf (some a0))] [] := by
  unfold b_X3_init_0
  refine r_aloadn hC 0 (r := (some a0)) rfl rfl dX3_init_0 ?_
  refine call_O hC (r := (some a0)) q_173 q_31 q_32 (Nat.le_of_ble_eq_true rfl) (Nat.le_of_ble_eq_true rfl) dX3_init_1 ?_
  refine r_aloadn hC 0 (r := (some a0)) rfl rfl dX3_init_4 ?_
  refine r_iconst hC (0) rfl dX3_init_5 ?_
  refine r_pI hC (k := 0) (r := (some a0)) cls_3 (by decide) rfl q_174 (Or.inl rfl) (Or.inl rfl) dX3_init_6 (fun σ1 => ?_)
  refine r_aloadn hC 0 (r := (some a0)) rfl rfl dX3_init_9 ?_
  refine r_iconst hC (0) rfl dX3_init_10 ?_
  refine r_pI hC (k := 1) (r := (some a0)) cls_3 (by decide) rfl q_176 (Or.inl rfl) (Or.inl rfl) dX3_init_11 (fun σ2 => ?_)
  refine r_aloadn hC 0 (r := (some a0)) rfl rfl dX3_init_14 ?_
  refine r_iconst hC (0) rfl dX3_init_15 ?_
  refine r_pI hC (k := 2) (r := (some a0)) cls_3 (by decide) rfl q_178 (Or.inl rfl) (Or.inl rfl) dX3_init_16 (fun σ3 => ?_)
  exact e_U hC ⟨Nat.zero_le _, Nat.zero_le _⟩ dX3_init_19

set_option maxRecDepth 100000 in
set_option maxHeartbeats 4000000 in
theorem ct_X3_init {l : Launch} (hl : l.stackTraces = false) (G : Glb) (a0 : Nat) (σ : Mem) : Ct rvU l yX3_init (Cond.code yX3_init cX3_init 1 none :: uW) { frames := 1, cells := 0, slots := 0, locals := 12 } 0 0 G [.ref a0] σ (f_X3_init a0 σ) := by
  refine Ct.of hl (by decide +kernel) (Nat.le_of_ble_eq_true rfl) (fun C hC hin => ?_)
  have e : lv_args 0 [.ref a0] = [(0, .ref a0)] := rfl
  rw [e]
  exact t_X3_init_0 hC a0 σ

noncomputable def b_X3_tells_0 (a0 : Nat) (p0 : Int32) (σ : Mem) : Option ((Int32) × Mem) :=
gI 3 0 σ (some a0) fun v1 =>
nm (p0 + v1) fun v2 =>
cl1 (f_X4_heldNote v2 σ) fun v3 σ4 =>
some (v3, σ4)

noncomputable def f_X3_tells (a0 : Nat) (p0 : Int32) (σ : Mem) : Option ((Int32) × Mem) := b_X3_tells_0 a0 p0 σ
set_option maxRecDepth 100000 in
set_option maxHeartbeats 4000000 in
theorem t_X3_tells_0 {C : Cxt} {G : Glb} (hC : CX C G RX3 cX3_tells 2 (some .int) 2 0 0 34) (a0 : Nat) (p0 : Int32) (σ : Mem) : Wo C G 2 (QP C G rvI 0 0) (b_X3_tells_0  a0 p0 σ) σ 0 0 0 [(0, va_rf (some a0)), (1, .int p0)] [] := by
  unfold b_X3_tells_0
  refine r_iloadn hC 1 rfl rfl dX3_tells_0 ?_
  refine r_aloadn hC 0 (r := (some a0)) rfl rfl dX3_tells_1 ?_
  refine r_gI hC (k := 0) (r := (some a0)) cls_3 (by decide) rfl q_174 (Or.inl rfl) dX3_tells_2 (fun v1 => ?_)
  refine r_iadd hC dX3_tells_5 (fun v2 => ?_)
  refine call_SN hC (av := [.int v2]) (st := []) (ct_X4_heldNote hC.hl G v2 σ) z_491 q_423 q_13 q_424 yd_X4_heldNote rfl ⟨Nat.le_of_ble_eq_true rfl, Nat.le_of_ble_eq_true rfl⟩ ⟨Nat.zero_le _, Nat.zero_le _⟩ rfl (Nat.le_of_ble_eq_true rfl) dX3_tells_6 (fun v3 σ4 => ?_)
  show Wo _ _ _ _ _ _ _ _ _ _ [.int v3]
  exact e_I hC ⟨Nat.zero_le _, Nat.zero_le _⟩ dX3_tells_9

set_option maxRecDepth 100000 in
set_option maxHeartbeats 4000000 in
theorem ct_X3_tells {l : Launch} (hl : l.stackTraces = false) (G : Glb) (a0 : Nat) (p0 : Int32) (σ : Mem) : Ct rvI l yX3_tells (Cond.code yX3_tells cX3_tells 2 (some .int) :: uW) { frames := 2, cells := 0, slots := 0, locals := 34 } 0 0 G [.ref a0, .int p0] σ (f_X3_tells a0 p0 σ) := by
  refine Ct.of hl (by decide +kernel) (Nat.le_of_ble_eq_true rfl) (fun C hC hin => ?_)
  have e : lv_args 0 [.ref a0, .int p0] = [(0, .ref a0), (1, .int p0)] := rfl
  rw [e]
  exact t_X3_tells_0 hC a0 p0 σ

noncomputable def b_X3_guess_42 (y42_0 : Int32) (σ : Mem) : Option ((Int32) × Mem) :=
some (y42_0, σ)

noncomputable def b_X3_guess_0 (a0 : Nat) (σ : Mem) : Option ((Int32) × Mem) :=
gI 3 2 σ (some a0) fun v1 =>
nm (3 * v1) fun v2 =>
if 0 < v2 then
gI 3 1 σ (some a0) fun v3 =>
nm (if 0 ≤ v3 then v3 else 0 - v3) fun v4 =>
nm (2 * v4) fun v5 =>
nm (v5 + v2) fun v6 =>
nm (2 * v2) fun v7 =>
dv v6 v7 fun v8 =>
gI 3 1 σ (some a0) fun v9 =>
if 0 ≤ v9 then
b_X3_guess_42 v8 σ
else
nm (-v8) fun v10 =>
b_X3_guess_42 v10 σ
else
some (0, σ)

noncomputable def f_X3_guess (a0 : Nat) (σ : Mem) : Option ((Int32) × Mem) := b_X3_guess_0 a0 σ
set_option maxRecDepth 100000 in
set_option maxHeartbeats 4000000 in
theorem t_X3_guess_42 {C : Cxt} {G : Glb} (hC : CX C G RX3 cX3_guess 3 (some .int) 1 0 0 14) (y42_0 : Int32) (σ : Mem) : Wo C G 3 (QP C G rvI 0 0) (b_X3_guess_42  y42_0 σ) σ 0 0 42 [] [.int y42_0] := by
  unfold b_X3_guess_42
  exact e_I hC ⟨Nat.zero_le _, Nat.zero_le _⟩ dX3_guess_42

set_option maxRecDepth 100000 in
set_option maxHeartbeats 4000000 in
theorem t_X3_guess_0 {C : Cxt} {G : Glb} (hC : CX C G RX3 cX3_guess 3 (some .int) 1 0 0 14) (a0 : Nat) (σ : Mem) : Wo C G 3 (QP C G rvI 0 0) (b_X3_guess_0  a0 σ) σ 0 0 0 [(0, va_rf (some a0))] [] := by
  unfold b_X3_guess_0
  refine r_iconst hC (3) rfl dX3_guess_0 ?_
  refine r_aloadn hC 0 (r := (some a0)) rfl rfl dX3_guess_1 ?_
  refine r_gI hC (k := 2) (r := (some a0)) cls_3 (by decide) rfl q_178 (Or.inl rfl) dX3_guess_2 (fun v1 => ?_)
  refine r_imul hC dX3_guess_5 (fun v2 => ?_)
  refine r_istoren hC [(1, .int v2), (0, va_rf (some a0))] (i := 1) rfl (by decide) rfl dX3_guess_6 ?_
  refine r_iloadn hC 0 rfl rfl dX3_guess_7 ?_
  refine r_if_gt hC 13 dX3_guess_8 (by decide) ?_ ?_
  · refine r_iconst hC (2) rfl dX3_guess_13 ?_
    refine r_aloadn hC 1 (r := (some a0)) rfl rfl dX3_guess_14 ?_
    refine r_gI hC (k := 1) (r := (some a0)) cls_3 (by decide) rfl q_176 (Or.inl rfl) dX3_guess_15 (fun v3 => ?_)
    refine r_abs hC q_496 q_433 q_24 q_434 (Nat.le_of_ble_eq_true rfl) (by simp [cat_rf, cat_i, cat_j, cat_d, cat_a]) ⟨Nat.zero_le _, Nat.zero_le _⟩ dX3_guess_18 (fun v4 => ?_)
    refine r_imul hC dX3_guess_21 (fun v5 => ?_)
    refine r_iloadn hC 0 rfl rfl dX3_guess_22 ?_
    refine r_iadd hC dX3_guess_23 (fun v6 => ?_)
    refine r_iconst hC (2) rfl dX3_guess_24 ?_
    refine r_iloadn hC 0 rfl rfl dX3_guess_25 ?_
    refine r_imul hC dX3_guess_26 (fun v7 => ?_)
    refine r_idiv hC dX3_guess_27 (fun v8 => ?_)
    refine r_istoren hC [(2, .int v8), (1, .int v2), (0, va_rf (some a0))] (i := 2) rfl (by decide) rfl dX3_guess_28 ?_
    refine r_aloadn hC 2 (r := (some a0)) rfl rfl dX3_guess_29 ?_
    refine r_gI hC (k := 1) (r := (some a0)) cls_3 (by decide) rfl q_176 (Or.inl rfl) dX3_guess_30 (fun v9 => ?_)
    refine r_if_ge hC 41 dX3_guess_33 (by decide) ?_ ?_
    · refine r_iloadn hC 0 rfl rfl dX3_guess_41 ?_
      refine Wo.sub [] rfl ?_
      exact t_X3_guess_42 hC v8 σ
    · refine r_iloadn hC 0 rfl rfl dX3_guess_36 ?_
      refine r_ineg hC dX3_guess_37 (fun v10 => ?_)
      refine r_goto hC 42 dX3_guess_38 (by decide) ?_
      refine Wo.sub [] rfl ?_
      exact t_X3_guess_42 hC v10 σ
  · refine r_iconst hC (0) rfl dX3_guess_11 ?_
    exact e_I hC ⟨Nat.zero_le _, Nat.zero_le _⟩ dX3_guess_12

set_option maxRecDepth 100000 in
set_option maxHeartbeats 4000000 in
theorem ct_X3_guess {l : Launch} (hl : l.stackTraces = false) (G : Glb) (a0 : Nat) (σ : Mem) : Ct rvI l yX3_guess (Cond.code yX3_guess cX3_guess 3 (some .int) :: uW) { frames := 1, cells := 0, slots := 0, locals := 14 } 0 0 G [.ref a0] σ (f_X3_guess a0 σ) := by
  refine Ct.of hl (by decide +kernel) (Nat.le_of_ble_eq_true rfl) (fun C hC hin => ?_)
  have e : lv_args 0 [.ref a0] = [(0, .ref a0)] := rfl
  rw [e]
  exact t_X3_guess_0 hC a0 σ
