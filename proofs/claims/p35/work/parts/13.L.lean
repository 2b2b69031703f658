noncomputable def b_L_below_0 (p0 : Int32) (p1 : Int32) (σ : Mem) : Option ((Int32) × Mem) :=
nm (p0 &&& 2147483647) fun v1 =>
rm v1 p1 fun v2 =>
some (v2, σ)

noncomputable def f_L_below (p0 : Int32) (p1 : Int32) (σ : Mem) : Option ((Int32) × Mem) := b_L_below_0 p0 p1 σ
set_option maxRecDepth 100000 in
set_option maxHeartbeats 4000000 in
theorem t_L_below_0 {C : Cxt} {G : Glb} (hC : CX C G RL cL_below 2 (some .int) 0 0 0 0) (p0 : Int32) (p1 : Int32) (σ : Mem) : Wo C G 2 (QP C G rvI 0 0) (b_L_below_0  p0 p1 σ) σ 0 0 0 [(0, .int p0), (1, .int p1)] [] := by
  unfold b_L_below_0
  refine r_iloadn hC 0 rfl rfl dL_below_0 ?_
  refine r_ldc hC (v := 2147483647) q_552 dL_below_1 ?_
  refine r_iand hC dL_below_3 (fun v1 => ?_)
  refine r_iloadn hC 1 rfl rfl dL_below_4 ?_
  refine r_irem hC dL_below_5 (fun v2 => ?_)
  exact e_I hC ⟨Nat.zero_le _, Nat.zero_le _⟩ dL_below_6

set_option maxRecDepth 100000 in
set_option maxHeartbeats 4000000 in
theorem ct_L_below {l : Launch} (hl : l.stackTraces = false) (G : Glb) (p0 : Int32) (p1 : Int32) (σ : Mem) : Ct rvI l yL_below (Cond.code yL_below cL_below 2 (some .int) :: uW) { frames := 0, cells := 0, slots := 0, locals := 0 } 0 0 G [.int p0, .int p1] σ (f_L_below p0 p1 σ) := by
  refine Ct.of hl (by decide +kernel) (Nat.le_of_ble_eq_true rfl) (fun C hC hin => ?_)
  have e : lv_args 0 [.int p0, .int p1] = [(0, .int p0), (1, .int p1)] := rfl
  rw [e]
  exact t_L_below_0 hC p0 p1 σ

noncomputable def b_L_cell_18 (xs : Nat → Int32) (L9 b9 : Nat) (y18_0 : Int32) (σ : Mem) : Option ((Int32) × Mem) :=
some (y18_0, σ)

noncomputable def b_L_cell_0 (xs : Nat → Int32) (L9 b9 : Nat) (p0 : (Option Nat)) (p1 : Int32) (σ : Mem) : Option ((Int32) × Mem) :=
aLs L9 b9 p0 fun v1 =>
if v1 ≤ p1 then
nm (p1 + 3) fun v2 =>
nm (790386105 * v2) fun v3 =>
b_L_cell_18 xs L9 b9 v3 σ
else
aIs xs L9 b9 p0 p1 fun v4 =>
b_L_cell_18 xs L9 b9 v4 σ

noncomputable def f_L_cell (xs : Nat → Int32) (L9 b9 : Nat) (p0 : (Option Nat)) (p1 : Int32) (σ : Mem) : Option ((Int32) × Mem) := b_L_cell_0 xs L9 b9 p0 p1 σ
set_option maxRecDepth 100000 in
set_option maxHeartbeats 4000000 in
theorem t_L_cell_18 {C : Cxt} {G : Glb} (hC : CX C G RL cL_cell 2 (some .int) 0 0 0 0) (y18_0 : Int32) (σ : Mem) : Wo C G 2 (QP C G rvI 0 0) (b_L_cell_18 (gX G) (gL G) (gB G)  y18_0 σ) σ 0 0 18 [] [.int y18_0] := by
  unfold b_L_cell_18
  exact e_I hC ⟨Nat.zero_le _, Nat.zero_le _⟩ dL_cell_18

set_option maxRecDepth 100000 in
set_option maxHeartbeats 4000000 in
theorem t_L_cell_0 {C : Cxt} {G : Glb} (hC : CX C G RL cL_cell 2 (some .int) 0 0 0 0) (p0 : (Option Nat)) (p1 : Int32) (σ : Mem) : Wo C G 2 (QP C G rvI 0 0) (b_L_cell_0 (gX G) (gL G) (gB G)  p0 p1 σ) σ 0 0 0 [(0, va_rf p0), (1, .int p1)] [] := by
  unfold b_L_cell_0
  refine r_iloadn hC 1 rfl rfl dL_cell_0 ?_
  refine r_aloadn hC 0 (r := p0) rfl rfl dL_cell_1 ?_
  refine r_aLs hC (r := p0) dL_cell_2 (fun v1 => ?_)
  refine r_icmp_ge hC 12 dL_cell_3 (by decide) ?_ ?_
  · refine r_ldc hC (v := 790386105) q_556 dL_cell_12 ?_
    refine r_iloadn hC 1 rfl rfl dL_cell_14 ?_
    refine r_iconst hC (3) rfl dL_cell_15 ?_
    refine r_iadd hC dL_cell_16 (fun v2 => ?_)
    refine r_imul hC dL_cell_17 (fun v3 => ?_)
    refine Wo.sub [] rfl ?_
    exact t_L_cell_18 hC v3 σ
  · refine r_aloadn hC 0 (r := p0) rfl rfl dL_cell_6 ?_
    refine r_iloadn hC 1 rfl rfl dL_cell_7 ?_
    refine r_aIs hC (r := p0) dL_cell_8 (fun v4 => ?_)
    refine r_goto hC 18 dL_cell_9 (by decide) ?_
    refine Wo.sub [] rfl ?_
    exact t_L_cell_18 hC v4 σ

set_option maxRecDepth 100000 in
set_option maxHeartbeats 4000000 in
theorem ct_L_cell {l : Launch} (hl : l.stackTraces = false) (G : Glb) (p0 : (Option Nat)) (p1 : Int32) (σ : Mem) : Ct rvI l yL_cell (Cond.code yL_cell cL_cell 2 (some .int) :: uW) { frames := 0, cells := 0, slots := 0, locals := 0 } 0 0 G [va_rf p0, .int p1] σ (f_L_cell (gX G) (gL G) (gB G) p0 p1 σ) := by
  refine Ct.of hl (by decide +kernel) (by simp [lg_sl, cat_rf, cat_i, cat_j, cat_d, cat_a]) (fun C hC hin => ?_)
  have e : lv_args 0 [va_rf p0, .int p1] = [(0, va_rf p0), (1, .int p1)] := by simp [lv_args, cat_rf, cat_i, cat_j, cat_d, cat_a]
  rw [e]
  exact t_L_cell_0 hC p0 p1 σ

noncomputable def b_L_isGrown_177 (y177_0 : Int32) (σ : Mem) : Option ((Int32) × Mem) :=
bo y177_0 (some (y177_0, σ))

noncomputable def b_L_isGrown_176 (σ : Mem) : Option ((Int32) × Mem) :=
b_L_isGrown_177 0 σ

noncomputable def b_L_isGrown_132 (x132_0 : (Option Nat)) (x132_1 : Int32) (x132_2 : Int32) (x132_3 : Int32) (x132_6 : Int32) (σ : Mem) : Option ((Int32) × Mem) :=
ob 4 σ x132_0 fun h16 => cl1 (f_X4_pass h16 x132_2 x132_3 1 σ) fun v14 σ15 =>
if v14 ≤ 0 then
b_L_isGrown_176 σ15
else
ob 4 σ15 x132_0 fun h19 => cl1 (f_X4_ofSection h19 x132_1 2 σ15) fun v17 σ18 =>
if 5 ≤ v17 then
b_L_isGrown_176 σ18
else
ob 4 σ18 x132_0 fun h22 => cl1 (f_X4_ofSection h22 x132_1 9 σ18) fun v20 σ21 =>
ob 4 σ21 x132_0 fun h25 => cl1 (f_X4_ofSection h25 x132_1 10 σ21) fun v23 σ24 =>
nm (v20 + v23) fun v26 =>
if v26 < x132_6 then
b_L_isGrown_176 σ24
else
b_L_isGrown_177 1 σ24

noncomputable def b_L_isGrown_130 (σ : Mem) : Option ((Int32) × Mem) :=
bo 0 (some (0, σ))

noncomputable def b_L_isGrown_87 (y87_0 : Int32) (σ : Mem) : Option ((Int32) × Mem) :=
bo y87_0 (some (y87_0, σ))

noncomputable def b_L_isGrown_86 (σ : Mem) : Option ((Int32) × Mem) :=
b_L_isGrown_87 0 σ

noncomputable def b_L_isGrown_0 (p0 : (Option Nat)) (p1 : Int32) (p2 : Int32) (p3 : Int32) (σ : Mem) : Option ((Int32) × Mem) :=
ob 4 σ p0 fun h3 => cl1 (f_X4_flushIn h3 p1 p2 p3 σ) fun v1 σ2 =>
ob 4 σ2 p0 fun h6 => cl1 (f_X4_ofSection h6 p1 6 σ2) fun v4 σ5 =>
ob 4 σ5 p0 fun h9 => cl1 (f_X4_ofSection h9 p1 9 σ5) fun v7 σ8 =>
ob 4 σ8 p0 fun h12 => cl1 (f_X4_ofSection h12 p1 10 σ8) fun v10 σ11 =>
nm (v7 + v10) fun v13 =>
if 0 ≤ v1 then
if v1 ≤ 1 then
b_L_isGrown_132 p0 p1 p2 p3 v13 σ11
else
nm (v1 - 1) fun v27 =>
ob 4 σ11 p0 fun h30 => cl1 (f_X4_pass h30 p2 p3 v27 σ11) fun v28 σ29 =>
if v28 < 0 then
b_L_isGrown_130 σ29
else
ob 4 σ29 p0 fun h33 => cl1 (f_X4_ofSection h33 p1 6 σ29) fun v31 σ32 =>
if v31 = v4 then
ob 4 σ32 p0 fun h36 => cl1 (f_X4_flushIn h36 p1 p2 p3 σ32) fun v34 σ35 =>
if v34 = 1 then
b_L_isGrown_132 p0 p1 p2 p3 v13 σ35
else
b_L_isGrown_130 σ35
else
b_L_isGrown_130 σ32
else
ob 4 σ11 p0 fun h39 => cl1 (f_X4_pass h39 p2 p3 1 σ11) fun v37 σ38 =>
if v37 < 0 then
b_L_isGrown_86 σ38
else
ob 4 σ38 p0 fun h42 => cl1 (f_X4_ofSection h42 p1 6 σ38) fun v40 σ41 =>
if v40 = v4 then
ob 4 σ41 p0 fun h45 => cl1 (f_X4_ofSection h45 p1 9 σ41) fun v43 σ44 =>
ob 4 σ44 p0 fun h48 => cl1 (f_X4_ofSection h48 p1 10 σ44) fun v46 σ47 =>
nm (v43 + v46) fun v49 =>
if v49 = v13 then
b_L_isGrown_87 1 σ47
else
b_L_isGrown_86 σ47
else
b_L_isGrown_86 σ41

noncomputable def f_L_isGrown (p0 : (Option Nat)) (p1 : Int32) (p2 : Int32) (p3 : Int32) (σ : Mem) : Option ((Int32) × Mem) := b_L_isGrown_0 p0 p1 p2 p3 σ
set_option maxRecDepth 100000 in
set_option maxHeartbeats 4000000 in
theorem t_L_isGrown_177 {C : Cxt} {G : Glb} (hC : CX C G RL cL_isGrown 7 (some .boolean) 4 0 0 86) (y177_0 : Int32) (σ : Mem) : Wo C G 7 (QP C G rvI 0 0) (b_L_isGrown_177  y177_0 σ) σ 0 0 177 [] [.int y177_0] := by
  unfold b_L_isGrown_177
  exact e_B hC ⟨Nat.zero_le _, Nat.zero_le _⟩ dL_isGrown_177

set_option maxRecDepth 100000 in
set_option maxHeartbeats 4000000 in
theorem t_L_isGrown_176 {C : Cxt} {G : Glb} (hC : CX C G RL cL_isGrown 7 (some .boolean) 4 0 0 86) (σ : Mem) : Wo C G 7 (QP C G rvI 0 0) (b_L_isGrown_176   σ) σ 0 0 176 [] [] := by
  unfold b_L_isGrown_176
  refine r_iconst hC (0) rfl dL_isGrown_176 ?_
  exact t_L_isGrown_177 hC 0 σ

set_option maxRecDepth 100000 in
set_option maxHeartbeats 4000000 in
theorem t_L_isGrown_132 {C : Cxt} {G : Glb} (hC : CX C G RL cL_isGrown 7 (some .boolean) 4 0 0 86) (x132_0 : (Option Nat)) (x132_1 : Int32) (x132_2 : Int32) (x132_3 : Int32) (x132_6 : Int32) (σ : Mem) : Wo C G 7 (QP C G rvI 0 0) (b_L_isGrown_132  x132_0 x132_1 x132_2 x132_3 x132_6 σ) σ 0 0 132 [(0, va_rf x132_0), (1, .int x132_1), (2, .int x132_2), (3, .int x132_3), (6, .int x132_6)] [] := by
  unfold b_L_isGrown_132
  refine r_aloadn hC 0 (r := x132_0) rfl rfl dL_isGrown_132 ?_
  refine r_iloadn hC 2 rfl rfl dL_isGrown_133 ?_
  refine r_iloadn hC 3 rfl rfl dL_isGrown_134 ?_
  refine r_iconst hC (1) rfl dL_isGrown_135 ?_
  refine call_V hC (av := [.int x132_2, .int x132_3, .int 1]) (st := []) (r := x132_0) (ci := 4) rfl rfl (fun h9 => ct_X4_pass hC.hl G h9 x132_2 x132_3 1 σ) q_560 q_561 q_562 q_13 q_563 yd_X4_pass rfl ⟨Nat.le_of_ble_eq_true rfl, Nat.le_of_ble_eq_true rfl⟩ ⟨Nat.zero_le _, Nat.zero_le _⟩ rfl (Nat.le_of_ble_eq_true rfl) dL_isGrown_136 (fun v14 σ15 => ?_)
  show Wo _ _ _ _ _ _ _ _ _ _ [.int v14]
  refine r_if_le hC 176 dL_isGrown_139 (by decide) ?_ ?_
  · refine Wo.sub [] rfl ?_
    exact t_L_isGrown_176 hC  σ15
  · refine r_aloadn hC 0 (r := x132_0) rfl rfl dL_isGrown_142 ?_
    refine r_iloadn hC 1 rfl rfl dL_isGrown_143 ?_
    refine r_iconst hC (2) rfl dL_isGrown_144 ?_
    refine call_V hC (av := [.int x132_1, .int 2]) (st := []) (r := x132_0) (ci := 4) rfl rfl (fun h9 => ct_X4_ofSection hC.hl G h9 x132_1 2 σ15) q_381 q_382 q_383 q_13 q_384 yd_X4_ofSection rfl ⟨Nat.le_of_ble_eq_true rfl, Nat.le_of_ble_eq_true rfl⟩ ⟨Nat.zero_le _, Nat.zero_le _⟩ rfl (Nat.le_of_ble_eq_true rfl) dL_isGrown_145 (fun v17 σ18 => ?_)
    show Wo _ _ _ _ _ _ _ _ _ _ [.int v17]
    refine r_iconst hC (5) rfl dL_isGrown_148 ?_
    refine r_icmp_ge hC 176 dL_isGrown_149 (by decide) ?_ ?_
    · refine Wo.sub [] rfl ?_
      exact t_L_isGrown_176 hC  σ18
    · refine r_aloadn hC 0 (r := x132_0) rfl rfl dL_isGrown_152 ?_
      refine r_iloadn hC 1 rfl rfl dL_isGrown_153 ?_
      refine r_bipush hC (9) (by decide) dL_isGrown_154 ?_
      refine call_V hC (av := [.int x132_1, .int 9]) (st := []) (r := x132_0) (ci := 4) rfl rfl (fun h9 => ct_X4_ofSection hC.hl G h9 x132_1 9 σ18) q_381 q_382 q_383 q_13 q_384 yd_X4_ofSection rfl ⟨Nat.le_of_ble_eq_true rfl, Nat.le_of_ble_eq_true rfl⟩ ⟨Nat.zero_le _, Nat.zero_le _⟩ rfl (Nat.le_of_ble_eq_true rfl) dL_isGrown_156 (fun v20 σ21 => ?_)
      show Wo _ _ _ _ _ _ _ _ _ _ [.int v20]
      refine r_aloadn hC 0 (r := x132_0) rfl rfl dL_isGrown_159 ?_
      refine r_iloadn hC 1 rfl rfl dL_isGrown_160 ?_
      refine r_bipush hC (10) (by decide) dL_isGrown_161 ?_
      refine call_V hC (av := [.int x132_1, .int 10]) (st := [.int v20]) (r := x132_0) (ci := 4) rfl rfl (fun h9 => ct_X4_ofSection hC.hl G h9 x132_1 10 σ21) q_381 q_382 q_383 q_13 q_384 yd_X4_ofSection rfl ⟨Nat.le_of_ble_eq_true rfl, Nat.le_of_ble_eq_true rfl⟩ ⟨Nat.zero_le _, Nat.zero_le _⟩ rfl (by simp [cat_rf, cat_i, cat_j, cat_d, cat_a]) dL_isGrown_163 (fun v23 σ24 => ?_)
      show Wo _ _ _ _ _ _ _ _ _ _ [.int v23, .int v20]
      refine r_iadd hC dL_isGrown_166 (fun v26 => ?_)
      refine r_iload hC 4 rfl dL_isGrown_167 ?_
      refine r_icmp_lt hC 176 dL_isGrown_169 (by decide) ?_ ?_
      · refine Wo.sub [] rfl ?_
        exact t_L_isGrown_176 hC  σ24
      · refine r_iconst hC (1) rfl dL_isGrown_172 ?_
        refine r_goto hC 177 dL_isGrown_173 (by decide) ?_
        refine Wo.sub [] rfl ?_
        exact t_L_isGrown_177 hC 1 σ24

set_option maxRecDepth 100000 in
set_option maxHeartbeats 4000000 in
theorem t_L_isGrown_130 {C : Cxt} {G : Glb} (hC : CX C G RL cL_isGrown 7 (some .boolean) 4 0 0 86) (σ : Mem) : Wo C G 7 (QP C G rvI 0 0) (b_L_isGrown_130   σ) σ 0 0 130 [] [] := by
  unfold b_L_isGrown_130
  refine r_iconst hC (0) rfl dL_isGrown_130 ?_
  exact e_B hC ⟨Nat.zero_le _, Nat.zero_le _⟩ dL_isGrown_131

set_option maxRecDepth 100000 in
set_option maxHeartbeats 4000000 in
theorem t_L_isGrown_87 {C : Cxt} {G : Glb} (hC : CX C G RL cL_isGrown 7 (some .boolean) 4 0 0 86) (y87_0 : Int32) (σ : Mem) : Wo C G 7 (QP C G rvI 0 0) (b_L_isGrown_87  y87_0 σ) σ 0 0 87 [] [.int y87_0] := by
  unfold b_L_isGrown_87
  exact e_B hC ⟨Nat.zero_le _, Nat.zero_le _⟩ dL_isGrown_87

set_option maxRecDepth 100000 in
set_option maxHeartbeats 4000000 in
theorem t_L_isGrown_86 {C : Cxt} {G : Glb} (hC : CX C G RL cL_isGrown 7 (some .boolean) 4 0 0 86) (σ : Mem) : Wo C G 7 (QP C G rvI 0 0) (b_L_isGrown_86   σ) σ 0 0 86 [] [] := by
  unfold b_L_isGrown_86
  refine r_iconst hC (0) rfl dL_isGrown_86 ?_
  exact t_L_isGrown_87 hC 0 σ

set_option maxRecDepth 100000 in
set_option maxHeartbeats 4000000 in
theorem t_L_isGrown_0 {C : Cxt} {G : Glb} (hC : CX C G RL cL_isGrown 7 (some .boolean) 4 0 0 86) (p0 : (Option Nat)) (p1 : Int32) (p2 : Int32) (p3 : Int32) (σ : Mem) : Wo C G 7 (QP C G rvI 0 0) (b_L_isGrown_0  p0 p1 p2 p3 σ) σ 0 0 0 [(0, va_rf p0), (1, .int p1), (2, .int p2), (3, .int p3)] [] := by
  unfold b_L_isGrown_0
  refine r_aloadn hC 0 (r := p0) rfl rfl dL_isGrown_0 ?_
  refine r_iloadn hC 1 rfl rfl dL_isGrown_1 ?_
  refine r_iloadn hC 2 rfl rfl dL_isGrown_2 ?_
  refine r_iloadn hC 3 rfl rfl dL_isGrown_3 ?_
  refine call_V hC (av := [.int p1, .int p2, .int p3]) (st := []) (r := p0) (ci := 4) rfl rfl (fun h9 => ct_X4_flushIn hC.hl G h9 p1 p2 p3 σ) q_440 q_441 q_442 q_13 q_443 yd_X4_flushIn rfl ⟨Nat.le_of_ble_eq_true rfl, Nat.le_of_ble_eq_true rfl⟩ ⟨Nat.zero_le _, Nat.zero_le _⟩ rfl (Nat.le_of_ble_eq_true rfl) dL_isGrown_4 (fun v1 σ2 => ?_)
  show Wo _ _ _ _ _ _ _ _ _ _ [.int v1]
  refine r_istore hC [(4, .int v1), (0, va_rf p0), (1, .int p1), (2, .int p2), (3, .int p3)] (i := 4) (by decide) rfl dL_isGrown_7 ?_
  refine r_aloadn hC 1 (r := p0) rfl rfl dL_isGrown_9 ?_
  refine r_iloadn hC 2 rfl rfl dL_isGrown_10 ?_
  refine r_bipush hC (6) (by decide) dL_isGrown_11 ?_
  refine call_V hC (av := [.int p1, .int 6]) (st := []) (r := p0) (ci := 4) rfl rfl (fun h9 => ct_X4_ofSection hC.hl G h9 p1 6 σ2) q_381 q_382 q_383 q_13 q_384 yd_X4_ofSection rfl ⟨Nat.le_of_ble_eq_true rfl, Nat.le_of_ble_eq_true rfl⟩ ⟨Nat.zero_le _, Nat.zero_le _⟩ rfl (Nat.le_of_ble_eq_true rfl) dL_isGrown_13 (fun v4 σ5 => ?_)
  show Wo _ _ _ _ _ _ _ _ _ _ [.int v4]
  refine r_istore hC [(5, .int v4), (4, .int v1), (0, va_rf p0), (1, .int p1), (2, .int p2), (3, .int p3)] (i := 5) (by decide) rfl dL_isGrown_16 ?_
  refine r_aloadn hC 2 (r := p0) rfl rfl dL_isGrown_18 ?_
  refine r_iloadn hC 3 rfl rfl dL_isGrown_19 ?_
  refine r_bipush hC (9) (by decide) dL_isGrown_20 ?_
  refine call_V hC (av := [.int p1, .int 9]) (st := []) (r := p0) (ci := 4) rfl rfl (fun h9 => ct_X4_ofSection hC.hl G h9 p1 9 σ5) q_381 q_382 q_383 q_13 q_384 yd_X4_ofSection rfl ⟨Nat.le_of_ble_eq_true rfl, Nat.le_of_ble_eq_true rfl⟩ ⟨Nat.zero_le _, Nat.zero_le _⟩ rfl (Nat.le_of_ble_eq_true rfl) dL_isGrown_22 (fun v7 σ8 => ?_)
  show Wo _ _ _ _ _ _ _ _ _ _ [.int v7]
  refine r_aloadn hC 2 (r := p0) rfl rfl dL_isGrown_25 ?_
  refine r_iloadn hC 3 rfl rfl dL_isGrown_26 ?_
  refine r_bipush hC (10) (by decide) dL_isGrown_27 ?_
  refine call_V hC (av := [.int p1, .int 10]) (st := [.int v7]) (r := p0) (ci := 4) rfl rfl (fun h9 => ct_X4_ofSection hC.hl G h9 p1 10 σ8) q_381 q_382 q_383 q_13 q_384 yd_X4_ofSection rfl ⟨Nat.le_of_ble_eq_true rfl, Nat.le_of_ble_eq_true rfl⟩ ⟨Nat.zero_le _, Nat.zero_le _⟩ rfl (by simp [cat_rf, cat_i, cat_j, cat_d, cat_a]) dL_isGrown_29 (fun v10 σ11 => ?_)
  show Wo _ _ _ _ _ _ _ _ _ _ [.int v10, .int v7]
  refine r_iadd hC dL_isGrown_32 (fun v13 => ?_)
  refine r_istore hC [(6, .int v13), (5, .int v4), (4, .int v1), (0, va_rf p0), (1, .int p1), (2, .int p2), (3, .int p3)] (i := 6) (by decide) rfl dL_isGrown_33 ?_
  refine r_iload hC 2 rfl dL_isGrown_35 ?_
  refine r_if_ge hC 88 dL_isGrown_37 (by decide) ?_ ?_
  · refine r_iload hC 2 rfl dL_isGrown_88 ?_
    refine r_iconst hC (1) rfl dL_isGrown_90 ?_
    refine r_icmp_le hC 132 dL_isGrown_91 (by decide) ?_ ?_
    · refine Wo.sub [3, 4, 5, 6, 0] rfl ?_
      exact t_L_isGrown_132 hC p0 p1 p2 p3 v13 σ11
    · refine r_aloadn hC 3 (r := p0) rfl rfl dL_isGrown_94 ?_
      refine r_iloadn hC 5 rfl rfl dL_isGrown_95 ?_
      refine r_iloadn hC 6 rfl rfl dL_isGrown_96 ?_
      refine r_iload hC 2 rfl dL_isGrown_97 ?_
      refine r_iconst hC (1) rfl dL_isGrown_99 ?_
      refine r_isub hC dL_isGrown_100 (fun v27 => ?_)
      refine call_V hC (av := [.int p2, .int p3, .int v27]) (st := []) (r := p0) (ci := 4) rfl rfl (fun h9 => ct_X4_pass hC.hl G h9 p2 p3 v27 σ11) q_560 q_561 q_562 q_13 q_563 yd_X4_pass rfl ⟨Nat.le_of_ble_eq_true rfl, Nat.le_of_ble_eq_true rfl⟩ ⟨Nat.zero_le _, Nat.zero_le _⟩ rfl (Nat.le_of_ble_eq_true rfl) dL_isGrown_101 (fun v28 σ29 => ?_)
      show Wo _ _ _ _ _ _ _ _ _ _ [.int v28]
      refine r_if_lt hC 130 dL_isGrown_104 (by decide) ?_ ?_
      · refine Wo.sub [] rfl ?_
        exact t_L_isGrown_130 hC  σ29
      · refine r_aloadn hC 3 (r := p0) rfl rfl dL_isGrown_107 ?_
        refine r_iloadn hC 4 rfl rfl dL_isGrown_108 ?_
        refine r_bipush hC (6) (by decide) dL_isGrown_109 ?_
        refine call_V hC (av := [.int p1, .int 6]) (st := []) (r := p0) (ci := 4) rfl rfl (fun h9 => ct_X4_ofSection hC.hl G h9 p1 6 σ29) q_381 q_382 q_383 q_13 q_384 yd_X4_ofSection rfl ⟨Nat.le_of_ble_eq_true rfl, Nat.le_of_ble_eq_true rfl⟩ ⟨Nat.zero_le _, Nat.zero_le _⟩ rfl (Nat.le_of_ble_eq_true rfl) dL_isGrown_111 (fun v31 σ32 => ?_)
        show Wo _ _ _ _ _ _ _ _ _ _ [.int v31]
        refine r_iload hC 1 rfl dL_isGrown_114 ?_
        refine r_icmp_ne hC 130 dL_isGrown_116 (by decide) ?_ ?_
        · refine Wo.sub [] rfl ?_
          exact t_L_isGrown_130 hC  σ32
        · refine r_aloadn hC 3 (r := p0) rfl rfl dL_isGrown_119 ?_
          refine r_iloadn hC 4 rfl rfl dL_isGrown_120 ?_
          refine r_iloadn hC 5 rfl rfl dL_isGrown_121 ?_
          refine r_iloadn hC 6 rfl rfl dL_isGrown_122 ?_
          refine call_V hC (av := [.int p1, .int p2, .int p3]) (st := []) (r := p0) (ci := 4) rfl rfl (fun h9 => ct_X4_flushIn hC.hl G h9 p1 p2 p3 σ32) q_440 q_441 q_442 q_13 q_443 yd_X4_flushIn rfl ⟨Nat.le_of_ble_eq_true rfl, Nat.le_of_ble_eq_true rfl⟩ ⟨Nat.zero_le _, Nat.zero_le _⟩ rfl (Nat.le_of_ble_eq_true rfl) dL_isGrown_123 (fun v34 σ35 => ?_)
          show Wo _ _ _ _ _ _ _ _ _ _ [.int v34]
          refine r_iconst hC (1) rfl dL_isGrown_126 ?_
          refine r_icmp_eq hC 132 dL_isGrown_127 (by decide) ?_ ?_
          · refine Wo.sub [3, 4, 5, 6, 0] rfl ?_
            exact t_L_isGrown_132 hC p0 p1 p2 p3 v13 σ35
          · refine Wo.sub [] rfl ?_
            exact t_L_isGrown_130 hC  σ35
  · refine r_aloadn hC 3 (r := p0) rfl rfl dL_isGrown_40 ?_
    refine r_iloadn hC 5 rfl rfl dL_isGrown_41 ?_
    refine r_iloadn hC 6 rfl rfl dL_isGrown_42 ?_
    refine r_iconst hC (1) rfl dL_isGrown_43 ?_
    refine call_V hC (av := [.int p2, .int p3, .int 1]) (st := []) (r := p0) (ci := 4) rfl rfl (fun h9 => ct_X4_pass hC.hl G h9 p2 p3 1 σ11) q_560 q_561 q_562 q_13 q_563 yd_X4_pass rfl ⟨Nat.le_of_ble_eq_true rfl, Nat.le_of_ble_eq_true rfl⟩ ⟨Nat.zero_le _, Nat.zero_le _⟩ rfl (Nat.le_of_ble_eq_true rfl) dL_isGrown_44 (fun v37 σ38 => ?_)
    show Wo _ _ _ _ _ _ _ _ _ _ [.int v37]
    refine r_if_lt hC 86 dL_isGrown_47 (by decide) ?_ ?_
    · refine Wo.sub [] rfl ?_
      exact t_L_isGrown_86 hC  σ38
    · refine r_aloadn hC 3 (r := p0) rfl rfl dL_isGrown_50 ?_
      refine r_iloadn hC 4 rfl rfl dL_isGrown_51 ?_
      refine r_bipush hC (6) (by decide) dL_isGrown_52 ?_
      refine call_V hC (av := [.int p1, .int 6]) (st := []) (r := p0) (ci := 4) rfl rfl (fun h9 => ct_X4_ofSection hC.hl G h9 p1 6 σ38) q_381 q_382 q_383 q_13 q_384 yd_X4_ofSection rfl ⟨Nat.le_of_ble_eq_true rfl, Nat.le_of_ble_eq_true rfl⟩ ⟨Nat.zero_le _, Nat.zero_le _⟩ rfl (Nat.le_of_ble_eq_true rfl) dL_isGrown_54 (fun v40 σ41 => ?_)
      show Wo _ _ _ _ _ _ _ _ _ _ [.int v40]
      refine r_iload hC 1 rfl dL_isGrown_57 ?_
      refine r_icmp_ne hC 86 dL_isGrown_59 (by decide) ?_ ?_
      · refine Wo.sub [] rfl ?_
        exact t_L_isGrown_86 hC  σ41
      · refine r_aloadn hC 3 (r := p0) rfl rfl dL_isGrown_62 ?_
        refine r_iloadn hC 4 rfl rfl dL_isGrown_63 ?_
        refine r_bipush hC (9) (by decide) dL_isGrown_64 ?_
        refine call_V hC (av := [.int p1, .int 9]) (st := []) (r := p0) (ci := 4) rfl rfl (fun h9 => ct_X4_ofSection hC.hl G h9 p1 9 σ41) q_381 q_382 q_383 q_13 q_384 yd_X4_ofSection rfl ⟨Nat.le_of_ble_eq_true rfl, Nat.le_of_ble_eq_true rfl⟩ ⟨Nat.zero_le _, Nat.zero_le _⟩ rfl (Nat.le_of_ble_eq_true rfl) dL_isGrown_66 (fun v43 σ44 => ?_)
        show Wo _ _ _ _ _ _ _ _ _ _ [.int v43]
        refine r_aloadn hC 3 (r := p0) rfl rfl dL_isGrown_69 ?_
        refine r_iloadn hC 4 rfl rfl dL_isGrown_70 ?_
        refine r_bipush hC (10) (by decide) dL_isGrown_71 ?_
        refine call_V hC (av := [.int p1, .int 10]) (st := [.int v43]) (r := p0) (ci := 4) rfl rfl (fun h9 => ct_X4_ofSection hC.hl G h9 p1 10 σ44) q_381 q_382 q_383 q_13 q_384 yd_X4_ofSection rfl ⟨Nat.le_of_ble_eq_true rfl, Nat.le_of_ble_eq_true rfl⟩ ⟨Nat.zero_le _, Nat.zero_le _⟩ rfl (by simp [cat_rf, cat_i, cat_j, cat_d, cat_a]) dL_isGrown_73 (fun v46 σ47 => ?_)
        show Wo _ _ _ _ _ _ _ _ _ _ [.int v46, .int v43]
        refine r_iadd hC dL_isGrown_76 (fun v49 => ?_)
        refine r_iload hC 0 rfl dL_isGrown_77 ?_
        refine r_icmp_ne hC 86 dL_isGrown_79 (by decide) ?_ ?_
        · refine Wo.sub [] rfl ?_
          exact t_L_isGrown_86 hC  σ47
        · refine r_iconst hC (1) rfl dL_isGrown_82 ?_
          refine r_goto hC 87 dL_isGrown_83 (by decide) ?_
          refine Wo.sub [] rfl ?_
          exact t_L_isGrown_87 hC 1 σ47

set_option maxRecDepth 100000 in
set_option maxHeartbeats 4000000 in
theorem ct_L_isGrown {l : Launch} (hl : l.stackTraces = false) (G : Glb) (p0 : (Option Nat)) (p1 : Int32) (p2 : Int32) (p3 : Int32) (σ : Mem) : Ct rvI l yL_isGrown (Cond.code yL_isGrown cL_isGrown 7 (some .boolean) :: uW) { frames := 4, cells := 0, slots := 0, locals := 86 } 0 0 G [va_rf p0, .int p1, .int p2, .int p3] σ (f_L_isGrown p0 p1 p2 p3 σ) := by
  refine Ct.of hl (by decide +kernel) (by simp [lg_sl, cat_rf, cat_i, cat_j, cat_d, cat_a]) (fun C hC hin => ?_)
  have e : lv_args 0 [va_rf p0, .int p1, .int p2, .int p3] = [(0, va_rf p0), (1, .int p1), (2, .int p2), (3, .int p3)] := by simp [lv_args, cat_rf, cat_i, cat_j, cat_d, cat_a]
  rw [e]
  exact t_L_isGrown_0 hC p0 p1 p2 p3 σ

noncomputable def b_L_isSold_95 (σ : Mem) : Option ((Int32) × Mem) :=
bo 0 (some (0, σ))

noncomputable def b_L_isSold_165 (y165_0 : Int32) (σ : Mem) : Option ((Int32) × Mem) :=
bo y165_0 (some (y165_0, σ))

noncomputable def b_L_isSold_156 (y156_0 : Int32) (y156_1 : Int32) (y156_2 : Int32) (σ : Mem) : Option ((Int32) × Mem) :=
nm (y156_1 + y156_0) fun v29 =>
if y156_2 = v29 then
b_L_isSold_165 1 σ
else
b_L_isSold_165 0 σ

noncomputable def b_L_isSold_129 (σ : Mem) : Option ((Int32) × Mem) :=
bo 0 (some (0, σ))

noncomputable def b_L_isSold_100 (k100 : (Option Nat) → Int32 → Int32 → Int32 → Int32 → Int32 → Mem → Option ((Int32) × Mem)) (x100_0 : (Option Nat)) (x100_1 : Int32) (x100_4 : Int32) (x100_5 : Int32) (x100_6 : Int32) (x100_7 : Int32) (σ : Mem) : Option ((Int32) × Mem) :=
if 4 ≤ x100_7 then
ob 4 σ x100_0 fun h28 => cl1 (f_X4_many h28 10 σ) fun v26 σ27 =>
if 0 ≤ x100_6 then
b_L_isSold_156 x100_5 x100_4 v26 σ27
else
b_L_isSold_156 0 x100_4 v26 σ27
else
ob 4 σ x100_0 fun h32 => cl1 (f_X4_bidOf h32 x100_7 x100_1 σ) fun v30 σ31 =>
if v30 = (-1) then
nm (11 + x100_7) fun v33 =>
ob 4 σ31 x100_0 fun h36 => cl1 (f_X4_many h36 v33 σ31) fun v34 σ35 =>
if 0 ≤ v34 then
nm (x100_7 + 1) fun v37 =>
k100 x100_0 x100_1 x100_4 x100_5 x100_6 v37 σ35
else
b_L_isSold_129 σ35
else
b_L_isSold_129 σ31

noncomputable def l_L_isSold_100 (n : Nat) : (Option Nat) → Int32 → Int32 → Int32 → Int32 → Int32 → Mem → Option ((Int32) × Mem) := itr (fun _ _ _ _ _ _ _ => none) (fun k => b_L_isSold_100  k) n

noncomputable def b_L_isSold_97 (x97_0 : (Option Nat)) (x97_1 : Int32) (x97_4 : Int32) (x97_5 : Int32) (x97_6 : Int32) (σ : Mem) : Option ((Int32) × Mem) :=
l_L_isSold_100 40 x97_0 x97_1 x97_4 x97_5 x97_6 0 σ

noncomputable def b_L_isSold_83 (x83_0 : (Option Nat)) (x83_1 : Int32) (x83_2 : Int32) (x83_4 : Int32) (x83_5 : Int32) (x83_6 : Int32) (y83_0 : Int32) (y83_1 : Int32) (σ : Mem) : Option ((Int32) × Mem) :=
if y83_1 = y83_0 then
if 0 ≤ x83_6 then
b_L_isSold_97 x83_0 x83_1 x83_4 x83_5 x83_6 σ
else
if x83_2 ≤ 0 then
b_L_isSold_97 x83_0 x83_1 x83_4 x83_5 x83_6 σ
else
b_L_isSold_95 σ
else
b_L_isSold_95 σ

noncomputable def b_L_isSold_68 (x68_0 : (Option Nat)) (x68_1 : Int32) (x68_2 : Int32) (x68_4 : Int32) (x68_5 : Int32) (x68_6 : Int32) (y68_0 : Int32) (σ : Mem) : Option ((Int32) × Mem) :=
ob 4 σ x68_0 fun h25 => cl1 (f_X4_ofLot h25 x68_1 0 σ) fun v23 σ24 =>
if v23 = 3 then
b_L_isSold_83 x68_0 x68_1 x68_2 x68_4 x68_5 x68_6 1 y68_0 σ24
else
b_L_isSold_83 x68_0 x68_1 x68_2 x68_4 x68_5 x68_6 0 y68_0 σ24

noncomputable def b_L_isSold_0 (p0 : (Option Nat)) (p1 : Int32) (σ : Mem) : Option ((Int32) × Mem) :=
ob 4 σ p0 fun h3 => cl1 (f_X4_wouldPay h3 p1 σ) fun v1 σ2 =>
ob 4 σ2 p0 fun h6 => cl1 (f_X4_many h6 6 σ2) fun v4 σ5 =>
ob 4 σ5 p0 fun h9 => cl1 (f_X4_many h9 10 σ5) fun v7 σ8 =>
ob 4 σ8 p0 fun h12 => cl1 (f_X4_ofLot h12 p1 1 σ8) fun v10 σ11 =>
ob 4 σ11 p0 fun h15 => cl1 (f_X4_knock h15 p1 σ11) fun v13 σ14 =>
ob 4 σ14 p0 fun h18 => cl1 (f_X4_many h18 6 σ14) fun v16 σ17 =>
nm (v4 + v1) fun v19 =>
if v16 = v19 then
ob 4 σ17 p0 fun h22 => cl1 (f_X4_ofLot h22 p1 13 σ17) fun v20 σ21 =>
if v20 = 0 then
if v13 < 0 then
b_L_isSold_68 p0 p1 v1 v7 v10 v13 0 σ21
else
b_L_isSold_68 p0 p1 v1 v7 v10 v13 1 σ21
else
b_L_isSold_95 σ21
else
b_L_isSold_95 σ17

noncomputable def f_L_isSold (p0 : (Option Nat)) (p1 : Int32) (σ : Mem) : Option ((Int32) × Mem) := b_L_isSold_0 p0 p1 σ
set_option maxRecDepth 100000 in
set_option maxHeartbeats 4000000 in
theorem t_L_isSold_95 {C : Cxt} {G : Glb} (hC : CX C G RL cL_isSold 8 (some .boolean) 4 0 0 92) (σ : Mem) : Wo C G 8 (QP C G rvI 0 0) (b_L_isSold_95   σ) σ 0 0 95 [] [] := by
  unfold b_L_isSold_95
  refine r_iconst hC (0) rfl dL_isSold_95 ?_
  exact e_B hC ⟨Nat.zero_le _, Nat.zero_le _⟩ dL_isSold_96

set_option maxRecDepth 100000 in
set_option maxHeartbeats 4000000 in
theorem t_L_isSold_165 {C : Cxt} {G : Glb} (hC : CX C G RL cL_isSold 8 (some .boolean) 4 0 0 92) (y165_0 : Int32) (σ : Mem) : Wo C G 8 (QP C G rvI 0 0) (b_L_isSold_165  y165_0 σ) σ 0 0 165 [] [.int y165_0] := by
  unfold b_L_isSold_165
  exact e_B hC ⟨Nat.zero_le _, Nat.zero_le _⟩ dL_isSold_165

set_option maxRecDepth 100000 in
set_option maxHeartbeats 4000000 in
theorem t_L_isSold_156 {C : Cxt} {G : Glb} (hC : CX C G RL cL_isSold 8 (some .boolean) 4 0 0 92) (y156_0 : Int32) (y156_1 : Int32) (y156_2 : Int32) (σ : Mem) : Wo C G 8 (QP C G rvI 0 0) (b_L_isSold_156  y156_0 y156_1 y156_2 σ) σ 0 0 156 [] [.int y156_0, .int y156_1, .int y156_2] := by
  unfold b_L_isSold_156
  refine r_iadd hC dL_isSold_156 (fun v29 => ?_)
  refine r_icmp_ne hC 164 dL_isSold_157 (by decide) ?_ ?_
  · refine r_iconst hC (0) rfl dL_isSold_164 ?_
    exact t_L_isSold_165 hC 0 σ
  · refine r_iconst hC (1) rfl dL_isSold_160 ?_
    refine r_goto hC 165 dL_isSold_161 (by decide) ?_
    exact t_L_isSold_165 hC 1 σ

set_option maxRecDepth 100000 in
set_option maxHeartbeats 4000000 in
theorem t_L_isSold_129 {C : Cxt} {G : Glb} (hC : CX C G RL cL_isSold 8 (some .boolean) 4 0 0 92) (σ : Mem) : Wo C G 8 (QP C G rvI 0 0) (b_L_isSold_129   σ) σ 0 0 129 [] [] := by
  unfold b_L_isSold_129
  refine r_iconst hC (0) rfl dL_isSold_129 ?_
  exact e_B hC ⟨Nat.zero_le _, Nat.zero_le _⟩ dL_isSold_130

set_option maxRecDepth 100000 in
set_option maxHeartbeats 4000000 in
theorem t_L_isSold_100 {C : Cxt} {G : Glb} (hC : CX C G RL cL_isSold 8 (some .boolean) 4 0 0 92) (k100 : (Option Nat) → Int32 → Int32 → Int32 → Int32 → Int32 → Mem → Option ((Int32) × Mem)) (hk100 : ∀ (x100_0 : (Option Nat)) (x100_1 : Int32) (x100_4 : Int32) (x100_5 : Int32) (x100_6 : Int32) (x100_7 : Int32) (σ : Mem), Wo C G 8 (QP C G rvI 0 0) (k100 x100_0 x100_1 x100_4 x100_5 x100_6 x100_7 σ) σ 0 0 100 [(0, va_rf x100_0), (1, .int x100_1), (4, .int x100_4), (5, .int x100_5), (6, .int x100_6), (7, .int x100_7)] []) (x100_0 : (Option Nat)) (x100_1 : Int32) (x100_4 : Int32) (x100_5 : Int32) (x100_6 : Int32) (x100_7 : Int32) (σ : Mem) : Wo C G 8 (QP C G rvI 0 0) (b_L_isSold_100 k100 x100_0 x100_1 x100_4 x100_5 x100_6 x100_7 σ) σ 0 0 100 [(0, va_rf x100_0), (1, .int x100_1), (4, .int x100_4), (5, .int x100_5), (6, .int x100_6), (7, .int x100_7)] [] := by
  unfold b_L_isSold_100
  refine r_iload hC 5 rfl dL_isSold_100 ?_
  refine r_iconst hC (4) rfl dL_isSold_102 ?_
  refine r_icmp_ge hC 137 dL_isSold_103 (by decide) ?_ ?_
  · refine r_aloadn hC 0 (r := x100_0) rfl rfl dL_isSold_137 ?_
    refine r_bipush hC (10) (by decide) dL_isSold_138 ?_
    refine call_V hC (av := [.int 10]) (st := []) (r := x100_0) (ci := 4) rfl rfl (fun h9 => ct_X4_many hC.hl G h9 10 σ) q_394 q_395 q_396 q_13 q_397 yd_X4_many rfl ⟨Nat.le_of_ble_eq_true rfl, Nat.le_of_ble_eq_true rfl⟩ ⟨Nat.zero_le _, Nat.zero_le _⟩ rfl (Nat.le_of_ble_eq_true rfl) dL_isSold_140 (fun v26 σ27 => ?_)
    show Wo _ _ _ _ _ _ _ _ _ _ [.int v26]
    refine r_iload hC 2 rfl dL_isSold_143 ?_
    refine r_iload hC 4 rfl dL_isSold_145 ?_
    refine r_if_ge hC 154 dL_isSold_147 (by decide) ?_ ?_
    · refine r_iload hC 3 rfl dL_isSold_154 ?_
      refine Wo.sub [] rfl ?_
      exact t_L_isSold_156 hC x100_5 x100_4 v26 σ27
    · refine r_iconst hC (0) rfl dL_isSold_150 ?_
      refine r_goto hC 156 dL_isSold_151 (by decide) ?_
      refine Wo.sub [] rfl ?_
      exact t_L_isSold_156 hC 0 x100_4 v26 σ27
  · refine r_aloadn hC 0 (r := x100_0) rfl rfl dL_isSold_106 ?_
    refine r_iload hC 5 rfl dL_isSold_107 ?_
    refine r_iloadn hC 1 rfl rfl dL_isSold_109 ?_
    refine call_V hC (av := [.int x100_7, .int x100_1]) (st := []) (r := x100_0) (ci := 4) rfl rfl (fun h9 => ct_X4_bidOf hC.hl G h9 x100_7 x100_1 σ) q_389 q_390 q_391 q_13 q_392 yd_X4_bidOf rfl ⟨Nat.le_of_ble_eq_true rfl, Nat.le_of_ble_eq_true rfl⟩ ⟨Nat.zero_le _, Nat.zero_le _⟩ rfl (Nat.le_of_ble_eq_true rfl) dL_isSold_110 (fun v30 σ31 => ?_)
    show Wo _ _ _ _ _ _ _ _ _ _ [.int v30]
    refine r_iconst hC (-1) rfl dL_isSold_113 ?_
    refine r_icmp_ne hC 129 dL_isSold_114 (by decide) ?_ ?_
    · refine Wo.sub [] rfl ?_
      exact t_L_isSold_129 hC  σ31
    · refine r_aloadn hC 0 (r := x100_0) rfl rfl dL_isSold_117 ?_
      refine r_bipush hC (11) (by decide) dL_isSold_118 ?_
      refine r_iload hC 5 rfl dL_isSold_120 ?_
      refine r_iadd hC dL_isSold_122 (fun v33 => ?_)
      refine call_V hC (av := [.int v33]) (st := []) (r := x100_0) (ci := 4) rfl rfl (fun h9 => ct_X4_many hC.hl G h9 v33 σ31) q_394 q_395 q_396 q_13 q_397 yd_X4_many rfl ⟨Nat.le_of_ble_eq_true rfl, Nat.le_of_ble_eq_true rfl⟩ ⟨Nat.zero_le _, Nat.zero_le _⟩ rfl (Nat.le_of_ble_eq_true rfl) dL_isSold_123 (fun v34 σ35 => ?_)
      show Wo _ _ _ _ _ _ _ _ _ _ [.int v34]
      refine r_if_ge hC 131 dL_isSold_126 (by decide) ?_ ?_
      · refine r_iinc hC 5 (fun w => [(7, .int w), (0, va_rf x100_0), (1, .int x100_1), (4, .int x100_4), (5, .int x100_5), (6, .int x100_6)]) 1 rfl (by decide) rfl (fun w => rfl) dL_isSold_131 (fun v37 => ?_)
        refine r_goto hC 100 dL_isSold_134 (by decide) ?_
        refine Wo.sub [1, 2, 3, 4, 5, 0] rfl ?_
        exact hk100 x100_0 x100_1 x100_4 x100_5 x100_6 v37 σ35
      · refine Wo.sub [] rfl ?_
        exact t_L_isSold_129 hC  σ35

set_option maxRecDepth 100000 in
set_option maxHeartbeats 4000000 in
theorem u_L_isSold_100 {C : Cxt} {G : Glb} (hC : CX C G RL cL_isSold 8 (some .boolean) 4 0 0 92) : ∀ (n : Nat) (x100_0 : (Option Nat)) (x100_1 : Int32) (x100_4 : Int32) (x100_5 : Int32) (x100_6 : Int32) (x100_7 : Int32) (σ : Mem), Wo C G 8 (QP C G rvI 0 0) (l_L_isSold_100  n x100_0 x100_1 x100_4 x100_5 x100_6 x100_7 σ) σ 0 0 100 [(0, va_rf x100_0), (1, .int x100_1), (4, .int x100_4), (5, .int x100_5), (6, .int x100_6), (7, .int x100_7)] [] := by
  intro n
  induction n with
  | zero => intro x100_0 x100_1 x100_4 x100_5 x100_6 x100_7 σ; exact Wo.none
  | succ n ih => intro x100_0 x100_1 x100_4 x100_5 x100_6 x100_7 σ; exact t_L_isSold_100 hC (l_L_isSold_100  n) ih x100_0 x100_1 x100_4 x100_5 x100_6 x100_7 σ

set_option maxRecDepth 100000 in
set_option maxHeartbeats 4000000 in
theorem t_L_isSold_97 {C : Cxt} {G : Glb} (hC : CX C G RL cL_isSold 8 (some .boolean) 4 0 0 92) (x97_0 : (Option Nat)) (x97_1 : Int32) (x97_4 : Int32) (x97_5 : Int32) (x97_6 : Int32) (σ : Mem) : Wo C G 8 (QP C G rvI 0 0) (b_L_isSold_97  x97_0 x97_1 x97_4 x97_5 x97_6 σ) σ 0 0 97 [(0, va_rf x97_0), (1, .int x97_1), (4, .int x97_4), (5, .int x97_5), (6, .int x97_6)] [] := by
  unfold b_L_isSold_97
  refine r_iconst hC (0) rfl dL_isSold_97 ?_
  refine r_istore hC [(7, .int 0), (0, va_rf x97_0), (1, .int x97_1), (4, .int x97_4), (5, .int x97_5), (6, .int x97_6)] (i := 7) (by decide) rfl dL_isSold_98 ?_
  refine Wo.sub [1, 2, 3, 4, 5, 0] rfl ?_
  exact u_L_isSold_100 hC 40 x97_0 x97_1 x97_4 x97_5 x97_6 0 σ

set_option maxRecDepth 100000 in
set_option maxHeartbeats 4000000 in
theorem t_L_isSold_83 {C : Cxt} {G : Glb} (hC : CX C G RL cL_isSold 8 (some .boolean) 4 0 0 92) (x83_0 : (Option Nat)) (x83_1 : Int32) (x83_2 : Int32) (x83_4 : Int32) (x83_5 : Int32) (x83_6 : Int32) (y83_0 : Int32) (y83_1 : Int32) (σ : Mem) : Wo C G 8 (QP C G rvI 0 0) (b_L_isSold_83  x83_0 x83_1 x83_2 x83_4 x83_5 x83_6 y83_0 y83_1 σ) σ 0 0 83 [(0, va_rf x83_0), (1, .int x83_1), (2, .int x83_2), (4, .int x83_4), (5, .int x83_5), (6, .int x83_6)] [.int y83_0, .int y83_1] := by
  unfold b_L_isSold_83
  refine r_icmp_ne hC 95 dL_isSold_83 (by decide) ?_ ?_
  · refine Wo.sub [] rfl ?_
    exact t_L_isSold_95 hC  σ
  · refine r_iload hC 5 rfl dL_isSold_86 ?_
    refine r_if_ge hC 97 dL_isSold_88 (by decide) ?_ ?_
    · refine Wo.sub [0, 1, 3, 4, 5] rfl ?_
      exact t_L_isSold_97 hC x83_0 x83_1 x83_4 x83_5 x83_6 σ
    · refine r_iloadn hC 2 rfl rfl dL_isSold_91 ?_
      refine r_if_le hC 97 dL_isSold_92 (by decide) ?_ ?_
      · refine Wo.sub [0, 1, 3, 4, 5] rfl ?_
        exact t_L_isSold_97 hC x83_0 x83_1 x83_4 x83_5 x83_6 σ
      · refine Wo.sub [] rfl ?_
        exact t_L_isSold_95 hC  σ

set_option maxRecDepth 100000 in
set_option maxHeartbeats 4000000 in
theorem t_L_isSold_68 {C : Cxt} {G : Glb} (hC : CX C G RL cL_isSold 8 (some .boolean) 4 0 0 92) (x68_0 : (Option Nat)) (x68_1 : Int32) (x68_2 : Int32) (x68_4 : Int32) (x68_5 : Int32) (x68_6 : Int32) (y68_0 : Int32) (σ : Mem) : Wo C G 8 (QP C G rvI 0 0) (b_L_isSold_68  x68_0 x68_1 x68_2 x68_4 x68_5 x68_6 y68_0 σ) σ 0 0 68 [(0, va_rf x68_0), (1, .int x68_1), (2, .int x68_2), (4, .int x68_4), (5, .int x68_5), (6, .int x68_6)] [.int y68_0] := by
  unfold b_L_isSold_68
  refine r_aloadn hC 0 (r := x68_0) rfl rfl dL_isSold_68 ?_
  refine r_iloadn hC 1 rfl rfl dL_isSold_69 ?_
  refine r_iconst hC (0) rfl dL_isSold_70 ?_
  refine call_V hC (av := [.int x68_1, .int 0]) (st := [.int y68_0]) (r := x68_0) (ci := 4) rfl rfl (fun h9 => ct_X4_ofLot hC.hl G h9 x68_1 0 σ) q_385 q_386 q_387 q_13 q_388 yd_X4_ofLot rfl ⟨Nat.le_of_ble_eq_true rfl, Nat.le_of_ble_eq_true rfl⟩ ⟨Nat.zero_le _, Nat.zero_le _⟩ rfl (by simp [cat_rf, cat_i, cat_j, cat_d, cat_a]) dL_isSold_71 (fun v23 σ24 => ?_)
  show Wo _ _ _ _ _ _ _ _ _ _ [.int v23, .int y68_0]
  refine r_iconst hC (3) rfl dL_isSold_74 ?_
  refine r_icmp_ne hC 82 dL_isSold_75 (by decide) ?_ ?_
  · refine r_iconst hC (0) rfl dL_isSold_82 ?_
    exact t_L_isSold_83 hC x68_0 x68_1 x68_2 x68_4 x68_5 x68_6 0 y68_0 σ24
  · refine r_iconst hC (1) rfl dL_isSold_78 ?_
    refine r_goto hC 83 dL_isSold_79 (by decide) ?_
    exact t_L_isSold_83 hC x68_0 x68_1 x68_2 x68_4 x68_5 x68_6 1 y68_0 σ24

set_option maxRecDepth 100000 in
set_option maxHeartbeats 4000000 in
theorem t_L_isSold_0 {C : Cxt} {G : Glb} (hC : CX C G RL cL_isSold 8 (some .boolean) 4 0 0 92) (p0 : (Option Nat)) (p1 : Int32) (σ : Mem) : Wo C G 8 (QP C G rvI 0 0) (b_L_isSold_0  p0 p1 σ) σ 0 0 0 [(0, va_rf p0), (1, .int p1)] [] := by
  unfold b_L_isSold_0
  refine r_aloadn hC 0 (r := p0) rfl rfl dL_isSold_0 ?_
  refine r_iloadn hC 1 rfl rfl dL_isSold_1 ?_
  refine call_V hC (av := [.int p1]) (st := []) (r := p0) (ci := 4) rfl rfl (fun h9 => ct_X4_wouldPay hC.hl G h9 p1 σ) q_576 q_517 q_518 q_13 q_519 yd_X4_wouldPay rfl ⟨Nat.le_of_ble_eq_true rfl, Nat.le_of_ble_eq_true rfl⟩ ⟨Nat.zero_le _, Nat.zero_le _⟩ rfl (Nat.le_of_ble_eq_true rfl) dL_isSold_2 (fun v1 σ2 => ?_)
  show Wo _ _ _ _ _ _ _ _ _ _ [.int v1]
  refine r_istoren hC [(2, .int v1), (0, va_rf p0), (1, .int p1)] (i := 2) rfl (by decide) rfl dL_isSold_5 ?_
  refine r_aloadn hC 1 (r := p0) rfl rfl dL_isSold_6 ?_
  refine r_bipush hC (6) (by decide) dL_isSold_7 ?_
  refine call_V hC (av := [.int 6]) (st := []) (r := p0) (ci := 4) rfl rfl (fun h9 => ct_X4_many hC.hl G h9 6 σ2) q_394 q_395 q_396 q_13 q_397 yd_X4_many rfl ⟨Nat.le_of_ble_eq_true rfl, Nat.le_of_ble_eq_true rfl⟩ ⟨Nat.zero_le _, Nat.zero_le _⟩ rfl (Nat.le_of_ble_eq_true rfl) dL_isSold_9 (fun v4 σ5 => ?_)
  show Wo _ _ _ _ _ _ _ _ _ _ [.int v4]
  refine r_istoren hC [(3, .int v4), (2, .int v1), (0, va_rf p0), (1, .int p1)] (i := 3) rfl (by decide) rfl dL_isSold_12 ?_
  refine r_aloadn hC 2 (r := p0) rfl rfl dL_isSold_13 ?_
  refine r_bipush hC (10) (by decide) dL_isSold_14 ?_
  refine call_V hC (av := [.int 10]) (st := []) (r := p0) (ci := 4) rfl rfl (fun h9 => ct_X4_many hC.hl G h9 10 σ5) q_394 q_395 q_396 q_13 q_397 yd_X4_many rfl ⟨Nat.le_of_ble_eq_true rfl, Nat.le_of_ble_eq_true rfl⟩ ⟨Nat.zero_le _, Nat.zero_le _⟩ rfl (Nat.le_of_ble_eq_true rfl) dL_isSold_16 (fun v7 σ8 => ?_)
  show Wo _ _ _ _ _ _ _ _ _ _ [.int v7]
  refine r_istore hC [(4, .int v7), (3, .int v4), (2, .int v1), (0, va_rf p0), (1, .int p1)] (i := 4) (by decide) rfl dL_isSold_19 ?_
  refine r_aloadn hC 3 (r := p0) rfl rfl dL_isSold_21 ?_
  refine r_iloadn hC 4 rfl rfl dL_isSold_22 ?_
  refine r_iconst hC (1) rfl dL_isSold_23 ?_
  refine call_V hC (av := [.int p1, .int 1]) (st := []) (r := p0) (ci := 4) rfl rfl (fun h9 => ct_X4_ofLot hC.hl G h9 p1 1 σ8) q_385 q_386 q_387 q_13 q_388 yd_X4_ofLot rfl ⟨Nat.le_of_ble_eq_true rfl, Nat.le_of_ble_eq_true rfl⟩ ⟨Nat.zero_le _, Nat.zero_le _⟩ rfl (Nat.le_of_ble_eq_true rfl) dL_isSold_24 (fun v10 σ11 => ?_)
  show Wo _ _ _ _ _ _ _ _ _ _ [.int v10]
  refine r_istore hC [(5, .int v10), (4, .int v7), (3, .int v4), (2, .int v1), (0, va_rf p0), (1, .int p1)] (i := 5) (by decide) rfl dL_isSold_27 ?_
  refine r_aloadn hC 4 (r := p0) rfl rfl dL_isSold_29 ?_
  refine r_iloadn hC 5 rfl rfl dL_isSold_30 ?_
  refine call_V hC (av := [.int p1]) (st := []) (r := p0) (ci := 4) rfl rfl (fun h9 => ct_X4_knock hC.hl G h9 p1 σ11) q_577 q_578 q_579 q_13 q_580 yd_X4_knock rfl ⟨Nat.le_of_ble_eq_true rfl, Nat.le_of_ble_eq_true rfl⟩ ⟨Nat.zero_le _, Nat.zero_le _⟩ rfl (Nat.le_of_ble_eq_true rfl) dL_isSold_31 (fun v13 σ14 => ?_)
  show Wo _ _ _ _ _ _ _ _ _ _ [.int v13]
  refine r_istore hC [(6, .int v13), (5, .int v10), (4, .int v7), (3, .int v4), (2, .int v1), (0, va_rf p0), (1, .int p1)] (i := 6) (by decide) rfl dL_isSold_34 ?_
  refine r_aloadn hC 5 (r := p0) rfl rfl dL_isSold_36 ?_
  refine r_bipush hC (6) (by decide) dL_isSold_37 ?_
  refine call_V hC (av := [.int 6]) (st := []) (r := p0) (ci := 4) rfl rfl (fun h9 => ct_X4_many hC.hl G h9 6 σ14) q_394 q_395 q_396 q_13 q_397 yd_X4_many rfl ⟨Nat.le_of_ble_eq_true rfl, Nat.le_of_ble_eq_true rfl⟩ ⟨Nat.zero_le _, Nat.zero_le _⟩ rfl (Nat.le_of_ble_eq_true rfl) dL_isSold_39 (fun v16 σ17 => ?_)
  show Wo _ _ _ _ _ _ _ _ _ _ [.int v16]
  refine r_iloadn hC 3 rfl rfl dL_isSold_42 ?_
  refine r_iloadn hC 4 rfl rfl dL_isSold_43 ?_
  refine r_iadd hC dL_isSold_44 (fun v19 => ?_)
  refine r_icmp_ne hC 95 dL_isSold_45 (by decide) ?_ ?_
  · refine Wo.sub [] rfl ?_
    exact t_L_isSold_95 hC  σ17
  · refine r_aloadn hC 5 (r := p0) rfl rfl dL_isSold_48 ?_
    refine r_iloadn hC 6 rfl rfl dL_isSold_49 ?_
    refine r_bipush hC (13) (by decide) dL_isSold_50 ?_
    refine call_V hC (av := [.int p1, .int 13]) (st := []) (r := p0) (ci := 4) rfl rfl (fun h9 => ct_X4_ofLot hC.hl G h9 p1 13 σ17) q_385 q_386 q_387 q_13 q_388 yd_X4_ofLot rfl ⟨Nat.le_of_ble_eq_true rfl, Nat.le_of_ble_eq_true rfl⟩ ⟨Nat.zero_le _, Nat.zero_le _⟩ rfl (Nat.le_of_ble_eq_true rfl) dL_isSold_52 (fun v20 σ21 => ?_)
    show Wo _ _ _ _ _ _ _ _ _ _ [.int v20]
    refine r_if_ne hC 95 dL_isSold_55 (by decide) ?_ ?_
    · refine Wo.sub [] rfl ?_
      exact t_L_isSold_95 hC  σ21
    · refine r_iload hC 0 rfl dL_isSold_58 ?_
      refine r_if_lt hC 67 dL_isSold_60 (by decide) ?_ ?_
      · refine r_iconst hC (0) rfl dL_isSold_67 ?_
        refine Wo.sub [5, 6, 4, 2, 1, 0] rfl ?_
        exact t_L_isSold_68 hC p0 p1 v1 v7 v10 v13 0 σ21
      · refine r_iconst hC (1) rfl dL_isSold_63 ?_
        refine r_goto hC 68 dL_isSold_64 (by decide) ?_
        refine Wo.sub [5, 6, 4, 2, 1, 0] rfl ?_
        exact t_L_isSold_68 hC p0 p1 v1 v7 v10 v13 1 σ21

set_option maxRecDepth 100000 in
set_option maxHeartbeats 4000000 in
theorem ct_L_isSold {l : Launch} (hl : l.stackTraces = false) (G : Glb) (p0 : (Option Nat)) (p1 : Int32) (σ : Mem) : Ct rvI l yL_isSold (Cond.code yL_isSold cL_isSold 8 (some .boolean) :: uW) { frames := 4, cells := 0, slots := 0, locals := 92 } 0 0 G [va_rf p0, .int p1] σ (f_L_isSold p0 p1 σ) := by
  refine Ct.of hl (by decide +kernel) (by simp [lg_sl, cat_rf, cat_i, cat_j, cat_d, cat_a]) (fun C hC hin => ?_)
  have e : lv_args 0 [va_rf p0, .int p1] = [(0, va_rf p0), (1, .int p1)] := by simp [lv_args, cat_rf, cat_i, cat_j, cat_d, cat_a]
  rw [e]
  exact t_L_isSold_0 hC p0 p1 σ

noncomputable def b_L_isTold_66 (σ : Mem) : Option ((Int32) × Mem) :=
bo 0 (some (0, σ))

noncomputable def b_L_isTold_121 (σ : Mem) : Option ((Int32) × Mem) :=
bo 0 (some (0, σ))

noncomputable def b_L_isTold_71 (k71 : (Option Nat) → Int32 → Int32 → Mem → Option ((Int32) × Mem)) (x71_0 : (Option Nat)) (x71_2 : Int32) (x71_6 : Int32) (σ : Mem) : Option ((Int32) × Mem) :=
if 3 ≤ x71_6 then
bo 1 (some (1, σ))
else
ob 4 σ x71_0 fun h19 => cl1 (f_X4_note h19 x71_2 x71_6 σ) fun v17 σ18 =>
if v17 < 0 then
b_L_isTold_121 σ18
else
ob 4 σ18 x71_0 fun h22 => cl1 (f_X4_note h22 x71_2 x71_6 σ18) fun v20 σ21 =>
if 9 < v20 then
b_L_isTold_121 σ21
else
ob 4 σ21 x71_0 fun h25 => cl1 (f_X4_taste h25 x71_2 x71_6 σ21) fun v23 σ24 =>
ob 4 σ24 x71_0 fun h28 => cl1 (f_X4_note h28 x71_2 x71_6 σ24) fun v26 σ27 =>
nm (v23 - v26) fun v29 =>
nm (if 0 ≤ v29 then v29 else 0 - v29) fun v30 =>
if v30 ≤ 4 then
nm (x71_6 + 1) fun v31 =>
k71 x71_0 x71_2 v31 σ27
else
b_L_isTold_121 σ27

noncomputable def l_L_isTold_71 (n : Nat) : (Option Nat) → Int32 → Int32 → Mem → Option ((Int32) × Mem) := itr (fun _ _ _ _ => none) (fun k => b_L_isTold_71  k) n

noncomputable def b_L_isTold_0 (p0 : (Option Nat)) (p1 : Int32) (p2 : Int32) (p3 : Int32) (σ : Mem) : Option ((Int32) × Mem) :=
ob 4 σ p0 fun h3 => cl1 (f_X4_lean h3 p1 p3 σ) fun v1 σ2 =>
if (-2) ≤ v1 then
ob 4 σ2 p0 fun h6 => cl1 (f_X4_ofTaster h6 p1 1 σ2) fun v4 σ5 =>
ob 4 σ5 p0 fun h9 => cl1 (f_X4_repeat h9 p1 p2 σ5) fun v7 σ8 =>
ob 4 σ8 p0 fun h12 => cl1 (f_X4_ofTaster h12 p1 1 σ8) fun v10 σ11 =>
nm (v4 + 1) fun v13 =>
if v10 = v13 then
ob 4 σ11 p0 fun h16 => cl1 (f_X4_ofTaster h16 p1 0 σ11) fun v14 σ15 =>
if v14 = v7 then
if v7 < (-2) then
b_L_isTold_66 σ15
else
if v7 ≤ 2 then
l_L_isTold_71 40 p0 p2 0 σ15
else
b_L_isTold_66 σ15
else
b_L_isTold_66 σ15
else
b_L_isTold_66 σ11
else
bo 0 (some (0, σ2))

noncomputable def f_L_isTold (p0 : (Option Nat)) (p1 : Int32) (p2 : Int32) (p3 : Int32) (σ : Mem) : Option ((Int32) × Mem) := b_L_isTold_0 p0 p1 p2 p3 σ
set_option maxRecDepth 100000 in
set_option maxHeartbeats 4000000 in
theorem t_L_isTold_66 {C : Cxt} {G : Glb} (hC : CX C G RL cL_isTold 7 (some .boolean) 5 0 0 106) (σ : Mem) : Wo C G 7 (QP C G rvI 0 0) (b_L_isTold_66   σ) σ 0 0 66 [] [] := by
  unfold b_L_isTold_66
  refine r_iconst hC (0) rfl dL_isTold_66 ?_
  exact e_B hC ⟨Nat.zero_le _, Nat.zero_le _⟩ dL_isTold_67

set_option maxRecDepth 100000 in
set_option maxHeartbeats 4000000 in
theorem t_L_isTold_121 {C : Cxt} {G : Glb} (hC : CX C G RL cL_isTold 7 (some .boolean) 5 0 0 106) (σ : Mem) : Wo C G 7 (QP C G rvI 0 0) (b_L_isTold_121   σ) σ 0 0 121 [] [] := by
  unfold b_L_isTold_121
  refine r_iconst hC (0) rfl dL_isTold_121 ?_
  exact e_B hC ⟨Nat.zero_le _, Nat.zero_le _⟩ dL_isTold_122

set_option maxRecDepth 100000 in
set_option maxHeartbeats 4000000 in
theorem t_L_isTold_71 {C : Cxt} {G : Glb} (hC : CX C G RL cL_isTold 7 (some .boolean) 5 0 0 106) (k71 : (Option Nat) → Int32 → Int32 → Mem → Option ((Int32) × Mem)) (hk71 : ∀ (x71_0 : (Option Nat)) (x71_2 : Int32) (x71_6 : Int32) (σ : Mem), Wo C G 7 (QP C G rvI 0 0) (k71 x71_0 x71_2 x71_6 σ) σ 0 0 71 [(0, va_rf x71_0), (2, .int x71_2), (6, .int x71_6)] []) (x71_0 : (Option Nat)) (x71_2 : Int32) (x71_6 : Int32) (σ : Mem) : Wo C G 7 (QP C G rvI 0 0) (b_L_isTold_71 k71 x71_0 x71_2 x71_6 σ) σ 0 0 71 [(0, va_rf x71_0), (2, .int x71_2), (6, .int x71_6)] [] := by
  unfold b_L_isTold_71
  refine r_iload hC 2 rfl dL_isTold_71 ?_
  refine r_iconst hC (3) rfl dL_isTold_73 ?_
  refine r_icmp_ge hC 129 dL_isTold_74 (by decide) ?_ ?_
  · refine r_iconst hC (1) rfl dL_isTold_129 ?_
    exact e_B hC ⟨Nat.zero_le _, Nat.zero_le _⟩ dL_isTold_130
  · refine r_aloadn hC 0 (r := x71_0) rfl rfl dL_isTold_77 ?_
    refine r_iloadn hC 1 rfl rfl dL_isTold_78 ?_
    refine r_iload hC 2 rfl dL_isTold_79 ?_
    refine call_V hC (av := [.int x71_2, .int x71_6]) (st := []) (r := x71_0) (ci := 4) rfl rfl (fun h9 => ct_X4_note hC.hl G h9 x71_2 x71_6 σ) q_605 q_480 q_481 q_13 q_482 yd_X4_note rfl ⟨Nat.le_of_ble_eq_true rfl, Nat.le_of_ble_eq_true rfl⟩ ⟨Nat.zero_le _, Nat.zero_le _⟩ rfl (Nat.le_of_ble_eq_true rfl) dL_isTold_81 (fun v17 σ18 => ?_)
    show Wo _ _ _ _ _ _ _ _ _ _ [.int v17]
    refine r_if_lt hC 121 dL_isTold_84 (by decide) ?_ ?_
    · refine Wo.sub [] rfl ?_
      exact t_L_isTold_121 hC  σ18
    · refine r_aloadn hC 0 (r := x71_0) rfl rfl dL_isTold_87 ?_
      refine r_iloadn hC 1 rfl rfl dL_isTold_88 ?_
      refine r_iload hC 2 rfl dL_isTold_89 ?_
      refine call_V hC (av := [.int x71_2, .int x71_6]) (st := []) (r := x71_0) (ci := 4) rfl rfl (fun h9 => ct_X4_note hC.hl G h9 x71_2 x71_6 σ18) q_605 q_480 q_481 q_13 q_482 yd_X4_note rfl ⟨Nat.le_of_ble_eq_true rfl, Nat.le_of_ble_eq_true rfl⟩ ⟨Nat.zero_le _, Nat.zero_le _⟩ rfl (Nat.le_of_ble_eq_true rfl) dL_isTold_91 (fun v20 σ21 => ?_)
      show Wo _ _ _ _ _ _ _ _ _ _ [.int v20]
      refine r_bipush hC (9) (by decide) dL_isTold_94 ?_
      refine r_icmp_gt hC 121 dL_isTold_96 (by decide) ?_ ?_
      · refine Wo.sub [] rfl ?_
        exact t_L_isTold_121 hC  σ21
      · refine r_aloadn hC 0 (r := x71_0) rfl rfl dL_isTold_99 ?_
        refine r_iloadn hC 1 rfl rfl dL_isTold_100 ?_
        refine r_iload hC 2 rfl dL_isTold_101 ?_
        refine call_V hC (av := [.int x71_2, .int x71_6]) (st := []) (r := x71_0) (ci := 4) rfl rfl (fun h9 => ct_X4_taste hC.hl G h9 x71_2 x71_6 σ21) q_606 q_484 q_485 q_13 q_486 yd_X4_taste rfl ⟨Nat.le_of_ble_eq_true rfl, Nat.le_of_ble_eq_true rfl⟩ ⟨Nat.zero_le _, Nat.zero_le _⟩ rfl (Nat.le_of_ble_eq_true rfl) dL_isTold_103 (fun v23 σ24 => ?_)
        show Wo _ _ _ _ _ _ _ _ _ _ [.int v23]
        refine r_aloadn hC 0 (r := x71_0) rfl rfl dL_isTold_106 ?_
        refine r_iloadn hC 1 rfl rfl dL_isTold_107 ?_
        refine r_iload hC 2 rfl dL_isTold_108 ?_
        refine call_V hC (av := [.int x71_2, .int x71_6]) (st := [.int v23]) (r := x71_0) (ci := 4) rfl rfl (fun h9 => ct_X4_note hC.hl G h9 x71_2 x71_6 σ24) q_605 q_480 q_481 q_13 q_482 yd_X4_note rfl ⟨Nat.le_of_ble_eq_true rfl, Nat.le_of_ble_eq_true rfl⟩ ⟨Nat.zero_le _, Nat.zero_le _⟩ rfl (by simp [cat_rf, cat_i, cat_j, cat_d, cat_a]) dL_isTold_110 (fun v26 σ27 => ?_)
        show Wo _ _ _ _ _ _ _ _ _ _ [.int v26, .int v23]
        refine r_isub hC dL_isTold_113 (fun v29 => ?_)
        refine r_abs hC q_607 q_433 q_24 q_434 (Nat.le_of_ble_eq_true rfl) (Nat.le_of_ble_eq_true rfl) ⟨Nat.zero_le _, Nat.zero_le _⟩ dL_isTold_114 (fun v30 => ?_)
        refine r_iconst hC (4) rfl dL_isTold_117 ?_
        refine r_icmp_le hC 123 dL_isTold_118 (by decide) ?_ ?_
        · refine r_iinc hC 2 (fun w => [(6, .int w), (0, va_rf x71_0), (2, .int x71_2)]) 1 rfl (by decide) rfl (fun w => rfl) dL_isTold_123 (fun v31 => ?_)
          refine r_goto hC 71 dL_isTold_126 (by decide) ?_
          refine Wo.sub [1, 2, 0] rfl ?_
          exact hk71 x71_0 x71_2 v31 σ27
        · refine Wo.sub [] rfl ?_
          exact t_L_isTold_121 hC  σ27

set_option maxRecDepth 100000 in
set_option maxHeartbeats 4000000 in
theorem u_L_isTold_71 {C : Cxt} {G : Glb} (hC : CX C G RL cL_isTold 7 (some .boolean) 5 0 0 106) : ∀ (n : Nat) (x71_0 : (Option Nat)) (x71_2 : Int32) (x71_6 : Int32) (σ : Mem), Wo C G 7 (QP C G rvI 0 0) (l_L_isTold_71  n x71_0 x71_2 x71_6 σ) σ 0 0 71 [(0, va_rf x71_0), (2, .int x71_2), (6, .int x71_6)] [] := by
  intro n
  induction n with
  | zero => intro x71_0 x71_2 x71_6 σ; exact Wo.none
  | succ n ih => intro x71_0 x71_2 x71_6 σ; exact t_L_isTold_71 hC (l_L_isTold_71  n) ih x71_0 x71_2 x71_6 σ

set_option maxRecDepth 100000 in
set_option maxHeartbeats 4000000 in
theorem t_L_isTold_0 {C : Cxt} {G : Glb} (hC : CX C G RL cL_isTold 7 (some .boolean) 5 0 0 106) (p0 : (Option Nat)) (p1 : Int32) (p2 : Int32) (p3 : Int32) (σ : Mem) : Wo C G 7 (QP C G rvI 0 0) (b_L_isTold_0  p0 p1 p2 p3 σ) σ 0 0 0 [(0, va_rf p0), (1, .int p1), (2, .int p2), (3, .int p3)] [] := by
  unfold b_L_isTold_0
  refine r_aloadn hC 0 (r := p0) rfl rfl dL_isTold_0 ?_
  refine r_iloadn hC 1 rfl rfl dL_isTold_1 ?_
  refine r_iloadn hC 3 rfl rfl dL_isTold_2 ?_
  refine call_V hC (av := [.int p1, .int p3]) (st := []) (r := p0) (ci := 4) rfl rfl (fun h9 => ct_X4_lean hC.hl G h9 p1 p3 σ) q_592 q_593 q_594 q_13 q_595 yd_X4_lean rfl ⟨Nat.le_of_ble_eq_true rfl, Nat.le_of_ble_eq_true rfl⟩ ⟨Nat.zero_le _, Nat.zero_le _⟩ rfl (Nat.le_of_ble_eq_true rfl) dL_isTold_3 (fun v1 σ2 => ?_)
  show Wo _ _ _ _ _ _ _ _ _ _ [.int v1]
  refine r_bipush hC (-2) (by decide) dL_isTold_6 ?_
  refine r_icmp_ge hC 13 dL_isTold_8 (by decide) ?_ ?_
  · refine r_aloadn hC 0 (r := p0) rfl rfl dL_isTold_13 ?_
    refine r_iloadn hC 1 rfl rfl dL_isTold_14 ?_
    refine r_iconst hC (1) rfl dL_isTold_15 ?_
    refine call_V hC (av := [.int p1, .int 1]) (st := []) (r := p0) (ci := 4) rfl rfl (fun h9 => ct_X4_ofTaster hC.hl G h9 p1 1 σ2) q_596 q_541 q_542 q_13 q_543 yd_X4_ofTaster rfl ⟨Nat.le_of_ble_eq_true rfl, Nat.le_of_ble_eq_true rfl⟩ ⟨Nat.zero_le _, Nat.zero_le _⟩ rfl (Nat.le_of_ble_eq_true rfl) dL_isTold_16 (fun v4 σ5 => ?_)
    show Wo _ _ _ _ _ _ _ _ _ _ [.int v4]
    refine r_istore hC [(4, .int v4), (0, va_rf p0), (1, .int p1), (2, .int p2), (3, .int p3)] (i := 4) (by decide) rfl dL_isTold_19 ?_
    refine r_aloadn hC 1 (r := p0) rfl rfl dL_isTold_21 ?_
    refine r_iloadn hC 2 rfl rfl dL_isTold_22 ?_
    refine r_iloadn hC 3 rfl rfl dL_isTold_23 ?_
    refine call_V hC (av := [.int p1, .int p2]) (st := []) (r := p0) (ci := 4) rfl rfl (fun h9 => ct_X4_repeat hC.hl G h9 p1 p2 σ5) q_597 q_598 q_599 q_13 q_600 yd_X4_repeat rfl ⟨Nat.le_of_ble_eq_true rfl, Nat.le_of_ble_eq_true rfl⟩ ⟨Nat.zero_le _, Nat.zero_le _⟩ rfl (Nat.le_of_ble_eq_true rfl) dL_isTold_24 (fun v7 σ8 => ?_)
    show Wo _ _ _ _ _ _ _ _ _ _ [.int v7]
    refine r_istore hC [(5, .int v7), (4, .int v4), (0, va_rf p0), (1, .int p1), (2, .int p2), (3, .int p3)] (i := 5) (by decide) rfl dL_isTold_27 ?_
    refine r_aloadn hC 2 (r := p0) rfl rfl dL_isTold_29 ?_
    refine r_iloadn hC 3 rfl rfl dL_isTold_30 ?_
    refine r_iconst hC (1) rfl dL_isTold_31 ?_
    refine call_V hC (av := [.int p1, .int 1]) (st := []) (r := p0) (ci := 4) rfl rfl (fun h9 => ct_X4_ofTaster hC.hl G h9 p1 1 σ8) q_596 q_541 q_542 q_13 q_543 yd_X4_ofTaster rfl ⟨Nat.le_of_ble_eq_true rfl, Nat.le_of_ble_eq_true rfl⟩ ⟨Nat.zero_le _, Nat.zero_le _⟩ rfl (Nat.le_of_ble_eq_true rfl) dL_isTold_32 (fun v10 σ11 => ?_)
    show Wo _ _ _ _ _ _ _ _ _ _ [.int v10]
    refine r_iload hC 1 rfl dL_isTold_35 ?_
    refine r_iconst hC (1) rfl dL_isTold_37 ?_
    refine r_iadd hC dL_isTold_38 (fun v13 => ?_)
    refine r_icmp_ne hC 66 dL_isTold_39 (by decide) ?_ ?_
    · refine Wo.sub [] rfl ?_
      exact t_L_isTold_66 hC  σ11
    · refine r_aloadn hC 2 (r := p0) rfl rfl dL_isTold_42 ?_
      refine r_iloadn hC 3 rfl rfl dL_isTold_43 ?_
      refine r_iconst hC (0) rfl dL_isTold_44 ?_
      refine call_V hC (av := [.int p1, .int 0]) (st := []) (r := p0) (ci := 4) rfl rfl (fun h9 => ct_X4_ofTaster hC.hl G h9 p1 0 σ11) q_596 q_541 q_542 q_13 q_543 yd_X4_ofTaster rfl ⟨Nat.le_of_ble_eq_true rfl, Nat.le_of_ble_eq_true rfl⟩ ⟨Nat.zero_le _, Nat.zero_le _⟩ rfl (Nat.le_of_ble_eq_true rfl) dL_isTold_45 (fun v14 σ15 => ?_)
      show Wo _ _ _ _ _ _ _ _ _ _ [.int v14]
      refine r_iload hC 0 rfl dL_isTold_48 ?_
      refine r_icmp_ne hC 66 dL_isTold_50 (by decide) ?_ ?_
      · refine Wo.sub [] rfl ?_
        exact t_L_isTold_66 hC  σ15
      · refine r_iload hC 0 rfl dL_isTold_53 ?_
        refine r_bipush hC (-2) (by decide) dL_isTold_55 ?_
        refine r_icmp_lt hC 66 dL_isTold_57 (by decide) ?_ ?_
        · refine Wo.sub [] rfl ?_
          exact t_L_isTold_66 hC  σ15
        · refine r_iload hC 0 rfl dL_isTold_60 ?_
          refine r_iconst hC (2) rfl dL_isTold_62 ?_
          refine r_icmp_le hC 68 dL_isTold_63 (by decide) ?_ ?_
          · refine r_iconst hC (0) rfl dL_isTold_68 ?_
            refine r_istore hC [(6, .int 0), (5, .int v7), (4, .int v4), (0, va_rf p0), (1, .int p1), (2, .int p2), (3, .int p3)] (i := 6) (by decide) rfl dL_isTold_69 ?_
            refine Wo.sub [3, 5, 0] rfl ?_
            exact u_L_isTold_71 hC 40 p0 p2 0 σ15
          · refine Wo.sub [] rfl ?_
            exact t_L_isTold_66 hC  σ15
  · refine r_iconst hC (0) rfl dL_isTold_11 ?_
    exact e_B hC ⟨Nat.zero_le _, Nat.zero_le _⟩ dL_isTold_12

set_option maxRecDepth 100000 in
set_option maxHeartbeats 4000000 in
theorem ct_L_isTold {l : Launch} (hl : l.stackTraces = false) (G : Glb) (p0 : (Option Nat)) (p1 : Int32) (p2 : Int32) (p3 : Int32) (σ : Mem) : Ct rvI l yL_isTold (Cond.code yL_isTold cL_isTold 7 (some .boolean) :: uW) { frames := 5, cells := 0, slots := 0, locals := 106 } 0 0 G [va_rf p0, .int p1, .int p2, .int p3] σ (f_L_isTold p0 p1 p2 p3 σ) := by
  refine Ct.of hl (by decide +kernel) (by simp [lg_sl, cat_rf, cat_i, cat_j, cat_d, cat_a]) (fun C hC hin => ?_)
  have e : lv_args 0 [va_rf p0, .int p1, .int p2, .int p3] = [(0, va_rf p0), (1, .int p1), (2, .int p2), (3, .int p3)] := by simp [lv_args, cat_rf, cat_i, cat_j, cat_d, cat_a]
  rw [e]
  exact t_L_isTold_0 hC p0 p1 p2 p3 σ

noncomputable def b_L_isWorked_378 (σ : Mem) : Option ((Int32) × Mem) :=
bo 1 (some (1, σ))

noncomputable def b_L_isWorked_492 (σ : Mem) : Option ((Int32) × Mem) :=
bo 1 (some (1, σ))

noncomputable def b_L_isWorked_690 (y690_0 : Int32) (σ : Mem) : Option ((Int32) × Mem) :=
bo y690_0 (some (y690_0, σ))

noncomputable def b_L_isWorked_689 (σ : Mem) : Option ((Int32) × Mem) :=
b_L_isWorked_690 0 σ

noncomputable def b_L_isWorked_648 (σ : Mem) : Option ((Int32) × Mem) :=
bo 0 (some (0, σ))

noncomputable def b_L_isWorked_608 (k608 : (Option Nat) → Int32 → Int32 → Int32 → Int32 → (Option Nat) → Int32 → Int32 → Mem → Option ((Int32) × Mem)) (x608_0 : (Option Nat)) (x608_1 : Int32) (x608_5 : Int32) (x608_8 : Int32) (x608_9 : Int32) (x608_10 : (Option Nat)) (x608_11 : Int32) (x608_12 : Int32) (σ : Mem) : Option ((Int32) × Mem) :=
if 3 ≤ x608_12 then
ob 4 σ x608_0 fun h42 => cl1 (f_X4_ofLot h42 x608_11 1 σ) fun v40 σ41 =>
nm (x608_8 + x608_9) fun v43 =>
if v40 = v43 then
ob 4 σ41 x608_0 fun h46 => cl1 (f_X4_ofLot h46 x608_1 1 σ41) fun v44 σ45 =>
nm (x608_5 - x608_8) fun v47 =>
if v44 = v47 then
b_L_isWorked_690 1 σ45
else
b_L_isWorked_689 σ45
else
b_L_isWorked_689 σ41
else
ob 4 σ x608_0 fun h50 => cl1 (f_X4_note h50 x608_11 x608_12 σ) fun v48 σ49 =>
aI σ49 x608_10 x608_12 fun v51 =>
if v48 < v51 then
b_L_isWorked_648 σ49
else
ob 4 σ49 x608_0 fun h54 => cl1 (f_X4_note h54 x608_11 x608_12 σ49) fun v52 σ53 =>
nm (3 + x608_12) fun v55 =>
aI σ53 x608_10 v55 fun v56 =>
if v52 ≤ v56 then
nm (x608_12 + 1) fun v57 =>
k608 x608_0 x608_1 x608_5 x608_8 x608_9 x608_10 x608_11 v57 σ53
else
b_L_isWorked_648 σ53

noncomputable def l_L_isWorked_608 (n : Nat) : (Option Nat) → Int32 → Int32 → Int32 → Int32 → (Option Nat) → Int32 → Int32 → Mem → Option ((Int32) × Mem) := itr (fun _ _ _ _ _ _ _ _ _ => none) (fun k => b_L_isWorked_608  k) n

noncomputable def b_L_isWorked_532 (k532 : (Option Nat) → Int32 → Int32 → Int32 → Int32 → Int32 → (Option Nat) → Int32 → Mem → Option ((Int32) × Mem)) (x532_0 : (Option Nat)) (x532_1 : Int32) (x532_5 : Int32) (x532_7 : Int32) (x532_8 : Int32) (x532_9 : Int32) (x532_10 : (Option Nat)) (x532_11 : Int32) (σ : Mem) : Option ((Int32) × Mem) :=
if 3 ≤ x532_11 then
ob 4 σ x532_0 fun h39 => cl1 (f_X4_mix h39 x532_1 x532_8 x532_7 x532_9 σ) fun v37 σ38 =>
l_L_isWorked_608 40 x532_0 x532_1 x532_5 x532_8 x532_9 x532_10 v37 0 σ38
else
ob 4 σ x532_0 fun h60 => cl1 (f_X4_note h60 x532_1 x532_11 σ) fun v58 σ59 =>
ob 4 σ59 x532_0 fun h63 => cl1 (f_X4_note h63 x532_7 x532_11 σ59) fun v61 σ62 =>
nm (if v61 < v58 then v61 else v58) fun v64 =>
wI σ62 x532_10 x532_11 v64 fun σ65 =>
nm (3 + x532_11) fun v66 =>
ob 4 σ65 x532_0 fun h69 => cl1 (f_X4_note h69 x532_1 x532_11 σ65) fun v67 σ68 =>
ob 4 σ68 x532_0 fun h72 => cl1 (f_X4_note h72 x532_7 x532_11 σ68) fun v70 σ71 =>
nm (if v67 < v70 then v70 else v67) fun v73 =>
wI σ71 x532_10 v66 v73 fun σ74 =>
nm (x532_11 + 1) fun v75 =>
k532 x532_0 x532_1 x532_5 x532_7 x532_8 x532_9 x532_10 v75 σ74

noncomputable def l_L_isWorked_532 (n : Nat) : (Option Nat) → Int32 → Int32 → Int32 → Int32 → Int32 → (Option Nat) → Int32 → Mem → Option ((Int32) × Mem) := itr (fun _ _ _ _ _ _ _ _ _ => none) (fun k => b_L_isWorked_532  k) n

noncomputable def b_L_isWorked_442 (x442_0 : (Option Nat)) (x442_1 : Int32) (x442_3 : Int32) (x442_4 : Int32) (x442_5 : Int32) (σ : Mem) : Option ((Int32) × Mem) :=
ob 4 σ x442_0 fun h12 => cl1 (f_X4_many h12 2 σ) fun v10 σ11 =>
cl1 (f_L_below x442_4 v10 σ11) fun v13 σ14 =>
if v13 = x442_1 then
b_L_isWorked_492 σ14
else
ob 4 σ14 x442_0 fun h17 => cl1 (f_X4_ofLot h17 v13 0 σ14) fun v15 σ16 =>
if v15 = 2 then
ob 4 σ16 x442_0 fun h20 => cl1 (f_X4_ofLot h20 v13 13 σ16) fun v18 σ19 =>
if 0 < v18 then
b_L_isWorked_492 σ19
else
ob 4 σ19 x442_0 fun h23 => cl1 (f_X4_many h23 2 σ19) fun v21 σ22 =>
if v21 = 16 then
b_L_isWorked_492 σ22
else
nm (x442_3 >>> (2 &&& 31)) fun v24 =>
cl1 (f_L_below v24 x442_5 σ22) fun v25 σ26 =>
nm (1 + v25) fun v27 =>
nm (x442_3 >>> (5 &&& 31)) fun v28 =>
ob 4 σ26 x442_0 fun h31 => cl1 (f_X4_ofLot h31 v13 1 σ26) fun v29 σ30 =>
cl1 (f_L_below v28 v29 σ30) fun v32 σ33 =>
nm (1 + v32) fun v34 =>
nA 0 6 σ33 6 fun σ35 r36 =>
l_L_isWorked_532 40 x442_0 x442_1 x442_5 v13 v27 v34 r36 0 σ35
else
b_L_isWorked_492 σ16

noncomputable def b_L_isWorked_441 (y441_0 : Int32) (σ : Mem) : Option ((Int32) × Mem) :=
bo y441_0 (some (y441_0, σ))

noncomputable def b_L_isWorked_440 (σ : Mem) : Option ((Int32) × Mem) :=
b_L_isWorked_441 0 σ

noncomputable def b_L_isWorked_330 (σ : Mem) : Option ((Int32) × Mem) :=
bo 0 (some (0, σ))

noncomputable def b_L_isWorked_362 (y362_0 : Int32) (σ : Mem) : Option ((Int32) × Mem) :=
bo y362_0 (some (y362_0, σ))

noncomputable def b_L_isWorked_296 (y296_0 : Int32) (σ : Mem) : Option ((Int32) × Mem) :=
bo y296_0 (some (y296_0, σ))

noncomputable def b_L_isWorked_268 (x268_0 : (Option Nat)) (x268_1 : Int32) (x268_5 : Int32) (σ : Mem) : Option ((Int32) × Mem) :=
ob 4 σ x268_0 fun h95 => cl1 (f_X4_bestFire h95 x268_1 σ) fun v93 σ94 =>
if 0 ≤ v93 then
dv v93 100 fun v96 =>
rm v93 100 fun v97 =>
ob 4 σ94 x268_0 fun h100 => cl1 (f_X4_fire h100 x268_1 v96 v97 σ94) fun v98 σ99 =>
nm (v98 * 20) fun v101 =>
if x268_5 < v101 then
b_L_isWorked_330 σ99
else
ob 4 σ99 x268_0 fun h104 => cl1 (f_X4_ofLot h104 x268_1 0 σ99) fun v102 σ103 =>
if v102 = 2 then
ob 4 σ103 x268_0 fun h107 => cl1 (f_X4_note h107 x268_1 0 σ103) fun v105 σ106 =>
ob 4 σ106 x268_0 fun h110 => cl1 (f_X4_note h110 x268_1 1 σ106) fun v108 σ109 =>
nm (v105 + v108) fun v111 =>
ob 4 σ109 x268_0 fun h114 => cl1 (f_X4_note h114 x268_1 2 σ109) fun v112 σ113 =>
nm (v111 + v112) fun v115 =>
if 27 < v115 then
b_L_isWorked_362 0 σ113
else
b_L_isWorked_362 1 σ113
else
b_L_isWorked_330 σ103
else
ob 4 σ94 x268_0 fun h118 => cl1 (f_X4_fire h118 x268_1 5 30 σ94) fun v116 σ117 =>
if v116 < 0 then
b_L_isWorked_296 0 σ117
else
b_L_isWorked_296 1 σ117

noncomputable def b_L_isWorked_267 (y267_0 : Int32) (σ : Mem) : Option ((Int32) × Mem) :=
bo y267_0 (some (y267_0, σ))

noncomputable def b_L_isWorked_210 (x210_0 : (Option Nat)) (x210_1 : Int32) (x210_2 : Int32) (x210_3 : Int32) (x210_4 : Int32) (x210_5 : Int32) (σ : Mem) : Option ((Int32) × Mem) :=
if x210_2 = 1 then
ob 4 σ x210_0 fun h92 => cl1 (f_X4_ofLot h92 x210_1 10 σ) fun v90 σ91 =>
if v90 = 0 then
cl1 (f_L_below x210_3 3 σ91) fun v119 σ120 =>
if v119 = 1 then
cl1 (f_L_below x210_4 9 σ120) fun v121 σ122 =>
nm (1 + v121) fun v123 =>
nm (x210_3 >>> (2 &&& 31)) fun v124 =>
cl1 (f_L_below v124 4 σ122) fun v125 σ126 =>
nm (1 + v125) fun v127 =>
ob 4 σ126 x210_0 fun h130 => cl1 (f_X4_rest h130 x210_1 v123 v127 σ126) fun v128 σ129 =>
if 60 < v128 then
b_L_isWorked_267 0 σ129
else
b_L_isWorked_267 1 σ129
else
b_L_isWorked_268 x210_0 x210_1 x210_5 σ120
else
b_L_isWorked_268 x210_0 x210_1 x210_5 σ91
else
if x210_2 = 2 then
ob 4 σ x210_0 fun h6 => cl1 (f_X4_ofLot h6 x210_1 13 σ) fun v4 σ5 =>
if v4 ≤ 0 then
ob 4 σ5 x210_0 fun h9 => cl1 (f_X4_ofLot h9 x210_1 9 σ5) fun v7 σ8 =>
if 0 ≤ v7 then
b_L_isWorked_442 x210_0 x210_1 x210_3 x210_4 x210_5 σ8
else
ob 4 σ8 x210_0 fun h78 => cl1 (f_X4_ofLot h78 x210_1 12 σ8) fun v76 σ77 =>
if v76 = 0 then
ob 4 σ77 x210_0 fun h81 => cl1 (f_X4_many h81 2 σ77) fun v79 σ80 =>
if 14 ≤ v79 then
b_L_isWorked_442 x210_0 x210_1 x210_3 x210_4 x210_5 σ80
else
cl1 (f_L_below x210_3 2 σ80) fun v82 σ83 =>
if v82 = 0 then
ob 4 σ83 x210_0 fun h86 => cl1 (f_X4_sort h86 x210_1 σ83) fun v84 σ85 =>
if v84 ≤ 0 then
b_L_isWorked_440 σ85
else
ob 4 σ85 x210_0 fun h89 => cl1 (f_X4_ofLot h89 x210_1 0 σ85) fun v87 σ88 =>
if v87 = 3 then
b_L_isWorked_441 1 σ88
else
b_L_isWorked_440 σ88
else
b_L_isWorked_442 x210_0 x210_1 x210_3 x210_4 x210_5 σ83
else
b_L_isWorked_442 x210_0 x210_1 x210_3 x210_4 x210_5 σ77
else
b_L_isWorked_378 σ5
else
b_L_isWorked_378 σ

noncomputable def b_L_isWorked_209 (y209_0 : Int32) (σ : Mem) : Option ((Int32) × Mem) :=
bo y209_0 (some (y209_0, σ))

noncomputable def b_L_isWorked_208 (σ : Mem) : Option ((Int32) × Mem) :=
b_L_isWorked_209 0 σ

noncomputable def b_L_isWorked_161 (x161_0 : (Option Nat)) (x161_1 : Int32) (x161_4 : Int32) (σ : Mem) : Option ((Int32) × Mem) :=
ob 4 σ x161_0 fun h133 => cl1 (f_X4_ofLot h133 x161_1 5 σ) fun v131 σ132 =>
cl1 (f_L_below x161_4 5 σ132) fun v134 σ135 =>
nm (1 + v134) fun v136 =>
ob 4 σ135 x161_0 fun h139 => cl1 (f_X4_roll h139 x161_1 v136 σ135) fun v137 σ138 =>
nm (v131 + v136) fun v140 =>
if v137 = v140 then
ob 4 σ138 x161_0 fun h143 => cl1 (f_X4_ofLot h143 x161_1 0 σ138) fun v141 σ142 =>
if v141 = 1 then
b_L_isWorked_209 1 σ142
else
b_L_isWorked_208 σ142
else
b_L_isWorked_208 σ138

noncomputable def b_L_isWorked_144 (x144_0 : (Option Nat)) (x144_1 : Int32) (x144_2 : Int32) (x144_3 : Int32) (x144_4 : Int32) (x144_5 : Int32) (x144_6 : Int32) (σ : Mem) : Option ((Int32) × Mem) :=
if x144_6 = 0 then
b_L_isWorked_210 x144_0 x144_1 x144_2 x144_3 x144_4 x144_5 σ
else
if x144_2 = 0 then
b_L_isWorked_161 x144_0 x144_1 x144_4 σ
else
cl1 (f_L_below x144_3 3 σ) fun v144 σ145 =>
if v144 = 0 then
b_L_isWorked_161 x144_0 x144_1 x144_4 σ145
else
b_L_isWorked_210 x144_0 x144_1 x144_2 x144_3 x144_4 x144_5 σ145

noncomputable def b_L_isWorked_143 (y143_0 : Int32) (σ : Mem) : Option ((Int32) × Mem) :=
bo y143_0 (some (y143_0, σ))

noncomputable def b_L_isWorked_142 (σ : Mem) : Option ((Int32) × Mem) :=
b_L_isWorked_143 0 σ

noncomputable def b_L_isWorked_99 (y99_0 : Int32) (σ : Mem) : Option ((Int32) × Mem) :=
bo y99_0 (some (y99_0, σ))

noncomputable def b_L_isWorked_98 (σ : Mem) : Option ((Int32) × Mem) :=
b_L_isWorked_99 0 σ

noncomputable def b_L_isWorked_31 (x31_0 : (Option Nat)) (x31_1 : Int32) (x31_2 : Int32) (x31_3 : Int32) (x31_4 : Int32) (x31_5 : Int32) (y31_0 : Int32) (σ : Mem) : Option ((Int32) × Mem) :=
if x31_2 = 0 then
ob 4 σ x31_0 fun h148 => cl1 (f_X4_ofLot h148 x31_1 10 σ) fun v146 σ147 =>
if v146 = 0 then
if y31_0 = 0 then
ob 4 σ147 x31_0 fun h151 => cl1 (f_X4_ofLot h151 x31_1 3 σ147) fun v149 σ150 =>
cl1 (f_L_below x31_3 5 σ150) fun v152 σ153 =>
if v152 = 0 then
ob 4 σ153 x31_0 fun h169 => cl1 (f_X4_kill h169 x31_1 σ153) fun v167 σ168 =>
dv v149 5 fun v170 =>
nm (v149 - v170) fun v171 =>
if v167 = v171 then
ob 4 σ168 x31_0 fun h174 => cl1 (f_X4_ofLot h174 x31_1 10 σ168) fun v172 σ173 =>
if v172 = 1 then
b_L_isWorked_99 1 σ173
else
b_L_isWorked_98 σ173
else
b_L_isWorked_98 σ168
else
cl1 (f_L_below x31_4 4 σ153) fun v154 σ155 =>
nm (1 + v154) fun v156 =>
nm (x31_3 >>> (2 &&& 31)) fun v157 =>
cl1 (f_L_below v157 3 σ155) fun v158 σ159 =>
nm (1 + v158) fun v160 =>
ob 4 σ159 x31_0 fun h163 => cl1 (f_X4_wither h163 x31_1 v156 v160 σ159) fun v161 σ162 =>
if v149 ≤ v161 then
b_L_isWorked_142 σ162
else
ob 4 σ162 x31_0 fun h166 => cl1 (f_X4_ofLot h166 x31_1 3 σ162) fun v164 σ165 =>
if v164 < x31_5 then
b_L_isWorked_142 σ165
else
b_L_isWorked_143 1 σ165
else
b_L_isWorked_144 x31_0 x31_1 x31_2 x31_3 x31_4 x31_5 y31_0 σ147
else
b_L_isWorked_144 x31_0 x31_1 x31_2 x31_3 x31_4 x31_5 y31_0 σ147
else
b_L_isWorked_144 x31_0 x31_1 x31_2 x31_3 x31_4 x31_5 y31_0 σ

noncomputable def b_L_isWorked_30 (x30_0 : (Option Nat)) (x30_1 : Int32) (x30_2 : Int32) (x30_3 : Int32) (x30_4 : Int32) (x30_5 : Int32) (σ : Mem) : Option ((Int32) × Mem) :=
b_L_isWorked_31 x30_0 x30_1 x30_2 x30_3 x30_4 x30_5 0 σ

noncomputable def b_L_isWorked_0 (p0 : (Option Nat)) (p1 : Int32) (p2 : Int32) (p3 : Int32) (p4 : Int32) (σ : Mem) : Option ((Int32) × Mem) :=
ob 4 σ p0 fun h3 => cl1 (f_X4_ofLot h3 p1 1 σ) fun v1 σ2 =>
if 2 ≤ p2 then
b_L_isWorked_30 p0 p1 p2 p3 p4 v1 σ2
else
ob 4 σ2 p0 fun h177 => cl1 (f_X4_ofLot h177 p1 3 σ2) fun v175 σ176 =>
nm (2 * v1) fun v178 =>
if v178 < v175 then
b_L_isWorked_30 p0 p1 p2 p3 p4 v1 σ176
else
b_L_isWorked_31 p0 p1 p2 p3 p4 v1 1 σ176

noncomputable def f_L_isWorked (p0 : (Option Nat)) (p1 : Int32) (p2 : Int32) (p3 : Int32) (p4 : Int32) (σ : Mem) : Option ((Int32) × Mem) := b_L_isWorked_0 p0 p1 p2 p3 p4 σ
set_option maxRecDepth 100000 in
set_option maxHeartbeats 4000000 in
theorem t_L_isWorked_378 {C : Cxt} {G : Glb} (hC : CX C G RL cL_isWorked 13 (some .boolean) 5 1 6 108) (σ : Mem) (kc ks : Nat) (hN : kc + 0 ≤ 1 ∧ ks + 0 ≤ 6) : Wo C G 13 (QP C G rvI 1 6) (b_L_isWorked_378   σ) σ kc ks 378 [] [] := by
  unfold b_L_isWorked_378
  refine r_iconst hC (1) rfl dL_isWorked_378 ?_
  exact e_B hC ⟨by omega, by omega⟩ dL_isWorked_379

set_option maxRecDepth 100000 in
set_option maxHeartbeats 4000000 in
theorem t_L_isWorked_492 {C : Cxt} {G : Glb} (hC : CX C G RL cL_isWorked 13 (some .boolean) 5 1 6 108) (σ : Mem) (kc ks : Nat) (hN : kc + 0 ≤ 1 ∧ ks + 0 ≤ 6) : Wo C G 13 (QP C G rvI 1 6) (b_L_isWorked_492   σ) σ kc ks 492 [] [] := by
  unfold b_L_isWorked_492
  refine r_iconst hC (1) rfl dL_isWorked_492 ?_
  exact e_B hC ⟨by omega, by omega⟩ dL_isWorked_493

set_option maxRecDepth 100000 in
set_option maxHeartbeats 4000000 in
theorem t_L_isWorked_690 {C : Cxt} {G : Glb} (hC : CX C G RL cL_isWorked 13 (some .boolean) 5 1 6 108) (y690_0 : Int32) (σ : Mem) (kc ks : Nat) (hN : kc + 0 ≤ 1 ∧ ks + 0 ≤ 6) : Wo C G 13 (QP C G rvI 1 6) (b_L_isWorked_690  y690_0 σ) σ kc ks 690 [] [.int y690_0] := by
  unfold b_L_isWorked_690
  exact e_B hC ⟨by omega, by omega⟩ dL_isWorked_690

set_option maxRecDepth 100000 in
set_option maxHeartbeats 4000000 in
theorem t_L_isWorked_689 {C : Cxt} {G : Glb} (hC : CX C G RL cL_isWorked 13 (some .boolean) 5 1 6 108) (σ : Mem) (kc ks : Nat) (hN : kc + 0 ≤ 1 ∧ ks + 0 ≤ 6) : Wo C G 13 (QP C G rvI 1 6) (b_L_isWorked_689   σ) σ kc ks 689 [] [] := by
  unfold b_L_isWorked_689
  refine r_iconst hC (0) rfl dL_isWorked_689 ?_
  exact t_L_isWorked_690 hC 0 σ _ _ ⟨by omega, by omega⟩

set_option maxRecDepth 100000 in
set_option maxHeartbeats 4000000 in
theorem t_L_isWorked_648 {C : Cxt} {G : Glb} (hC : CX C G RL cL_isWorked 13 (some .boolean) 5 1 6 108) (σ : Mem) (kc ks : Nat) (hN : kc + 0 ≤ 1 ∧ ks + 0 ≤ 6) : Wo C G 13 (QP C G rvI 1 6) (b_L_isWorked_648   σ) σ kc ks 648 [] [] := by
  unfold b_L_isWorked_648
  refine r_iconst hC (0) rfl dL_isWorked_648 ?_
  exact e_B hC ⟨by omega, by omega⟩ dL_isWorked_649

set_option maxRecDepth 100000 in
set_option maxHeartbeats 4000000 in
theorem t_L_isWorked_608 {C : Cxt} {G : Glb} (hC : CX C G RL cL_isWorked 13 (some .boolean) 5 1 6 108) (P608 : Nat → Nat → Prop) (hm608 : ∀ a b a2 b2 : Nat, a ≤ a2 → b ≤ b2 → P608 a2 b2 → P608 a b) (k608 : (Option Nat) → Int32 → Int32 → Int32 → Int32 → (Option Nat) → Int32 → Int32 → Mem → Option ((Int32) × Mem)) (hk608 : ∀ (x608_0 : (Option Nat)) (x608_1 : Int32) (x608_5 : Int32) (x608_8 : Int32) (x608_9 : Int32) (x608_10 : (Option Nat)) (x608_11 : Int32) (x608_12 : Int32) (σ : Mem) (kc ks : Nat), P608 kc ks → Wo C G 13 (QP C G rvI 1 6) (k608 x608_0 x608_1 x608_5 x608_8 x608_9 x608_10 x608_11 x608_12 σ) σ kc ks 608 [(0, va_rf x608_0), (1, .int x608_1), (5, .int x608_5), (8, .int x608_8), (9, .int x608_9), (10, va_rf x608_10), (11, .int x608_11), (12, .int x608_12)] []) (x608_0 : (Option Nat)) (x608_1 : Int32) (x608_5 : Int32) (x608_8 : Int32) (x608_9 : Int32) (x608_10 : (Option Nat)) (x608_11 : Int32) (x608_12 : Int32) (σ : Mem) (kc ks : Nat) (hN : kc + 0 ≤ 1 ∧ ks + 0 ≤ 6) (hP608 : P608 (kc + 0) (ks + 0)) : Wo C G 13 (QP C G rvI 1 6) (b_L_isWorked_608 k608 x608_0 x608_1 x608_5 x608_8 x608_9 x608_10 x608_11 x608_12 σ) σ kc ks 608 [(0, va_rf x608_0), (1, .int x608_1), (5, .int x608_5), (8, .int x608_8), (9, .int x608_9), (10, va_rf x608_10), (11, .int x608_11), (12, .int x608_12)] [] := by
  unfold b_L_isWorked_608
  refine r_iload hC 7 rfl dL_isWorked_608 ?_
  refine r_iconst hC (3) rfl dL_isWorked_610 ?_
  refine r_icmp_ge hC 656 dL_isWorked_611 (by decide) ?_ ?_
  · refine r_aloadn hC 0 (r := x608_0) rfl rfl dL_isWorked_656 ?_
    refine r_iload hC 6 rfl dL_isWorked_657 ?_
    refine r_iconst hC (1) rfl dL_isWorked_659 ?_
    refine call_V hC (av := [.int x608_11, .int 1]) (st := []) (r := x608_0) (ci := 4) rfl rfl (fun h9 => ct_X4_ofLot hC.hl G h9 x608_11 1 σ) q_385 q_386 q_387 q_13 q_388 yd_X4_ofLot rfl ⟨Nat.le_of_ble_eq_true rfl, Nat.le_of_ble_eq_true rfl⟩ ⟨by omega, by omega⟩ rfl (Nat.le_of_ble_eq_true rfl) dL_isWorked_660 (fun v40 σ41 => ?_)
    show Wo _ _ _ _ _ _ _ _ _ _ [.int v40]
    refine r_iload hC 3 rfl dL_isWorked_663 ?_
    refine r_iload hC 4 rfl dL_isWorked_665 ?_
    refine r_iadd hC dL_isWorked_667 (fun v43 => ?_)
    refine r_icmp_ne hC 689 dL_isWorked_668 (by decide) ?_ ?_
    · refine Wo.sub [] rfl ?_
      exact t_L_isWorked_689 hC  σ41 _ _ ⟨by omega, by omega⟩
    · refine r_aloadn hC 0 (r := x608_0) rfl rfl dL_isWorked_671 ?_
      refine r_iloadn hC 1 rfl rfl dL_isWorked_672 ?_
      refine r_iconst hC (1) rfl dL_isWorked_673 ?_
      refine call_V hC (av := [.int x608_1, .int 1]) (st := []) (r := x608_0) (ci := 4) rfl rfl (fun h9 => ct_X4_ofLot hC.hl G h9 x608_1 1 σ41) q_385 q_386 q_387 q_13 q_388 yd_X4_ofLot rfl ⟨Nat.le_of_ble_eq_true rfl, Nat.le_of_ble_eq_true rfl⟩ ⟨by omega, by omega⟩ rfl (Nat.le_of_ble_eq_true rfl) dL_isWorked_674 (fun v44 σ45 => ?_)
      show Wo _ _ _ _ _ _ _ _ _ _ [.int v44]
      refine r_iload hC 2 rfl dL_isWorked_677 ?_
      refine r_iload hC 3 rfl dL_isWorked_679 ?_
      refine r_isub hC dL_isWorked_681 (fun v47 => ?_)
      refine r_icmp_ne hC 689 dL_isWorked_682 (by decide) ?_ ?_
      · refine Wo.sub [] rfl ?_
        exact t_L_isWorked_689 hC  σ45 _ _ ⟨by omega, by omega⟩
      · refine r_iconst hC (1) rfl dL_isWorked_685 ?_
        refine r_goto hC 690 dL_isWorked_686 (by decide) ?_
        refine Wo.sub [] rfl ?_
        exact t_L_isWorked_690 hC 1 σ45 _ _ ⟨by omega, by omega⟩
  · refine r_aloadn hC 0 (r := x608_0) rfl rfl dL_isWorked_614 ?_
    refine r_iload hC 6 rfl dL_isWorked_615 ?_
    refine r_iload hC 7 rfl dL_isWorked_617 ?_
    refine call_V hC (av := [.int x608_11, .int x608_12]) (st := []) (r := x608_0) (ci := 4) rfl rfl (fun h9 => ct_X4_note hC.hl G h9 x608_11 x608_12 σ) q_605 q_480 q_481 q_13 q_482 yd_X4_note rfl ⟨Nat.le_of_ble_eq_true rfl, Nat.le_of_ble_eq_true rfl⟩ ⟨by omega, by omega⟩ rfl (Nat.le_of_ble_eq_true rfl) dL_isWorked_619 (fun v48 σ49 => ?_)
    show Wo _ _ _ _ _ _ _ _ _ _ [.int v48]
    refine r_aload hC 5 (r := x608_10) rfl dL_isWorked_622 ?_
    refine r_iload hC 7 rfl dL_isWorked_624 ?_
    refine r_aI hC (r := x608_10) dL_isWorked_626 (fun v51 => ?_)
    refine r_icmp_lt hC 648 dL_isWorked_627 (by decide) ?_ ?_
    · refine Wo.sub [] rfl ?_
      exact t_L_isWorked_648 hC  σ49 _ _ ⟨by omega, by omega⟩
    · refine r_aloadn hC 0 (r := x608_0) rfl rfl dL_isWorked_630 ?_
      refine r_iload hC 6 rfl dL_isWorked_631 ?_
      refine r_iload hC 7 rfl dL_isWorked_633 ?_
      refine call_V hC (av := [.int x608_11, .int x608_12]) (st := []) (r := x608_0) (ci := 4) rfl rfl (fun h9 => ct_X4_note hC.hl G h9 x608_11 x608_12 σ49) q_605 q_480 q_481 q_13 q_482 yd_X4_note rfl ⟨Nat.le_of_ble_eq_true rfl, Nat.le_of_ble_eq_true rfl⟩ ⟨by omega, by omega⟩ rfl (Nat.le_of_ble_eq_true rfl) dL_isWorked_635 (fun v52 σ53 => ?_)
      show Wo _ _ _ _ _ _ _ _ _ _ [.int v52]
      refine r_aload hC 5 (r := x608_10) rfl dL_isWorked_638 ?_
      refine r_iconst hC (3) rfl dL_isWorked_640 ?_
      refine r_iload hC 7 rfl dL_isWorked_641 ?_
      refine r_iadd hC dL_isWorked_643 (fun v55 => ?_)
      refine r_aI hC (r := x608_10) dL_isWorked_644 (fun v56 => ?_)
      refine r_icmp_le hC 650 dL_isWorked_645 (by decide) ?_ ?_
      · refine r_iinc hC 7 (fun w => [(12, .int w), (0, va_rf x608_0), (1, .int x608_1), (5, .int x608_5), (8, .int x608_8), (9, .int x608_9), (10, va_rf x608_10), (11, .int x608_11)]) 1 rfl (by decide) rfl (fun w => rfl) dL_isWorked_650 (fun v57 => ?_)
        refine r_goto hC 608 dL_isWorked_653 (by decide) ?_
        refine Wo.sub [1, 2, 3, 4, 5, 6, 7, 0] rfl ?_
        exact hk608 x608_0 x608_1 x608_5 x608_8 x608_9 x608_10 x608_11 v57 σ53 _ _ (hm608 _ _ _ _ (by omega) (by omega) hP608)
      · refine Wo.sub [] rfl ?_
        exact t_L_isWorked_648 hC  σ53 _ _ ⟨by omega, by omega⟩

set_option maxRecDepth 100000 in
set_option maxHeartbeats 4000000 in
theorem u_L_isWorked_608 {C : Cxt} {G : Glb} (hC : CX C G RL cL_isWorked 13 (some .boolean) 5 1 6 108) : ∀ (n : Nat) (x608_0 : (Option Nat)) (x608_1 : Int32) (x608_5 : Int32) (x608_8 : Int32) (x608_9 : Int32) (x608_10 : (Option Nat)) (x608_11 : Int32) (x608_12 : Int32) (σ : Mem) (kc ks : Nat), (∀ m, n = m + 1 → (kc + m * 0 + 0 ≤ 1 ∧ ks + m * 0 + 0 ≤ 6)) → Wo C G 13 (QP C G rvI 1 6) (l_L_isWorked_608  n x608_0 x608_1 x608_5 x608_8 x608_9 x608_10 x608_11 x608_12 σ) σ kc ks 608 [(0, va_rf x608_0), (1, .int x608_1), (5, .int x608_5), (8, .int x608_8), (9, .int x608_9), (10, va_rf x608_10), (11, .int x608_11), (12, .int x608_12)] [] := by
  intro n
  induction n with
  | zero => intro x608_0 x608_1 x608_5 x608_8 x608_9 x608_10 x608_11 x608_12 σ kc ks h0; exact Wo.none
  | succ n ih =>
    intro x608_0 x608_1 x608_5 x608_8 x608_9 x608_10 x608_11 x608_12 σ kc ks h0
    exact t_L_isWorked_608 hC (fun kc ks => (∀ m, n = m + 1 → (kc + m * 0 + 0 ≤ 1 ∧ ks + m * 0 + 0 ≤ 6))) (fun a b a2 b2 h1 h2 h m e => ⟨by have := (h m e).1; omega, by have := (h m e).2; omega⟩) (l_L_isWorked_608  n) ih x608_0 x608_1 x608_5 x608_8 x608_9 x608_10 x608_11 x608_12 σ kc ks ⟨by have := (h0 n rfl).1; omega, by have := (h0 n rfl).2; omega⟩ (fun m e => by
      subst e
      exact ⟨by have := (h0 _ rfl).1; omega, by have := (h0 _ rfl).2; omega⟩)

set_option maxRecDepth 100000 in
set_option maxHeartbeats 4000000 in
theorem t_L_isWorked_532 {C : Cxt} {G : Glb} (hC : CX C G RL cL_isWorked 13 (some .boolean) 5 1 6 108) (P532 : Nat → Nat → Prop) (hm532 : ∀ a b a2 b2 : Nat, a ≤ a2 → b ≤ b2 → P532 a2 b2 → P532 a b) (k532 : (Option Nat) → Int32 → Int32 → Int32 → Int32 → Int32 → (Option Nat) → Int32 → Mem → Option ((Int32) × Mem)) (hk532 : ∀ (x532_0 : (Option Nat)) (x532_1 : Int32) (x532_5 : Int32) (x532_7 : Int32) (x532_8 : Int32) (x532_9 : Int32) (x532_10 : (Option Nat)) (x532_11 : Int32) (σ : Mem) (kc ks : Nat), P532 kc ks → Wo C G 13 (QP C G rvI 1 6) (k532 x532_0 x532_1 x532_5 x532_7 x532_8 x532_9 x532_10 x532_11 σ) σ kc ks 532 [(0, va_rf x532_0), (1, .int x532_1), (5, .int x532_5), (7, .int x532_7), (8, .int x532_8), (9, .int x532_9), (10, va_rf x532_10), (11, .int x532_11)] []) (x532_0 : (Option Nat)) (x532_1 : Int32) (x532_5 : Int32) (x532_7 : Int32) (x532_8 : Int32) (x532_9 : Int32) (x532_10 : (Option Nat)) (x532_11 : Int32) (σ : Mem) (kc ks : Nat) (hN : kc + 0 ≤ 1 ∧ ks + 0 ≤ 6) (hP532 : P532 (kc + 0) (ks + 0)) : Wo C G 13 (QP C G rvI 1 6) (b_L_isWorked_532 k532 x532_0 x532_1 x532_5 x532_7 x532_8 x532_9 x532_10 x532_11 σ) σ kc ks 532 [(0, va_rf x532_0), (1, .int x532_1), (5, .int x532_5), (7, .int x532_7), (8, .int x532_8), (9, .int x532_9), (10, va_rf x532_10), (11, .int x532_11)] [] := by
  unfold b_L_isWorked_532
  refine r_iload hC 7 rfl dL_isWorked_532 ?_
  refine r_iconst hC (3) rfl dL_isWorked_534 ?_
  refine r_icmp_ge hC 592 dL_isWorked_535 (by decide) ?_ ?_
  · refine r_aloadn hC 0 (r := x532_0) rfl rfl dL_isWorked_592 ?_
    refine r_iloadn hC 1 rfl rfl dL_isWorked_593 ?_
    refine r_iload hC 4 rfl dL_isWorked_594 ?_
    refine r_iload hC 3 rfl dL_isWorked_596 ?_
    refine r_iload hC 5 rfl dL_isWorked_598 ?_
    refine call_V hC (av := [.int x532_1, .int x532_8, .int x532_7, .int x532_9]) (st := []) (r := x532_0) (ci := 4) rfl rfl (fun h9 => ct_X4_mix hC.hl G h9 x532_1 x532_8 x532_7 x532_9 σ) q_652 q_653 q_654 q_13 q_655 yd_X4_mix rfl ⟨Nat.le_of_ble_eq_true rfl, Nat.le_of_ble_eq_true rfl⟩ ⟨by omega, by omega⟩ rfl (Nat.le_of_ble_eq_true rfl) dL_isWorked_600 (fun v37 σ38 => ?_)
    show Wo _ _ _ _ _ _ _ _ _ _ [.int v37]
    refine r_istore hC [(11, .int v37), (0, va_rf x532_0), (1, .int x532_1), (5, .int x532_5), (7, .int x532_7), (8, .int x532_8), (9, .int x532_9), (10, va_rf x532_10)] (i := 11) (by decide) (by simp [List.filter, cat_rf, cat_i, cat_j, cat_d, cat_a]) dL_isWorked_603 ?_
    refine r_iconst hC (0) rfl dL_isWorked_605 ?_
    refine r_istore hC [(12, .int 0), (11, .int v37), (0, va_rf x532_0), (1, .int x532_1), (5, .int x532_5), (7, .int x532_7), (8, .int x532_8), (9, .int x532_9), (10, va_rf x532_10)] (i := 12) (by decide) rfl dL_isWorked_606 ?_
    refine Wo.sub [2, 3, 4, 6, 7, 8, 1, 0] rfl ?_
    exact u_L_isWorked_608 hC 40 x532_0 x532_1 x532_5 x532_8 x532_9 x532_10 v37 0 σ38 _ _ (fun m e => by cases e; exact ⟨by omega, by omega⟩)
  · refine r_aload hC 6 (r := x532_10) rfl dL_isWorked_538 ?_
    refine r_iload hC 7 rfl dL_isWorked_540 ?_
    refine r_aloadn hC 0 (r := x532_0) rfl rfl dL_isWorked_542 ?_
    refine r_iloadn hC 1 rfl rfl dL_isWorked_543 ?_
    refine r_iload hC 7 rfl dL_isWorked_544 ?_
    refine call_V hC (av := [.int x532_1, .int x532_11]) (st := [.int x532_11, va_rf x532_10]) (r := x532_0) (ci := 4) rfl rfl (fun h9 => ct_X4_note hC.hl G h9 x532_1 x532_11 σ) q_605 q_480 q_481 q_13 q_482 yd_X4_note rfl ⟨Nat.le_of_ble_eq_true rfl, Nat.le_of_ble_eq_true rfl⟩ ⟨by omega, by omega⟩ rfl (by simp [cat_rf, cat_i, cat_j, cat_d, cat_a]) dL_isWorked_546 (fun v58 σ59 => ?_)
    show Wo _ _ _ _ _ _ _ _ _ _ [.int v58, .int x532_11, va_rf x532_10]
    refine r_aloadn hC 0 (r := x532_0) rfl rfl dL_isWorked_549 ?_
    refine r_iload hC 3 rfl dL_isWorked_550 ?_
    refine r_iload hC 7 rfl dL_isWorked_552 ?_
    refine call_V hC (av := [.int x532_7, .int x532_11]) (st := [.int v58, .int x532_11, va_rf x532_10]) (r := x532_0) (ci := 4) rfl rfl (fun h9 => ct_X4_note hC.hl G h9 x532_7 x532_11 σ59) q_605 q_480 q_481 q_13 q_482 yd_X4_note rfl ⟨Nat.le_of_ble_eq_true rfl, Nat.le_of_ble_eq_true rfl⟩ ⟨by omega, by omega⟩ rfl (by simp [cat_rf, cat_i, cat_j, cat_d, cat_a]) dL_isWorked_554 (fun v61 σ62 => ?_)
    show Wo _ _ _ _ _ _ _ _ _ _ [.int v61, .int v58, .int x532_11, va_rf x532_10]
    refine r_min hC q_650 q_343 q_24 q_344 (Nat.le_of_ble_eq_true rfl) (by simp [cat_rf, cat_i, cat_j, cat_d, cat_a]) ⟨by omega, by omega⟩ dL_isWorked_557 (fun v64 => ?_)
    refine r_wI hC (r := x532_10) dL_isWorked_560 (fun σ65 => ?_)
    refine r_aload hC 6 (r := x532_10) rfl dL_isWorked_561 ?_
    refine r_iconst hC (3) rfl dL_isWorked_563 ?_
    refine r_iload hC 7 rfl dL_isWorked_564 ?_
    refine r_iadd hC dL_isWorked_566 (fun v66 => ?_)
    refine r_aloadn hC 0 (r := x532_0) rfl rfl dL_isWorked_567 ?_
    refine r_iloadn hC 1 rfl rfl dL_isWorked_568 ?_
    refine r_iload hC 7 rfl dL_isWorked_569 ?_
    refine call_V hC (av := [.int x532_1, .int x532_11]) (st := [.int v66, va_rf x532_10]) (r := x532_0) (ci := 4) rfl rfl (fun h9 => ct_X4_note hC.hl G h9 x532_1 x532_11 σ65) q_605 q_480 q_481 q_13 q_482 yd_X4_note rfl ⟨Nat.le_of_ble_eq_true rfl, Nat.le_of_ble_eq_true rfl⟩ ⟨by omega, by omega⟩ rfl (by simp [cat_rf, cat_i, cat_j, cat_d, cat_a]) dL_isWorked_571 (fun v67 σ68 => ?_)
    show Wo _ _ _ _ _ _ _ _ _ _ [.int v67, .int v66, va_rf x532_10]
    refine r_aloadn hC 0 (r := x532_0) rfl rfl dL_isWorked_574 ?_
    refine r_iload hC 3 rfl dL_isWorked_575 ?_
    refine r_iload hC 7 rfl dL_isWorked_577 ?_
    refine call_V hC (av := [.int x532_7, .int x532_11]) (st := [.int v67, .int v66, va_rf x532_10]) (r := x532_0) (ci := 4) rfl rfl (fun h9 => ct_X4_note hC.hl G h9 x532_7 x532_11 σ68) q_605 q_480 q_481 q_13 q_482 yd_X4_note rfl ⟨Nat.le_of_ble_eq_true rfl, Nat.le_of_ble_eq_true rfl⟩ ⟨by omega, by omega⟩ rfl (by simp [cat_rf, cat_i, cat_j, cat_d, cat_a]) dL_isWorked_579 (fun v70 σ71 => ?_)
    show Wo _ _ _ _ _ _ _ _ _ _ [.int v70, .int v67, .int v66, va_rf x532_10]
    refine r_max hC q_651 q_426 q_24 q_427 (Nat.le_of_ble_eq_true rfl) (by simp [cat_rf, cat_i, cat_j, cat_d, cat_a]) ⟨by omega, by omega⟩ dL_isWorked_582 (fun v73 => ?_)
    refine r_wI hC (r := x532_10) dL_isWorked_585 (fun σ74 => ?_)
    refine r_iinc hC 7 (fun w => [(11, .int w), (0, va_rf x532_0), (1, .int x532_1), (5, .int x532_5), (7, .int x532_7), (8, .int x532_8), (9, .int x532_9), (10, va_rf x532_10)]) 1 rfl (by decide) rfl (fun w => by simp [List.filter, cat_rf, cat_i, cat_j, cat_d, cat_a]) dL_isWorked_586 (fun v75 => ?_)
    refine r_goto hC 532 dL_isWorked_589 (by decide) ?_
    refine Wo.sub [1, 2, 3, 4, 5, 6, 7, 0] rfl ?_
    exact hk532 x532_0 x532_1 x532_5 x532_7 x532_8 x532_9 x532_10 v75 σ74 _ _ (hm532 _ _ _ _ (by omega) (by omega) hP532)

set_option maxRecDepth 100000 in
set_option maxHeartbeats 4000000 in
theorem u_L_isWorked_532 {C : Cxt} {G : Glb} (hC : CX C G RL cL_isWorked 13 (some .boolean) 5 1 6 108) : ∀ (n : Nat) (x532_0 : (Option Nat)) (x532_1 : Int32) (x532_5 : Int32) (x532_7 : Int32) (x532_8 : Int32) (x532_9 : Int32) (x532_10 : (Option Nat)) (x532_11 : Int32) (σ : Mem) (kc ks : Nat), (∀ m, n = m + 1 → (kc + m * 0 + 0 ≤ 1 ∧ ks + m * 0 + 0 ≤ 6)) → Wo C G 13 (QP C G rvI 1 6) (l_L_isWorked_532  n x532_0 x532_1 x532_5 x532_7 x532_8 x532_9 x532_10 x532_11 σ) σ kc ks 532 [(0, va_rf x532_0), (1, .int x532_1), (5, .int x532_5), (7, .int x532_7), (8, .int x532_8), (9, .int x532_9), (10, va_rf x532_10), (11, .int x532_11)] [] := by
  intro n
  induction n with
  | zero => intro x532_0 x532_1 x532_5 x532_7 x532_8 x532_9 x532_10 x532_11 σ kc ks h0; exact Wo.none
  | succ n ih =>
    intro x532_0 x532_1 x532_5 x532_7 x532_8 x532_9 x532_10 x532_11 σ kc ks h0
    exact t_L_isWorked_532 hC (fun kc ks => (∀ m, n = m + 1 → (kc + m * 0 + 0 ≤ 1 ∧ ks + m * 0 + 0 ≤ 6))) (fun a b a2 b2 h1 h2 h m e => ⟨by have := (h m e).1; omega, by have := (h m e).2; omega⟩) (l_L_isWorked_532  n) ih x532_0 x532_1 x532_5 x532_7 x532_8 x532_9 x532_10 x532_11 σ kc ks ⟨by have := (h0 n rfl).1; omega, by have := (h0 n rfl).2; omega⟩ (fun m e => by
      subst e
      exact ⟨by have := (h0 _ rfl).1; omega, by have := (h0 _ rfl).2; omega⟩)

set_option maxRecDepth 100000 in
set_option maxHeartbeats 4000000 in
theorem t_L_isWorked_442 {C : Cxt} {G : Glb} (hC : CX C G RL cL_isWorked 13 (some .boolean) 5 1 6 108) (x442_0 : (Option Nat)) (x442_1 : Int32) (x442_3 : Int32) (x442_4 : Int32) (x442_5 : Int32) (σ : Mem) (kc ks : Nat) (hN : kc + 1 ≤ 1 ∧ ks + 6 ≤ 6) : Wo C G 13 (QP C G rvI 1 6) (b_L_isWorked_442  x442_0 x442_1 x442_3 x442_4 x442_5 σ) σ kc ks 442 [(0, va_rf x442_0), (1, .int x442_1), (3, .int x442_3), (4, .int x442_4), (5, .int x442_5)] [] := by
  unfold b_L_isWorked_442
  refine r_iload hC 3 rfl dL_isWorked_442 ?_
  refine r_aloadn hC 0 (r := x442_0) rfl rfl dL_isWorked_444 ?_
  refine r_iconst hC (2) rfl dL_isWorked_445 ?_
  refine call_V hC (av := [.int 2]) (st := [.int x442_4]) (r := x442_0) (ci := 4) rfl rfl (fun h9 => ct_X4_many hC.hl G h9 2 σ) q_394 q_395 q_396 q_13 q_397 yd_X4_many rfl ⟨Nat.le_of_ble_eq_true rfl, Nat.le_of_ble_eq_true rfl⟩ ⟨by omega, by omega⟩ rfl (by simp [cat_rf, cat_i, cat_j, cat_d, cat_a]) dL_isWorked_446 (fun v10 σ11 => ?_)
  show Wo _ _ _ _ _ _ _ _ _ _ [.int v10, .int x442_4]
  refine call_S hC (av := [.int x442_4, .int v10]) (st := []) (ct_L_below hC.hl G x442_4 v10 σ11) q_549 q_550 q_12 q_551 yd_L_below rfl ⟨Nat.le_of_ble_eq_true rfl, Nat.le_of_ble_eq_true rfl⟩ ⟨by omega, by omega⟩ rfl (Nat.le_of_ble_eq_true rfl) dL_isWorked_449 (fun v13 σ14 => ?_)
  show Wo _ _ _ _ _ _ _ _ _ _ [.int v13]
  refine r_istore hC [(7, .int v13), (0, va_rf x442_0), (1, .int x442_1), (3, .int x442_3), (4, .int x442_4), (5, .int x442_5)] (i := 7) (by decide) rfl dL_isWorked_452 ?_
  refine r_iload hC 0 rfl dL_isWorked_454 ?_
  refine r_iloadn hC 2 rfl rfl dL_isWorked_456 ?_
  refine r_icmp_eq hC 492 dL_isWorked_457 (by decide) ?_ ?_
  · refine Wo.sub [] rfl ?_
    exact t_L_isWorked_492 hC  σ14 _ _ ⟨by omega, by omega⟩
  · refine r_aloadn hC 1 (r := x442_0) rfl rfl dL_isWorked_460 ?_
    refine r_iload hC 0 rfl dL_isWorked_461 ?_
    refine r_iconst hC (0) rfl dL_isWorked_463 ?_
    refine call_V hC (av := [.int v13, .int 0]) (st := []) (r := x442_0) (ci := 4) rfl rfl (fun h9 => ct_X4_ofLot hC.hl G h9 v13 0 σ14) q_385 q_386 q_387 q_13 q_388 yd_X4_ofLot rfl ⟨Nat.le_of_ble_eq_true rfl, Nat.le_of_ble_eq_true rfl⟩ ⟨by omega, by omega⟩ rfl (Nat.le_of_ble_eq_true rfl) dL_isWorked_464 (fun v15 σ16 => ?_)
    show Wo _ _ _ _ _ _ _ _ _ _ [.int v15]
    refine r_iconst hC (2) rfl dL_isWorked_467 ?_
    refine r_icmp_ne hC 492 dL_isWorked_468 (by decide) ?_ ?_
    · refine Wo.sub [] rfl ?_
      exact t_L_isWorked_492 hC  σ16 _ _ ⟨by omega, by omega⟩
    · refine r_aloadn hC 1 (r := x442_0) rfl rfl dL_isWorked_471 ?_
      refine r_iload hC 0 rfl dL_isWorked_472 ?_
      refine r_bipush hC (13) (by decide) dL_isWorked_474 ?_
      refine call_V hC (av := [.int v13, .int 13]) (st := []) (r := x442_0) (ci := 4) rfl rfl (fun h9 => ct_X4_ofLot hC.hl G h9 v13 13 σ16) q_385 q_386 q_387 q_13 q_388 yd_X4_ofLot rfl ⟨Nat.le_of_ble_eq_true rfl, Nat.le_of_ble_eq_true rfl⟩ ⟨by omega, by omega⟩ rfl (Nat.le_of_ble_eq_true rfl) dL_isWorked_476 (fun v18 σ19 => ?_)
      show Wo _ _ _ _ _ _ _ _ _ _ [.int v18]
      refine r_if_gt hC 492 dL_isWorked_479 (by decide) ?_ ?_
      · refine Wo.sub [] rfl ?_
        exact t_L_isWorked_492 hC  σ19 _ _ ⟨by omega, by omega⟩
      · refine r_aloadn hC 1 (r := x442_0) rfl rfl dL_isWorked_482 ?_
        refine r_iconst hC (2) rfl dL_isWorked_483 ?_
        refine call_V hC (av := [.int 2]) (st := []) (r := x442_0) (ci := 4) rfl rfl (fun h9 => ct_X4_many hC.hl G h9 2 σ19) q_394 q_395 q_396 q_13 q_397 yd_X4_many rfl ⟨Nat.le_of_ble_eq_true rfl, Nat.le_of_ble_eq_true rfl⟩ ⟨by omega, by omega⟩ rfl (Nat.le_of_ble_eq_true rfl) dL_isWorked_484 (fun v21 σ22 => ?_)
        show Wo _ _ _ _ _ _ _ _ _ _ [.int v21]
        refine r_bipush hC (16) (by decide) dL_isWorked_487 ?_
        refine r_icmp_ne hC 494 dL_isWorked_489 (by decide) ?_ ?_
        · refine r_iconst hC (1) rfl dL_isWorked_494 ?_
          refine r_iloadn hC 3 rfl rfl dL_isWorked_495 ?_
          refine r_iconst hC (2) rfl dL_isWorked_496 ?_
          refine r_ishr hC dL_isWorked_497 (fun v24 => ?_)
          refine r_iload hC 5 rfl dL_isWorked_498 ?_
          refine call_S hC (av := [.int v24, .int x442_5]) (st := [.int 1]) (ct_L_below hC.hl G v24 x442_5 σ22) q_549 q_550 q_12 q_551 yd_L_below rfl ⟨Nat.le_of_ble_eq_true rfl, Nat.le_of_ble_eq_true rfl⟩ ⟨by omega, by omega⟩ rfl (by simp [cat_rf, cat_i, cat_j, cat_d, cat_a]) dL_isWorked_500 (fun v25 σ26 => ?_)
          show Wo _ _ _ _ _ _ _ _ _ _ [.int v25, .int 1]
          refine r_iadd hC dL_isWorked_503 (fun v27 => ?_)
          refine r_istore hC [(8, .int v27), (7, .int v13), (0, va_rf x442_0), (1, .int x442_1), (3, .int x442_3), (4, .int x442_4), (5, .int x442_5)] (i := 8) (by decide) rfl dL_isWorked_504 ?_
          refine r_iconst hC (1) rfl dL_isWorked_506 ?_
          refine r_iloadn hC 4 rfl rfl dL_isWorked_507 ?_
          refine r_iconst hC (5) rfl dL_isWorked_508 ?_
          refine r_ishr hC dL_isWorked_509 (fun v28 => ?_)
          refine r_aloadn hC 2 (r := x442_0) rfl rfl dL_isWorked_510 ?_
          refine r_iload hC 1 rfl dL_isWorked_511 ?_
          refine r_iconst hC (1) rfl dL_isWorked_513 ?_
          refine call_V hC (av := [.int v13, .int 1]) (st := [.int v28, .int 1]) (r := x442_0) (ci := 4) rfl rfl (fun h9 => ct_X4_ofLot hC.hl G h9 v13 1 σ26) q_385 q_386 q_387 q_13 q_388 yd_X4_ofLot rfl ⟨Nat.le_of_ble_eq_true rfl, Nat.le_of_ble_eq_true rfl⟩ ⟨by omega, by omega⟩ rfl (by simp [cat_rf, cat_i, cat_j, cat_d, cat_a]) dL_isWorked_514 (fun v29 σ30 => ?_)
          show Wo _ _ _ _ _ _ _ _ _ _ [.int v29, .int v28, .int 1]
          refine call_S hC (av := [.int v28, .int v29]) (st := [.int 1]) (ct_L_below hC.hl G v28 v29 σ30) q_549 q_550 q_12 q_551 yd_L_below rfl ⟨Nat.le_of_ble_eq_true rfl, Nat.le_of_ble_eq_true rfl⟩ ⟨by omega, by omega⟩ rfl (by simp [cat_rf, cat_i, cat_j, cat_d, cat_a]) dL_isWorked_517 (fun v32 σ33 => ?_)
          show Wo _ _ _ _ _ _ _ _ _ _ [.int v32, .int 1]
          refine r_iadd hC dL_isWorked_520 (fun v34 => ?_)
          refine r_istore hC [(9, .int v34), (8, .int v27), (7, .int v13), (0, va_rf x442_0), (1, .int x442_1), (3, .int x442_3), (4, .int x442_4), (5, .int x442_5)] (i := 9) (by decide) rfl dL_isWorked_521 ?_
          refine r_bipush hC (6) (by decide) dL_isWorked_523 ?_
          refine r_nA hC (t := 0) (b := 6) (ty := .int) rfl rfl rfl (fun _ h => va_nm_int h) q_63 (Nat.le_of_ble_eq_true rfl) ⟨by omega, by omega⟩ dL_isWorked_525 (fun σ35 r36 => ?_)
          refine r_astore hC [(10, va_rf r36), (9, .int v34), (8, .int v27), (7, .int v13), (0, va_rf x442_0), (1, .int x442_1), (3, .int x442_3), (4, .int x442_4), (5, .int x442_5)] (r := r36) (i := 10) (by decide) rfl dL_isWorked_527 ?_
          refine r_iconst hC (0) rfl dL_isWorked_529 ?_
          refine r_istore hC [(11, .int 0), (10, va_rf r36), (9, .int v34), (8, .int v27), (7, .int v13), (0, va_rf x442_0), (1, .int x442_1), (3, .int x442_3), (4, .int x442_4), (5, .int x442_5)] (i := 11) (by decide) (by simp [List.filter, cat_rf, cat_i, cat_j, cat_d, cat_a]) dL_isWorked_530 ?_
          refine Wo.sub [5, 6, 9, 4, 3, 2, 1, 0] rfl ?_
          exact u_L_isWorked_532 hC 40 x442_0 x442_1 x442_5 v13 v27 v34 r36 0 σ35 _ _ (fun m e => by cases e; exact ⟨by omega, by omega⟩)
        · refine Wo.sub [] rfl ?_
          exact t_L_isWorked_492 hC  σ22 _ _ ⟨by omega, by omega⟩

set_option maxRecDepth 100000 in
set_option maxHeartbeats 4000000 in
theorem t_L_isWorked_441 {C : Cxt} {G : Glb} (hC : CX C G RL cL_isWorked 13 (some .boolean) 5 1 6 108) (y441_0 : Int32) (σ : Mem) (kc ks : Nat) (hN : kc + 0 ≤ 1 ∧ ks + 0 ≤ 6) : Wo C G 13 (QP C G rvI 1 6) (b_L_isWorked_441  y441_0 σ) σ kc ks 441 [] [.int y441_0] := by
  unfold b_L_isWorked_441
  exact e_B hC ⟨by omega, by omega⟩ dL_isWorked_441

set_option maxRecDepth 100000 in
set_option maxHeartbeats 4000000 in
theorem t_L_isWorked_440 {C : Cxt} {G : Glb} (hC : CX C G RL cL_isWorked 13 (some .boolean) 5 1 6 108) (σ : Mem) (kc ks : Nat) (hN : kc + 0 ≤ 1 ∧ ks + 0 ≤ 6) : Wo C G 13 (QP C G rvI 1 6) (b_L_isWorked_440   σ) σ kc ks 440 [] [] := by
  unfold b_L_isWorked_440
  refine r_iconst hC (0) rfl dL_isWorked_440 ?_
  exact t_L_isWorked_441 hC 0 σ _ _ ⟨by omega, by omega⟩

set_option maxRecDepth 100000 in
set_option maxHeartbeats 4000000 in
theorem t_L_isWorked_330 {C : Cxt} {G : Glb} (hC : CX C G RL cL_isWorked 13 (some .boolean) 5 1 6 108) (σ : Mem) (kc ks : Nat) (hN : kc + 0 ≤ 1 ∧ ks + 0 ≤ 6) : Wo C G 13 (QP C G rvI 1 6) (b_L_isWorked_330   σ) σ kc ks 330 [] [] := by
  unfold b_L_isWorked_330
  refine r_iconst hC (0) rfl dL_isWorked_330 ?_
  exact e_B hC ⟨by omega, by omega⟩ dL_isWorked_331

set_option maxRecDepth 100000 in
set_option maxHeartbeats 4000000 in
theorem t_L_isWorked_362 {C : Cxt} {G : Glb} (hC : CX C G RL cL_isWorked 13 (some .boolean) 5 1 6 108) (y362_0 : Int32) (σ : Mem) (kc ks : Nat) (hN : kc + 0 ≤ 1 ∧ ks + 0 ≤ 6) : Wo C G 13 (QP C G rvI 1 6) (b_L_isWorked_362  y362_0 σ) σ kc ks 362 [] [.int y362_0] := by
  unfold b_L_isWorked_362
  exact e_B hC ⟨by omega, by omega⟩ dL_isWorked_362

set_option maxRecDepth 100000 in
set_option maxHeartbeats 4000000 in
theorem t_L_isWorked_296 {C : Cxt} {G : Glb} (hC : CX C G RL cL_isWorked 13 (some .boolean) 5 1 6 108) (y296_0 : Int32) (σ : Mem) (kc ks : Nat) (hN : kc + 0 ≤ 1 ∧ ks + 0 ≤ 6) : Wo C G 13 (QP C G rvI 1 6) (b_L_isWorked_296  y296_0 σ) σ kc ks 296 [] [.int y296_0] := by
  unfold b_L_isWorked_296
  exact e_B hC ⟨by omega, by omega⟩ dL_isWorked_296

set_option maxRecDepth 100000 in
set_option maxHeartbeats 4000000 in
theorem t_L_isWorked_268 {C : Cxt} {G : Glb} (hC : CX C G RL cL_isWorked 13 (some .boolean) 5 1 6 108) (x268_0 : (Option Nat)) (x268_1 : Int32) (x268_5 : Int32) (σ : Mem) (kc ks : Nat) (hN : kc + 0 ≤ 1 ∧ ks + 0 ≤ 6) : Wo C G 13 (QP C G rvI 1 6) (b_L_isWorked_268  x268_0 x268_1 x268_5 σ) σ kc ks 268 [(0, va_rf x268_0), (1, .int x268_1), (5, .int x268_5)] [] := by
  unfold b_L_isWorked_268
  refine r_aloadn hC 0 (r := x268_0) rfl rfl dL_isWorked_268 ?_
  refine r_iloadn hC 1 rfl rfl dL_isWorked_269 ?_
  refine call_V hC (av := [.int x268_1]) (st := []) (r := x268_0) (ci := 4) rfl rfl (fun h9 => ct_X4_bestFire hC.hl G h9 x268_1 σ) q_627 q_499 q_500 q_13 q_501 yd_X4_bestFire rfl ⟨Nat.le_of_ble_eq_true rfl, Nat.le_of_ble_eq_true rfl⟩ ⟨by omega, by omega⟩ rfl (Nat.le_of_ble_eq_true rfl) dL_isWorked_270 (fun v93 σ94 => ?_)
  show Wo _ _ _ _ _ _ _ _ _ _ [.int v93]
  refine r_istore hC [(7, .int v93), (0, va_rf x268_0), (1, .int x268_1), (5, .int x268_5)] (i := 7) (by decide) rfl dL_isWorked_273 ?_
  refine r_iload hC 0 rfl dL_isWorked_275 ?_
  refine r_if_ge hC 297 dL_isWorked_277 (by decide) ?_ ?_
  · refine r_aloadn hC 1 (r := x268_0) rfl rfl dL_isWorked_297 ?_
    refine r_iloadn hC 2 rfl rfl dL_isWorked_298 ?_
    refine r_iload hC 0 rfl dL_isWorked_299 ?_
    refine r_bipush hC (100) (by decide) dL_isWorked_301 ?_
    refine r_idiv hC dL_isWorked_303 (fun v96 => ?_)
    refine r_iload hC 0 rfl dL_isWorked_304 ?_
    refine r_bipush hC (100) (by decide) dL_isWorked_306 ?_
    refine r_irem hC dL_isWorked_308 (fun v97 => ?_)
    refine call_V hC (av := [.int x268_1, .int v96, .int v97]) (st := []) (r := x268_0) (ci := 4) rfl rfl (fun h9 => ct_X4_fire hC.hl G h9 x268_1 v96 v97 σ94) q_628 q_629 q_630 q_13 q_631 yd_X4_fire rfl ⟨Nat.le_of_ble_eq_true rfl, Nat.le_of_ble_eq_true rfl⟩ ⟨by omega, by omega⟩ rfl (Nat.le_of_ble_eq_true rfl) dL_isWorked_309 (fun v98 σ99 => ?_)
    show Wo _ _ _ _ _ _ _ _ _ _ [.int v98]
    refine r_bipush hC (20) (by decide) dL_isWorked_312 ?_
    refine r_imul hC dL_isWorked_314 (fun v101 => ?_)
    refine r_iload hC 3 rfl dL_isWorked_315 ?_
    refine r_icmp_gt hC 330 dL_isWorked_317 (by decide) ?_ ?_
    · refine Wo.sub [] rfl ?_
      exact t_L_isWorked_330 hC  σ99 _ _ ⟨by omega, by omega⟩
    · refine r_aloadn hC 1 (r := x268_0) rfl rfl dL_isWorked_320 ?_
      refine r_iloadn hC 2 rfl rfl dL_isWorked_321 ?_
      refine r_iconst hC (0) rfl dL_isWorked_322 ?_
      refine call_V hC (av := [.int x268_1, .int 0]) (st := []) (r := x268_0) (ci := 4) rfl rfl (fun h9 => ct_X4_ofLot hC.hl G h9 x268_1 0 σ99) q_385 q_386 q_387 q_13 q_388 yd_X4_ofLot rfl ⟨Nat.le_of_ble_eq_true rfl, Nat.le_of_ble_eq_true rfl⟩ ⟨by omega, by omega⟩ rfl (Nat.le_of_ble_eq_true rfl) dL_isWorked_323 (fun v102 σ103 => ?_)
      show Wo _ _ _ _ _ _ _ _ _ _ [.int v102]
      refine r_iconst hC (2) rfl dL_isWorked_326 ?_
      refine r_icmp_eq hC 332 dL_isWorked_327 (by decide) ?_ ?_
      · refine r_aloadn hC 1 (r := x268_0) rfl rfl dL_isWorked_332 ?_
        refine r_iloadn hC 2 rfl rfl dL_isWorked_333 ?_
        refine r_iconst hC (0) rfl dL_isWorked_334 ?_
        refine call_V hC (av := [.int x268_1, .int 0]) (st := []) (r := x268_0) (ci := 4) rfl rfl (fun h9 => ct_X4_note hC.hl G h9 x268_1 0 σ103) q_605 q_480 q_481 q_13 q_482 yd_X4_note rfl ⟨Nat.le_of_ble_eq_true rfl, Nat.le_of_ble_eq_true rfl⟩ ⟨by omega, by omega⟩ rfl (Nat.le_of_ble_eq_true rfl) dL_isWorked_335 (fun v105 σ106 => ?_)
        show Wo _ _ _ _ _ _ _ _ _ _ [.int v105]
        refine r_aloadn hC 1 (r := x268_0) rfl rfl dL_isWorked_338 ?_
        refine r_iloadn hC 2 rfl rfl dL_isWorked_339 ?_
        refine r_iconst hC (1) rfl dL_isWorked_340 ?_
        refine call_V hC (av := [.int x268_1, .int 1]) (st := [.int v105]) (r := x268_0) (ci := 4) rfl rfl (fun h9 => ct_X4_note hC.hl G h9 x268_1 1 σ106) q_605 q_480 q_481 q_13 q_482 yd_X4_note rfl ⟨Nat.le_of_ble_eq_true rfl, Nat.le_of_ble_eq_true rfl⟩ ⟨by omega, by omega⟩ rfl (by simp [cat_rf, cat_i, cat_j, cat_d, cat_a]) dL_isWorked_341 (fun v108 σ109 => ?_)
        show Wo _ _ _ _ _ _ _ _ _ _ [.int v108, .int v105]
        refine r_iadd hC dL_isWorked_344 (fun v111 => ?_)
        refine r_aloadn hC 1 (r := x268_0) rfl rfl dL_isWorked_345 ?_
        refine r_iloadn hC 2 rfl rfl dL_isWorked_346 ?_
        refine r_iconst hC (2) rfl dL_isWorked_347 ?_
        refine call_V hC (av := [.int x268_1, .int 2]) (st := [.int v111]) (r := x268_0) (ci := 4) rfl rfl (fun h9 => ct_X4_note hC.hl G h9 x268_1 2 σ109) q_605 q_480 q_481 q_13 q_482 yd_X4_note rfl ⟨Nat.le_of_ble_eq_true rfl, Nat.le_of_ble_eq_true rfl⟩ ⟨by omega, by omega⟩ rfl (by simp [cat_rf, cat_i, cat_j, cat_d, cat_a]) dL_isWorked_348 (fun v112 σ113 => ?_)
        show Wo _ _ _ _ _ _ _ _ _ _ [.int v112, .int v111]
        refine r_iadd hC dL_isWorked_351 (fun v115 => ?_)
        refine r_bipush hC (27) (by decide) dL_isWorked_352 ?_
        refine r_icmp_gt hC 361 dL_isWorked_354 (by decide) ?_ ?_
        · refine r_iconst hC (0) rfl dL_isWorked_361 ?_
          refine Wo.sub [] rfl ?_
          exact t_L_isWorked_362 hC 0 σ113 _ _ ⟨by omega, by omega⟩
        · refine r_iconst hC (1) rfl dL_isWorked_357 ?_
          refine r_goto hC 362 dL_isWorked_358 (by decide) ?_
          refine Wo.sub [] rfl ?_
          exact t_L_isWorked_362 hC 1 σ113 _ _ ⟨by omega, by omega⟩
      · refine Wo.sub [] rfl ?_
        exact t_L_isWorked_330 hC  σ103 _ _ ⟨by omega, by omega⟩
  · refine r_aloadn hC 1 (r := x268_0) rfl rfl dL_isWorked_280 ?_
    refine r_iloadn hC 2 rfl rfl dL_isWorked_281 ?_
    refine r_iconst hC (5) rfl dL_isWorked_282 ?_
    refine r_bipush hC (30) (by decide) dL_isWorked_283 ?_
    refine call_V hC (av := [.int x268_1, .int 5, .int 30]) (st := []) (r := x268_0) (ci := 4) rfl rfl (fun h9 => ct_X4_fire hC.hl G h9 x268_1 5 30 σ94) q_628 q_629 q_630 q_13 q_631 yd_X4_fire rfl ⟨Nat.le_of_ble_eq_true rfl, Nat.le_of_ble_eq_true rfl⟩ ⟨by omega, by omega⟩ rfl (Nat.le_of_ble_eq_true rfl) dL_isWorked_285 (fun v116 σ117 => ?_)
    show Wo _ _ _ _ _ _ _ _ _ _ [.int v116]
    refine r_if_lt hC 295 dL_isWorked_288 (by decide) ?_ ?_
    · refine r_iconst hC (0) rfl dL_isWorked_295 ?_
      refine Wo.sub [] rfl ?_
      exact t_L_isWorked_296 hC 0 σ117 _ _ ⟨by omega, by omega⟩
    · refine r_iconst hC (1) rfl dL_isWorked_291 ?_
      refine r_goto hC 296 dL_isWorked_292 (by decide) ?_
      refine Wo.sub [] rfl ?_
      exact t_L_isWorked_296 hC 1 σ117 _ _ ⟨by omega, by omega⟩

set_option maxRecDepth 100000 in
set_option maxHeartbeats 4000000 in
theorem t_L_isWorked_267 {C : Cxt} {G : Glb} (hC : CX C G RL cL_isWorked 13 (some .boolean) 5 1 6 108) (y267_0 : Int32) (σ : Mem) (kc ks : Nat) (hN : kc + 0 ≤ 1 ∧ ks + 0 ≤ 6) : Wo C G 13 (QP C G rvI 1 6) (b_L_isWorked_267  y267_0 σ) σ kc ks 267 [] [.int y267_0] := by
  unfold b_L_isWorked_267
  exact e_B hC ⟨by omega, by omega⟩ dL_isWorked_267

set_option maxRecDepth 100000 in
set_option maxHeartbeats 4000000 in
theorem t_L_isWorked_210 {C : Cxt} {G : Glb} (hC : CX C G RL cL_isWorked 13 (some .boolean) 5 1 6 108) (x210_0 : (Option Nat)) (x210_1 : Int32) (x210_2 : Int32) (x210_3 : Int32) (x210_4 : Int32) (x210_5 : Int32) (σ : Mem) (kc ks : Nat) (hN : kc + 1 ≤ 1 ∧ ks + 6 ≤ 6) : Wo C G 13 (QP C G rvI 1 6) (b_L_isWorked_210  x210_0 x210_1 x210_2 x210_3 x210_4 x210_5 σ) σ kc ks 210 [(0, va_rf x210_0), (1, .int x210_1), (2, .int x210_2), (3, .int x210_3), (4, .int x210_4), (5, .int x210_5)] [] := by
  unfold b_L_isWorked_210
  refine r_iloadn hC 2 rfl rfl dL_isWorked_210 ?_
  refine r_iconst hC (1) rfl dL_isWorked_211 ?_
  refine r_icmp_ne hC 363 dL_isWorked_212 (by decide) ?_ ?_
  · refine r_iloadn hC 2 rfl rfl dL_isWorked_363 ?_
    refine r_iconst hC (2) rfl dL_isWorked_364 ?_
    refine r_icmp_ne hC 378 dL_isWorked_365 (by decide) ?_ ?_
    · refine Wo.sub [] rfl ?_
      exact t_L_isWorked_378 hC  σ _ _ ⟨by omega, by omega⟩
    · refine r_aloadn hC 0 (r := x210_0) rfl rfl dL_isWorked_368 ?_
      refine r_iloadn hC 1 rfl rfl dL_isWorked_369 ?_
      refine r_bipush hC (13) (by decide) dL_isWorked_370 ?_
      refine call_V hC (av := [.int x210_1, .int 13]) (st := []) (r := x210_0) (ci := 4) rfl rfl (fun h9 => ct_X4_ofLot hC.hl G h9 x210_1 13 σ) q_385 q_386 q_387 q_13 q_388 yd_X4_ofLot rfl ⟨Nat.le_of_ble_eq_true rfl, Nat.le_of_ble_eq_true rfl⟩ ⟨by omega, by omega⟩ rfl (Nat.le_of_ble_eq_true rfl) dL_isWorked_372 (fun v4 σ5 => ?_)
      show Wo _ _ _ _ _ _ _ _ _ _ [.int v4]
      refine r_if_le hC 380 dL_isWorked_375 (by decide) ?_ ?_
      · refine r_aloadn hC 0 (r := x210_0) rfl rfl dL_isWorked_380 ?_
        refine r_iloadn hC 1 rfl rfl dL_isWorked_381 ?_
        refine r_bipush hC (9) (by decide) dL_isWorked_382 ?_
        refine call_V hC (av := [.int x210_1, .int 9]) (st := []) (r := x210_0) (ci := 4) rfl rfl (fun h9 => ct_X4_ofLot hC.hl G h9 x210_1 9 σ5) q_385 q_386 q_387 q_13 q_388 yd_X4_ofLot rfl ⟨Nat.le_of_ble_eq_true rfl, Nat.le_of_ble_eq_true rfl⟩ ⟨by omega, by omega⟩ rfl (Nat.le_of_ble_eq_true rfl) dL_isWorked_384 (fun v7 σ8 => ?_)
        show Wo _ _ _ _ _ _ _ _ _ _ [.int v7]
        refine r_if_ge hC 442 dL_isWorked_387 (by decide) ?_ ?_
        · refine Wo.sub [0, 1, 3, 4, 5] rfl ?_
          exact t_L_isWorked_442 hC x210_0 x210_1 x210_3 x210_4 x210_5 σ8 _ _ ⟨by omega, by omega⟩
        · refine r_aloadn hC 0 (r := x210_0) rfl rfl dL_isWorked_390 ?_
          refine r_iloadn hC 1 rfl rfl dL_isWorked_391 ?_
          refine r_bipush hC (12) (by decide) dL_isWorked_392 ?_
          refine call_V hC (av := [.int x210_1, .int 12]) (st := []) (r := x210_0) (ci := 4) rfl rfl (fun h9 => ct_X4_ofLot hC.hl G h9 x210_1 12 σ8) q_385 q_386 q_387 q_13 q_388 yd_X4_ofLot rfl ⟨Nat.le_of_ble_eq_true rfl, Nat.le_of_ble_eq_true rfl⟩ ⟨by omega, by omega⟩ rfl (Nat.le_of_ble_eq_true rfl) dL_isWorked_394 (fun v76 σ77 => ?_)
          show Wo _ _ _ _ _ _ _ _ _ _ [.int v76]
          refine r_if_ne hC 442 dL_isWorked_397 (by decide) ?_ ?_
          · refine Wo.sub [0, 1, 3, 4, 5] rfl ?_
            exact t_L_isWorked_442 hC x210_0 x210_1 x210_3 x210_4 x210_5 σ77 _ _ ⟨by omega, by omega⟩
          · refine r_aloadn hC 0 (r := x210_0) rfl rfl dL_isWorked_400 ?_
            refine r_iconst hC (2) rfl dL_isWorked_401 ?_
            refine call_V hC (av := [.int 2]) (st := []) (r := x210_0) (ci := 4) rfl rfl (fun h9 => ct_X4_many hC.hl G h9 2 σ77) q_394 q_395 q_396 q_13 q_397 yd_X4_many rfl ⟨Nat.le_of_ble_eq_true rfl, Nat.le_of_ble_eq_true rfl⟩ ⟨by omega, by omega⟩ rfl (Nat.le_of_ble_eq_true rfl) dL_isWorked_402 (fun v79 σ80 => ?_)
            show Wo _ _ _ _ _ _ _ _ _ _ [.int v79]
            refine r_bipush hC (14) (by decide) dL_isWorked_405 ?_
            refine r_icmp_ge hC 442 dL_isWorked_407 (by decide) ?_ ?_
            · refine Wo.sub [0, 1, 3, 4, 5] rfl ?_
              exact t_L_isWorked_442 hC x210_0 x210_1 x210_3 x210_4 x210_5 σ80 _ _ ⟨by omega, by omega⟩
            · refine r_iloadn hC 3 rfl rfl dL_isWorked_410 ?_
              refine r_iconst hC (2) rfl dL_isWorked_411 ?_
              refine call_S hC (av := [.int x210_3, .int 2]) (st := []) (ct_L_below hC.hl G x210_3 2 σ80) q_549 q_550 q_12 q_551 yd_L_below rfl ⟨Nat.le_of_ble_eq_true rfl, Nat.le_of_ble_eq_true rfl⟩ ⟨by omega, by omega⟩ rfl (Nat.le_of_ble_eq_true rfl) dL_isWorked_412 (fun v82 σ83 => ?_)
              show Wo _ _ _ _ _ _ _ _ _ _ [.int v82]
              refine r_if_ne hC 442 dL_isWorked_415 (by decide) ?_ ?_
              · refine Wo.sub [0, 1, 3, 4, 5] rfl ?_
                exact t_L_isWorked_442 hC x210_0 x210_1 x210_3 x210_4 x210_5 σ83 _ _ ⟨by omega, by omega⟩
              · refine r_aloadn hC 0 (r := x210_0) rfl rfl dL_isWorked_418 ?_
                refine r_iloadn hC 1 rfl rfl dL_isWorked_419 ?_
                refine call_V hC (av := [.int x210_1]) (st := []) (r := x210_0) (ci := 4) rfl rfl (fun h9 => ct_X4_sort hC.hl G h9 x210_1 σ83) q_632 q_633 q_634 q_13 q_635 yd_X4_sort rfl ⟨Nat.le_of_ble_eq_true rfl, Nat.le_of_ble_eq_true rfl⟩ ⟨by omega, by omega⟩ rfl (Nat.le_of_ble_eq_true rfl) dL_isWorked_420 (fun v84 σ85 => ?_)
                show Wo _ _ _ _ _ _ _ _ _ _ [.int v84]
                refine r_if_le hC 440 dL_isWorked_423 (by decide) ?_ ?_
                · refine Wo.sub [] rfl ?_
                  exact t_L_isWorked_440 hC  σ85 _ _ ⟨by omega, by omega⟩
                · refine r_aloadn hC 0 (r := x210_0) rfl rfl dL_isWorked_426 ?_
                  refine r_iloadn hC 1 rfl rfl dL_isWorked_427 ?_
                  refine r_iconst hC (0) rfl dL_isWorked_428 ?_
                  refine call_V hC (av := [.int x210_1, .int 0]) (st := []) (r := x210_0) (ci := 4) rfl rfl (fun h9 => ct_X4_ofLot hC.hl G h9 x210_1 0 σ85) q_385 q_386 q_387 q_13 q_388 yd_X4_ofLot rfl ⟨Nat.le_of_ble_eq_true rfl, Nat.le_of_ble_eq_true rfl⟩ ⟨by omega, by omega⟩ rfl (Nat.le_of_ble_eq_true rfl) dL_isWorked_429 (fun v87 σ88 => ?_)
                  show Wo _ _ _ _ _ _ _ _ _ _ [.int v87]
                  refine r_iconst hC (3) rfl dL_isWorked_432 ?_
                  refine r_icmp_ne hC 440 dL_isWorked_433 (by decide) ?_ ?_
                  · refine Wo.sub [] rfl ?_
                    exact t_L_isWorked_440 hC  σ88 _ _ ⟨by omega, by omega⟩
                  · refine r_iconst hC (1) rfl dL_isWorked_436 ?_
                    refine r_goto hC 441 dL_isWorked_437 (by decide) ?_
                    refine Wo.sub [] rfl ?_
                    exact t_L_isWorked_441 hC 1 σ88 _ _ ⟨by omega, by omega⟩
      · refine Wo.sub [] rfl ?_
        exact t_L_isWorked_378 hC  σ5 _ _ ⟨by omega, by omega⟩
  · refine r_aloadn hC 0 (r := x210_0) rfl rfl dL_isWorked_215 ?_
    refine r_iloadn hC 1 rfl rfl dL_isWorked_216 ?_
    refine r_bipush hC (10) (by decide) dL_isWorked_217 ?_
    refine call_V hC (av := [.int x210_1, .int 10]) (st := []) (r := x210_0) (ci := 4) rfl rfl (fun h9 => ct_X4_ofLot hC.hl G h9 x210_1 10 σ) q_385 q_386 q_387 q_13 q_388 yd_X4_ofLot rfl ⟨Nat.le_of_ble_eq_true rfl, Nat.le_of_ble_eq_true rfl⟩ ⟨by omega, by omega⟩ rfl (Nat.le_of_ble_eq_true rfl) dL_isWorked_219 (fun v90 σ91 => ?_)
    show Wo _ _ _ _ _ _ _ _ _ _ [.int v90]
    refine r_if_ne hC 268 dL_isWorked_222 (by decide) ?_ ?_
    · refine Wo.sub [0, 1, 5] rfl ?_
      exact t_L_isWorked_268 hC x210_0 x210_1 x210_5 σ91 _ _ ⟨by omega, by omega⟩
    · refine r_iloadn hC 3 rfl rfl dL_isWorked_225 ?_
      refine r_iconst hC (3) rfl dL_isWorked_226 ?_
      refine call_S hC (av := [.int x210_3, .int 3]) (st := []) (ct_L_below hC.hl G x210_3 3 σ91) q_549 q_550 q_12 q_551 yd_L_below rfl ⟨Nat.le_of_ble_eq_true rfl, Nat.le_of_ble_eq_true rfl⟩ ⟨by omega, by omega⟩ rfl (Nat.le_of_ble_eq_true rfl) dL_isWorked_227 (fun v119 σ120 => ?_)
      show Wo _ _ _ _ _ _ _ _ _ _ [.int v119]
      refine r_iconst hC (1) rfl dL_isWorked_230 ?_
      refine r_icmp_ne hC 268 dL_isWorked_231 (by decide) ?_ ?_
      · refine Wo.sub [0, 1, 5] rfl ?_
        exact t_L_isWorked_268 hC x210_0 x210_1 x210_5 σ120 _ _ ⟨by omega, by omega⟩
      · refine r_aloadn hC 0 (r := x210_0) rfl rfl dL_isWorked_234 ?_
        refine r_iloadn hC 1 rfl rfl dL_isWorked_235 ?_
        refine r_iconst hC (1) rfl dL_isWorked_236 ?_
        refine r_iload hC 4 rfl dL_isWorked_237 ?_
        refine r_bipush hC (9) (by decide) dL_isWorked_239 ?_
        refine call_S hC (av := [.int x210_4, .int 9]) (st := [.int 1, .int x210_1, va_rf x210_0]) (ct_L_below hC.hl G x210_4 9 σ120) q_549 q_550 q_12 q_551 yd_L_below rfl ⟨Nat.le_of_ble_eq_true rfl, Nat.le_of_ble_eq_true rfl⟩ ⟨by omega, by omega⟩ rfl (by simp [cat_rf, cat_i, cat_j, cat_d, cat_a]) dL_isWorked_241 (fun v121 σ122 => ?_)
        show Wo _ _ _ _ _ _ _ _ _ _ [.int v121, .int 1, .int x210_1, va_rf x210_0]
        refine r_iadd hC dL_isWorked_244 (fun v123 => ?_)
        refine r_iconst hC (1) rfl dL_isWorked_245 ?_
        refine r_iloadn hC 3 rfl rfl dL_isWorked_246 ?_
        refine r_iconst hC (2) rfl dL_isWorked_247 ?_
        refine r_ishr hC dL_isWorked_248 (fun v124 => ?_)
        refine r_iconst hC (4) rfl dL_isWorked_249 ?_
        refine call_S hC (av := [.int v124, .int 4]) (st := [.int 1, .int v123, .int x210_1, va_rf x210_0]) (ct_L_below hC.hl G v124 4 σ122) q_549 q_550 q_12 q_551 yd_L_below rfl ⟨Nat.le_of_ble_eq_true rfl, Nat.le_of_ble_eq_true rfl⟩ ⟨by omega, by omega⟩ rfl (by simp [cat_rf, cat_i, cat_j, cat_d, cat_a]) dL_isWorked_250 (fun v125 σ126 => ?_)
        show Wo _ _ _ _ _ _ _ _ _ _ [.int v125, .int 1, .int v123, .int x210_1, va_rf x210_0]
        refine r_iadd hC dL_isWorked_253 (fun v127 => ?_)
        refine call_V hC (av := [.int x210_1, .int v123, .int v127]) (st := []) (r := x210_0) (ci := 4) rfl rfl (fun h9 => ct_X4_rest hC.hl G h9 x210_1 v123 v127 σ126) q_623 q_624 q_625 q_13 q_626 yd_X4_rest rfl ⟨Nat.le_of_ble_eq_true rfl, Nat.le_of_ble_eq_true rfl⟩ ⟨by omega, by omega⟩ rfl (Nat.le_of_ble_eq_true rfl) dL_isWorked_254 (fun v128 σ129 => ?_)
        show Wo _ _ _ _ _ _ _ _ _ _ [.int v128]
        refine r_bipush hC (60) (by decide) dL_isWorked_257 ?_
        refine r_icmp_gt hC 266 dL_isWorked_259 (by decide) ?_ ?_
        · refine r_iconst hC (0) rfl dL_isWorked_266 ?_
          refine Wo.sub [] rfl ?_
          exact t_L_isWorked_267 hC 0 σ129 _ _ ⟨by omega, by omega⟩
        · refine r_iconst hC (1) rfl dL_isWorked_262 ?_
          refine r_goto hC 267 dL_isWorked_263 (by decide) ?_
          refine Wo.sub [] rfl ?_
          exact t_L_isWorked_267 hC 1 σ129 _ _ ⟨by omega, by omega⟩

set_option maxRecDepth 100000 in
set_option maxHeartbeats 4000000 in
theorem t_L_isWorked_209 {C : Cxt} {G : Glb} (hC : CX C G RL cL_isWorked 13 (some .boolean) 5 1 6 108) (y209_0 : Int32) (σ : Mem) (kc ks : Nat) (hN : kc + 0 ≤ 1 ∧ ks + 0 ≤ 6) : Wo C G 13 (QP C G rvI 1 6) (b_L_isWorked_209  y209_0 σ) σ kc ks 209 [] [.int y209_0] := by
  unfold b_L_isWorked_209
  exact e_B hC ⟨by omega, by omega⟩ dL_isWorked_209

set_option maxRecDepth 100000 in
set_option maxHeartbeats 4000000 in
theorem t_L_isWorked_208 {C : Cxt} {G : Glb} (hC : CX C G RL cL_isWorked 13 (some .boolean) 5 1 6 108) (σ : Mem) (kc ks : Nat) (hN : kc + 0 ≤ 1 ∧ ks + 0 ≤ 6) : Wo C G 13 (QP C G rvI 1 6) (b_L_isWorked_208   σ) σ kc ks 208 [] [] := by
  unfold b_L_isWorked_208
  refine r_iconst hC (0) rfl dL_isWorked_208 ?_
  exact t_L_isWorked_209 hC 0 σ _ _ ⟨by omega, by omega⟩

set_option maxRecDepth 100000 in
set_option maxHeartbeats 4000000 in
theorem t_L_isWorked_161 {C : Cxt} {G : Glb} (hC : CX C G RL cL_isWorked 13 (some .boolean) 5 1 6 108) (x161_0 : (Option Nat)) (x161_1 : Int32) (x161_4 : Int32) (σ : Mem) (kc ks : Nat) (hN : kc + 0 ≤ 1 ∧ ks + 0 ≤ 6) : Wo C G 13 (QP C G rvI 1 6) (b_L_isWorked_161  x161_0 x161_1 x161_4 σ) σ kc ks 161 [(0, va_rf x161_0), (1, .int x161_1), (4, .int x161_4)] [] := by
  unfold b_L_isWorked_161
  refine r_aloadn hC 0 (r := x161_0) rfl rfl dL_isWorked_161 ?_
  refine r_iloadn hC 1 rfl rfl dL_isWorked_162 ?_
  refine r_iconst hC (5) rfl dL_isWorked_163 ?_
  refine call_V hC (av := [.int x161_1, .int 5]) (st := []) (r := x161_0) (ci := 4) rfl rfl (fun h9 => ct_X4_ofLot hC.hl G h9 x161_1 5 σ) q_385 q_386 q_387 q_13 q_388 yd_X4_ofLot rfl ⟨Nat.le_of_ble_eq_true rfl, Nat.le_of_ble_eq_true rfl⟩ ⟨by omega, by omega⟩ rfl (Nat.le_of_ble_eq_true rfl) dL_isWorked_164 (fun v131 σ132 => ?_)
  show Wo _ _ _ _ _ _ _ _ _ _ [.int v131]
  refine r_istore hC [(7, .int v131), (0, va_rf x161_0), (1, .int x161_1), (4, .int x161_4)] (i := 7) (by decide) rfl dL_isWorked_167 ?_
  refine r_iconst hC (1) rfl dL_isWorked_169 ?_
  refine r_iload hC 3 rfl dL_isWorked_170 ?_
  refine r_iconst hC (5) rfl dL_isWorked_172 ?_
  refine call_S hC (av := [.int x161_4, .int 5]) (st := [.int 1]) (ct_L_below hC.hl G x161_4 5 σ132) q_549 q_550 q_12 q_551 yd_L_below rfl ⟨Nat.le_of_ble_eq_true rfl, Nat.le_of_ble_eq_true rfl⟩ ⟨by omega, by omega⟩ rfl (by simp [cat_rf, cat_i, cat_j, cat_d, cat_a]) dL_isWorked_173 (fun v134 σ135 => ?_)
  show Wo _ _ _ _ _ _ _ _ _ _ [.int v134, .int 1]
  refine r_iadd hC dL_isWorked_176 (fun v136 => ?_)
  refine r_istore hC [(8, .int v136), (7, .int v131), (0, va_rf x161_0), (1, .int x161_1), (4, .int x161_4)] (i := 8) (by decide) rfl dL_isWorked_177 ?_
  refine r_aloadn hC 2 (r := x161_0) rfl rfl dL_isWorked_179 ?_
  refine r_iloadn hC 3 rfl rfl dL_isWorked_180 ?_
  refine r_iload hC 0 rfl dL_isWorked_181 ?_
  refine call_V hC (av := [.int x161_1, .int v136]) (st := []) (r := x161_0) (ci := 4) rfl rfl (fun h9 => ct_X4_roll hC.hl G h9 x161_1 v136 σ135) q_619 q_620 q_621 q_13 q_622 yd_X4_roll rfl ⟨Nat.le_of_ble_eq_true rfl, Nat.le_of_ble_eq_true rfl⟩ ⟨by omega, by omega⟩ rfl (Nat.le_of_ble_eq_true rfl) dL_isWorked_183 (fun v137 σ138 => ?_)
  show Wo _ _ _ _ _ _ _ _ _ _ [.int v137]
  refine r_iload hC 1 rfl dL_isWorked_186 ?_
  refine r_iload hC 0 rfl dL_isWorked_188 ?_
  refine r_iadd hC dL_isWorked_190 (fun v140 => ?_)
  refine r_icmp_ne hC 208 dL_isWorked_191 (by decide) ?_ ?_
  · refine Wo.sub [] rfl ?_
    exact t_L_isWorked_208 hC  σ138 _ _ ⟨by omega, by omega⟩
  · refine r_aloadn hC 2 (r := x161_0) rfl rfl dL_isWorked_194 ?_
    refine r_iloadn hC 3 rfl rfl dL_isWorked_195 ?_
    refine r_iconst hC (0) rfl dL_isWorked_196 ?_
    refine call_V hC (av := [.int x161_1, .int 0]) (st := []) (r := x161_0) (ci := 4) rfl rfl (fun h9 => ct_X4_ofLot hC.hl G h9 x161_1 0 σ138) q_385 q_386 q_387 q_13 q_388 yd_X4_ofLot rfl ⟨Nat.le_of_ble_eq_true rfl, Nat.le_of_ble_eq_true rfl⟩ ⟨by omega, by omega⟩ rfl (Nat.le_of_ble_eq_true rfl) dL_isWorked_197 (fun v141 σ142 => ?_)
    show Wo _ _ _ _ _ _ _ _ _ _ [.int v141]
    refine r_iconst hC (1) rfl dL_isWorked_200 ?_
    refine r_icmp_ne hC 208 dL_isWorked_201 (by decide) ?_ ?_
    · refine Wo.sub [] rfl ?_
      exact t_L_isWorked_208 hC  σ142 _ _ ⟨by omega, by omega⟩
    · refine r_iconst hC (1) rfl dL_isWorked_204 ?_
      refine r_goto hC 209 dL_isWorked_205 (by decide) ?_
      refine Wo.sub [] rfl ?_
      exact t_L_isWorked_209 hC 1 σ142 _ _ ⟨by omega, by omega⟩

set_option maxRecDepth 100000 in
set_option maxHeartbeats 4000000 in
theorem t_L_isWorked_144 {C : Cxt} {G : Glb} (hC : CX C G RL cL_isWorked 13 (some .boolean) 5 1 6 108) (x144_0 : (Option Nat)) (x144_1 : Int32) (x144_2 : Int32) (x144_3 : Int32) (x144_4 : Int32) (x144_5 : Int32) (x144_6 : Int32) (σ : Mem) (kc ks : Nat) (hN : kc + 1 ≤ 1 ∧ ks + 6 ≤ 6) : Wo C G 13 (QP C G rvI 1 6) (b_L_isWorked_144  x144_0 x144_1 x144_2 x144_3 x144_4 x144_5 x144_6 σ) σ kc ks 144 [(0, va_rf x144_0), (1, .int x144_1), (2, .int x144_2), (3, .int x144_3), (4, .int x144_4), (5, .int x144_5), (6, .int x144_6)] [] := by
  unfold b_L_isWorked_144
  refine r_iload hC 6 rfl dL_isWorked_144 ?_
  refine r_if_eq hC 210 dL_isWorked_146 (by decide) ?_ ?_
  · refine Wo.sub [0, 1, 2, 3, 4, 5] rfl ?_
    exact t_L_isWorked_210 hC x144_0 x144_1 x144_2 x144_3 x144_4 x144_5 σ _ _ ⟨by omega, by omega⟩
  · refine r_iloadn hC 2 rfl rfl dL_isWorked_149 ?_
    refine r_if_eq hC 161 dL_isWorked_150 (by decide) ?_ ?_
    · refine Wo.sub [0, 1, 4] rfl ?_
      exact t_L_isWorked_161 hC x144_0 x144_1 x144_4 σ _ _ ⟨by omega, by omega⟩
    · refine r_iloadn hC 3 rfl rfl dL_isWorked_153 ?_
      refine r_iconst hC (3) rfl dL_isWorked_154 ?_
      refine call_S hC (av := [.int x144_3, .int 3]) (st := []) (ct_L_below hC.hl G x144_3 3 σ) q_549 q_550 q_12 q_551 yd_L_below rfl ⟨Nat.le_of_ble_eq_true rfl, Nat.le_of_ble_eq_true rfl⟩ ⟨by omega, by omega⟩ rfl (Nat.le_of_ble_eq_true rfl) dL_isWorked_155 (fun v144 σ145 => ?_)
      show Wo _ _ _ _ _ _ _ _ _ _ [.int v144]
      refine r_if_ne hC 210 dL_isWorked_158 (by decide) ?_ ?_
      · refine Wo.sub [0, 1, 2, 3, 4, 5] rfl ?_
        exact t_L_isWorked_210 hC x144_0 x144_1 x144_2 x144_3 x144_4 x144_5 σ145 _ _ ⟨by omega, by omega⟩
      · refine Wo.sub [0, 1, 4] rfl ?_
        exact t_L_isWorked_161 hC x144_0 x144_1 x144_4 σ145 _ _ ⟨by omega, by omega⟩

set_option maxRecDepth 100000 in
set_option maxHeartbeats 4000000 in
theorem t_L_isWorked_143 {C : Cxt} {G : Glb} (hC : CX C G RL cL_isWorked 13 (some .boolean) 5 1 6 108) (y143_0 : Int32) (σ : Mem) (kc ks : Nat) (hN : kc + 0 ≤ 1 ∧ ks + 0 ≤ 6) : Wo C G 13 (QP C G rvI 1 6) (b_L_isWorked_143  y143_0 σ) σ kc ks 143 [] [.int y143_0] := by
  unfold b_L_isWorked_143
  exact e_B hC ⟨by omega, by omega⟩ dL_isWorked_143

set_option maxRecDepth 100000 in
set_option maxHeartbeats 4000000 in
theorem t_L_isWorked_142 {C : Cxt} {G : Glb} (hC : CX C G RL cL_isWorked 13 (some .boolean) 5 1 6 108) (σ : Mem) (kc ks : Nat) (hN : kc + 0 ≤ 1 ∧ ks + 0 ≤ 6) : Wo C G 13 (QP C G rvI 1 6) (b_L_isWorked_142   σ) σ kc ks 142 [] [] := by
  unfold b_L_isWorked_142
  refine r_iconst hC (0) rfl dL_isWorked_142 ?_
  exact t_L_isWorked_143 hC 0 σ _ _ ⟨by omega, by omega⟩

set_option maxRecDepth 100000 in
set_option maxHeartbeats 4000000 in
theorem t_L_isWorked_99 {C : Cxt} {G : Glb} (hC : CX C G RL cL_isWorked 13 (some .boolean) 5 1 6 108) (y99_0 : Int32) (σ : Mem) (kc ks : Nat) (hN : kc + 0 ≤ 1 ∧ ks + 0 ≤ 6) : Wo C G 13 (QP C G rvI 1 6) (b_L_isWorked_99  y99_0 σ) σ kc ks 99 [] [.int y99_0] := by
  unfold b_L_isWorked_99
  exact e_B hC ⟨by omega, by omega⟩ dL_isWorked_99

set_option maxRecDepth 100000 in
set_option maxHeartbeats 4000000 in
theorem t_L_isWorked_98 {C : Cxt} {G : Glb} (hC : CX C G RL cL_isWorked 13 (some .boolean) 5 1 6 108) (σ : Mem) (kc ks : Nat) (hN : kc + 0 ≤ 1 ∧ ks + 0 ≤ 6) : Wo C G 13 (QP C G rvI 1 6) (b_L_isWorked_98   σ) σ kc ks 98 [] [] := by
  unfold b_L_isWorked_98
  refine r_iconst hC (0) rfl dL_isWorked_98 ?_
  exact t_L_isWorked_99 hC 0 σ _ _ ⟨by omega, by omega⟩

set_option maxRecDepth 100000 in
set_option maxHeartbeats 4000000 in
theorem t_L_isWorked_31 {C : Cxt} {G : Glb} (hC : CX C G RL cL_isWorked 13 (some .boolean) 5 1 6 108) (x31_0 : (Option Nat)) (x31_1 : Int32) (x31_2 : Int32) (x31_3 : Int32) (x31_4 : Int32) (x31_5 : Int32) (y31_0 : Int32) (σ : Mem) (kc ks : Nat) (hN : kc + 1 ≤ 1 ∧ ks + 6 ≤ 6) : Wo C G 13 (QP C G rvI 1 6) (b_L_isWorked_31  x31_0 x31_1 x31_2 x31_3 x31_4 x31_5 y31_0 σ) σ kc ks 31 [(0, va_rf x31_0), (1, .int x31_1), (2, .int x31_2), (3, .int x31_3), (4, .int x31_4), (5, .int x31_5)] [.int y31_0] := by
  unfold b_L_isWorked_31
  refine r_istore hC [(6, .int y31_0), (0, va_rf x31_0), (1, .int x31_1), (2, .int x31_2), (3, .int x31_3), (4, .int x31_4), (5, .int x31_5)] (i := 6) (by decide) rfl dL_isWorked_31 ?_
  refine r_iloadn hC 3 rfl rfl dL_isWorked_33 ?_
  refine r_if_ne hC 144 dL_isWorked_34 (by decide) ?_ ?_
  · refine Wo.sub [1, 2, 3, 4, 5, 6, 0] rfl ?_
    exact t_L_isWorked_144 hC x31_0 x31_1 x31_2 x31_3 x31_4 x31_5 y31_0 σ _ _ ⟨by omega, by omega⟩
  · refine r_aloadn hC 1 (r := x31_0) rfl rfl dL_isWorked_37 ?_
    refine r_iloadn hC 2 rfl rfl dL_isWorked_38 ?_
    refine r_bipush hC (10) (by decide) dL_isWorked_39 ?_
    refine call_V hC (av := [.int x31_1, .int 10]) (st := []) (r := x31_0) (ci := 4) rfl rfl (fun h9 => ct_X4_ofLot hC.hl G h9 x31_1 10 σ) q_385 q_386 q_387 q_13 q_388 yd_X4_ofLot rfl ⟨Nat.le_of_ble_eq_true rfl, Nat.le_of_ble_eq_true rfl⟩ ⟨by omega, by omega⟩ rfl (Nat.le_of_ble_eq_true rfl) dL_isWorked_41 (fun v146 σ147 => ?_)
    show Wo _ _ _ _ _ _ _ _ _ _ [.int v146]
    refine r_if_ne hC 144 dL_isWorked_44 (by decide) ?_ ?_
    · refine Wo.sub [1, 2, 3, 4, 5, 6, 0] rfl ?_
      exact t_L_isWorked_144 hC x31_0 x31_1 x31_2 x31_3 x31_4 x31_5 y31_0 σ147 _ _ ⟨by omega, by omega⟩
    · refine r_iload hC 0 rfl dL_isWorked_47 ?_
      refine r_if_ne hC 144 dL_isWorked_49 (by decide) ?_ ?_
      · refine Wo.sub [1, 2, 3, 4, 5, 6, 0] rfl ?_
        exact t_L_isWorked_144 hC x31_0 x31_1 x31_2 x31_3 x31_4 x31_5 y31_0 σ147 _ _ ⟨by omega, by omega⟩
      · refine r_aloadn hC 1 (r := x31_0) rfl rfl dL_isWorked_52 ?_
        refine r_iloadn hC 2 rfl rfl dL_isWorked_53 ?_
        refine r_iconst hC (3) rfl dL_isWorked_54 ?_
        refine call_V hC (av := [.int x31_1, .int 3]) (st := []) (r := x31_0) (ci := 4) rfl rfl (fun h9 => ct_X4_ofLot hC.hl G h9 x31_1 3 σ147) q_385 q_386 q_387 q_13 q_388 yd_X4_ofLot rfl ⟨Nat.le_of_ble_eq_true rfl, Nat.le_of_ble_eq_true rfl⟩ ⟨by omega, by omega⟩ rfl (Nat.le_of_ble_eq_true rfl) dL_isWorked_55 (fun v149 σ150 => ?_)
        show Wo _ _ _ _ _ _ _ _ _ _ [.int v149]
        refine r_istore hC [(7, .int v149), (6, .int y31_0), (0, va_rf x31_0), (1, .int x31_1), (2, .int x31_2), (3, .int x31_3), (4, .int x31_4), (5, .int x31_5)] (i := 7) (by decide) rfl dL_isWorked_58 ?_
        refine r_iloadn hC 5 rfl rfl dL_isWorked_60 ?_
        refine r_iconst hC (5) rfl dL_isWorked_61 ?_
        refine call_S hC (av := [.int x31_3, .int 5]) (st := []) (ct_L_below hC.hl G x31_3 5 σ150) q_549 q_550 q_12 q_551 yd_L_below rfl ⟨Nat.le_of_ble_eq_true rfl, Nat.le_of_ble_eq_true rfl⟩ ⟨by omega, by omega⟩ rfl (Nat.le_of_ble_eq_true rfl) dL_isWorked_62 (fun v152 σ153 => ?_)
        show Wo _ _ _ _ _ _ _ _ _ _ [.int v152]
        refine r_if_ne hC 100 dL_isWorked_65 (by decide) ?_ ?_
        · refine r_aloadn hC 2 (r := x31_0) rfl rfl dL_isWorked_100 ?_
          refine r_iloadn hC 3 rfl rfl dL_isWorked_101 ?_
          refine r_iconst hC (1) rfl dL_isWorked_102 ?_
          refine r_iload hC 6 rfl dL_isWorked_103 ?_
          refine r_iconst hC (4) rfl dL_isWorked_105 ?_
          refine call_S hC (av := [.int x31_4, .int 4]) (st := [.int 1, .int x31_1, va_rf x31_0]) (ct_L_below hC.hl G x31_4 4 σ153) q_549 q_550 q_12 q_551 yd_L_below rfl ⟨Nat.le_of_ble_eq_true rfl, Nat.le_of_ble_eq_true rfl⟩ ⟨by omega, by omega⟩ rfl (by simp [cat_rf, cat_i, cat_j, cat_d, cat_a]) dL_isWorked_106 (fun v154 σ155 => ?_)
          show Wo _ _ _ _ _ _ _ _ _ _ [.int v154, .int 1, .int x31_1, va_rf x31_0]
          refine r_iadd hC dL_isWorked_109 (fun v156 => ?_)
          refine r_iconst hC (1) rfl dL_isWorked_110 ?_
          refine r_iloadn hC 5 rfl rfl dL_isWorked_111 ?_
          refine r_iconst hC (2) rfl dL_isWorked_112 ?_
          refine r_ishr hC dL_isWorked_113 (fun v157 => ?_)
          refine r_iconst hC (3) rfl dL_isWorked_114 ?_
          refine call_S hC (av := [.int v157, .int 3]) (st := [.int 1, .int v156, .int x31_1, va_rf x31_0]) (ct_L_below hC.hl G v157 3 σ155) q_549 q_550 q_12 q_551 yd_L_below rfl ⟨Nat.le_of_ble_eq_true rfl, Nat.le_of_ble_eq_true rfl⟩ ⟨by omega, by omega⟩ rfl (by simp [cat_rf, cat_i, cat_j, cat_d, cat_a]) dL_isWorked_115 (fun v158 σ159 => ?_)
          show Wo _ _ _ _ _ _ _ _ _ _ [.int v158, .int 1, .int v156, .int x31_1, va_rf x31_0]
          refine r_iadd hC dL_isWorked_118 (fun v160 => ?_)
          refine call_V hC (av := [.int x31_1, .int v156, .int v160]) (st := []) (r := x31_0) (ci := 4) rfl rfl (fun h9 => ct_X4_wither hC.hl G h9 x31_1 v156 v160 σ159) q_615 q_616 q_617 q_13 q_618 yd_X4_wither rfl ⟨Nat.le_of_ble_eq_true rfl, Nat.le_of_ble_eq_true rfl⟩ ⟨by omega, by omega⟩ rfl (Nat.le_of_ble_eq_true rfl) dL_isWorked_119 (fun v161 σ162 => ?_)
          show Wo _ _ _ _ _ _ _ _ _ _ [.int v161]
          refine r_iload hC 0 rfl dL_isWorked_122 ?_
          refine r_icmp_ge hC 142 dL_isWorked_124 (by decide) ?_ ?_
          · refine Wo.sub [] rfl ?_
            exact t_L_isWorked_142 hC  σ162 _ _ ⟨by omega, by omega⟩
          · refine r_aloadn hC 2 (r := x31_0) rfl rfl dL_isWorked_127 ?_
            refine r_iloadn hC 3 rfl rfl dL_isWorked_128 ?_
            refine r_iconst hC (3) rfl dL_isWorked_129 ?_
            refine call_V hC (av := [.int x31_1, .int 3]) (st := []) (r := x31_0) (ci := 4) rfl rfl (fun h9 => ct_X4_ofLot hC.hl G h9 x31_1 3 σ162) q_385 q_386 q_387 q_13 q_388 yd_X4_ofLot rfl ⟨Nat.le_of_ble_eq_true rfl, Nat.le_of_ble_eq_true rfl⟩ ⟨by omega, by omega⟩ rfl (Nat.le_of_ble_eq_true rfl) dL_isWorked_130 (fun v164 σ165 => ?_)
            show Wo _ _ _ _ _ _ _ _ _ _ [.int v164]
            refine r_iload hC 7 rfl dL_isWorked_133 ?_
            refine r_icmp_lt hC 142 dL_isWorked_135 (by decide) ?_ ?_
            · refine Wo.sub [] rfl ?_
              exact t_L_isWorked_142 hC  σ165 _ _ ⟨by omega, by omega⟩
            · refine r_iconst hC (1) rfl dL_isWorked_138 ?_
              refine r_goto hC 143 dL_isWorked_139 (by decide) ?_
              refine Wo.sub [] rfl ?_
              exact t_L_isWorked_143 hC 1 σ165 _ _ ⟨by omega, by omega⟩
        · refine r_aloadn hC 2 (r := x31_0) rfl rfl dL_isWorked_68 ?_
          refine r_iloadn hC 3 rfl rfl dL_isWorked_69 ?_
          refine call_V hC (av := [.int x31_1]) (st := []) (r := x31_0) (ci := 4) rfl rfl (fun h9 => ct_X4_kill hC.hl G h9 x31_1 σ153) q_611 q_612 q_613 q_13 q_614 yd_X4_kill rfl ⟨Nat.le_of_ble_eq_true rfl, Nat.le_of_ble_eq_true rfl⟩ ⟨by omega, by omega⟩ rfl (Nat.le_of_ble_eq_true rfl) dL_isWorked_70 (fun v167 σ168 => ?_)
          show Wo _ _ _ _ _ _ _ _ _ _ [.int v167]
          refine r_iload hC 0 rfl dL_isWorked_73 ?_
          refine r_iload hC 0 rfl dL_isWorked_75 ?_
          refine r_iconst hC (5) rfl dL_isWorked_77 ?_
          refine r_idiv hC dL_isWorked_78 (fun v170 => ?_)
          refine r_isub hC dL_isWorked_79 (fun v171 => ?_)
          refine r_icmp_ne hC 98 dL_isWorked_80 (by decide) ?_ ?_
          · refine Wo.sub [] rfl ?_
            exact t_L_isWorked_98 hC  σ168 _ _ ⟨by omega, by omega⟩
          · refine r_aloadn hC 2 (r := x31_0) rfl rfl dL_isWorked_83 ?_
            refine r_iloadn hC 3 rfl rfl dL_isWorked_84 ?_
            refine r_bipush hC (10) (by decide) dL_isWorked_85 ?_
            refine call_V hC (av := [.int x31_1, .int 10]) (st := []) (r := x31_0) (ci := 4) rfl rfl (fun h9 => ct_X4_ofLot hC.hl G h9 x31_1 10 σ168) q_385 q_386 q_387 q_13 q_388 yd_X4_ofLot rfl ⟨Nat.le_of_ble_eq_true rfl, Nat.le_of_ble_eq_true rfl⟩ ⟨by omega, by omega⟩ rfl (Nat.le_of_ble_eq_true rfl) dL_isWorked_87 (fun v172 σ173 => ?_)
            show Wo _ _ _ _ _ _ _ _ _ _ [.int v172]
            refine r_iconst hC (1) rfl dL_isWorked_90 ?_
            refine r_icmp_ne hC 98 dL_isWorked_91 (by decide) ?_ ?_
            · refine Wo.sub [] rfl ?_
              exact t_L_isWorked_98 hC  σ173 _ _ ⟨by omega, by omega⟩
            · refine r_iconst hC (1) rfl dL_isWorked_94 ?_
              refine r_goto hC 99 dL_isWorked_95 (by decide) ?_
              refine Wo.sub [] rfl ?_
              exact t_L_isWorked_99 hC 1 σ173 _ _ ⟨by omega, by omega⟩

set_option maxRecDepth 100000 in
set_option maxHeartbeats 4000000 in
theorem t_L_isWorked_30 {C : Cxt} {G : Glb} (hC : CX C G RL cL_isWorked 13 (some .boolean) 5 1 6 108) (x30_0 : (Option Nat)) (x30_1 : Int32) (x30_2 : Int32) (x30_3 : Int32) (x30_4 : Int32) (x30_5 : Int32) (σ : Mem) (kc ks : Nat) (hN : kc + 1 ≤ 1 ∧ ks + 6 ≤ 6) : Wo C G 13 (QP C G rvI 1 6) (b_L_isWorked_30  x30_0 x30_1 x30_2 x30_3 x30_4 x30_5 σ) σ kc ks 30 [(0, va_rf x30_0), (1, .int x30_1), (2, .int x30_2), (3, .int x30_3), (4, .int x30_4), (5, .int x30_5)] [] := by
  unfold b_L_isWorked_30
  refine r_iconst hC (0) rfl dL_isWorked_30 ?_
  exact t_L_isWorked_31 hC x30_0 x30_1 x30_2 x30_3 x30_4 x30_5 0 σ _ _ ⟨by omega, by omega⟩

set_option maxRecDepth 100000 in
set_option maxHeartbeats 4000000 in
theorem t_L_isWorked_0 {C : Cxt} {G : Glb} (hC : CX C G RL cL_isWorked 13 (some .boolean) 5 1 6 108) (p0 : (Option Nat)) (p1 : Int32) (p2 : Int32) (p3 : Int32) (p4 : Int32) (σ : Mem) (kc ks : Nat) (hN : kc + 1 ≤ 1 ∧ ks + 6 ≤ 6) : Wo C G 13 (QP C G rvI 1 6) (b_L_isWorked_0  p0 p1 p2 p3 p4 σ) σ kc ks 0 [(0, va_rf p0), (1, .int p1), (2, .int p2), (3, .int p3), (4, .int p4)] [] := by
  unfold b_L_isWorked_0
  refine r_aloadn hC 0 (r := p0) rfl rfl dL_isWorked_0 ?_
  refine r_iloadn hC 1 rfl rfl dL_isWorked_1 ?_
  refine r_iconst hC (1) rfl dL_isWorked_2 ?_
  refine call_V hC (av := [.int p1, .int 1]) (st := []) (r := p0) (ci := 4) rfl rfl (fun h9 => ct_X4_ofLot hC.hl G h9 p1 1 σ) q_385 q_386 q_387 q_13 q_388 yd_X4_ofLot rfl ⟨Nat.le_of_ble_eq_true rfl, Nat.le_of_ble_eq_true rfl⟩ ⟨by omega, by omega⟩ rfl (Nat.le_of_ble_eq_true rfl) dL_isWorked_3 (fun v1 σ2 => ?_)
  show Wo _ _ _ _ _ _ _ _ _ _ [.int v1]
  refine r_istore hC [(5, .int v1), (0, va_rf p0), (1, .int p1), (2, .int p2), (3, .int p3), (4, .int p4)] (i := 5) (by decide) rfl dL_isWorked_6 ?_
  refine r_iloadn hC 3 rfl rfl dL_isWorked_8 ?_
  refine r_iconst hC (2) rfl dL_isWorked_9 ?_
  refine r_icmp_ge hC 30 dL_isWorked_10 (by decide) ?_ ?_
  · refine Wo.sub [1, 2, 3, 4, 5, 0] rfl ?_
    exact t_L_isWorked_30 hC p0 p1 p2 p3 p4 v1 σ2 _ _ ⟨by omega, by omega⟩
  · refine r_aloadn hC 1 (r := p0) rfl rfl dL_isWorked_13 ?_
    refine r_iloadn hC 2 rfl rfl dL_isWorked_14 ?_
    refine r_iconst hC (3) rfl dL_isWorked_15 ?_
    refine call_V hC (av := [.int p1, .int 3]) (st := []) (r := p0) (ci := 4) rfl rfl (fun h9 => ct_X4_ofLot hC.hl G h9 p1 3 σ2) q_385 q_386 q_387 q_13 q_388 yd_X4_ofLot rfl ⟨Nat.le_of_ble_eq_true rfl, Nat.le_of_ble_eq_true rfl⟩ ⟨by omega, by omega⟩ rfl (Nat.le_of_ble_eq_true rfl) dL_isWorked_16 (fun v175 σ176 => ?_)
    show Wo _ _ _ _ _ _ _ _ _ _ [.int v175]
    refine r_iconst hC (2) rfl dL_isWorked_19 ?_
    refine r_iload hC 0 rfl dL_isWorked_20 ?_
    refine r_imul hC dL_isWorked_22 (fun v178 => ?_)
    refine r_icmp_gt hC 30 dL_isWorked_23 (by decide) ?_ ?_
    · refine Wo.sub [1, 2, 3, 4, 5, 0] rfl ?_
      exact t_L_isWorked_30 hC p0 p1 p2 p3 p4 v1 σ176 _ _ ⟨by omega, by omega⟩
    · refine r_iconst hC (1) rfl dL_isWorked_26 ?_
      refine r_goto hC 31 dL_isWorked_27 (by decide) ?_
      refine Wo.sub [1, 2, 3, 4, 5, 0] rfl ?_
      exact t_L_isWorked_31 hC p0 p1 p2 p3 p4 v1 1 σ176 _ _ ⟨by omega, by omega⟩

set_option maxRecDepth 100000 in
set_option maxHeartbeats 4000000 in
theorem ct_L_isWorked {l : Launch} (hl : l.stackTraces = false) (G : Glb) (p0 : (Option Nat)) (p1 : Int32) (p2 : Int32) (p3 : Int32) (p4 : Int32) (σ : Mem) : Ct rvI l yL_isWorked (Cond.code yL_isWorked cL_isWorked 13 (some .boolean) :: uW) { frames := 5, cells := 1, slots := 6, locals := 108 } 1 6 G [va_rf p0, .int p1, .int p2, .int p3, .int p4] σ (f_L_isWorked p0 p1 p2 p3 p4 σ) := by
  refine Ct.of hl (by decide +kernel) (by simp [lg_sl, cat_rf, cat_i, cat_j, cat_d, cat_a]) (fun C hC hin => ?_)
  have e : lv_args 0 [va_rf p0, .int p1, .int p2, .int p3, .int p4] = [(0, va_rf p0), (1, .int p1), (2, .int p2), (3, .int p3), (4, .int p4)] := by simp [lv_args, cat_rf, cat_i, cat_j, cat_d, cat_a]
  rw [e]
  exact t_L_isWorked_0 hC p0 p1 p2 p3 p4 σ 0 0 ⟨Nat.le_of_ble_eq_true rfl, Nat.le_of_ble_eq_true rfl⟩

noncomputable def b_L_isSound_304 (y304_0 : Int32) (σ : Mem) : Option ((Int32) × Mem) :=
bo y304_0 (some (y304_0, σ))

noncomputable def b_L_isSound_303 (σ : Mem) : Option ((Int32) × Mem) :=
b_L_isSound_304 0 σ

noncomputable def b_L_isSound_198 (k198 : (Option Nat) → Int32 → (Option Nat) → Int32 → Int32 → Int32 → Mem → Option ((Int32) × Mem)) (x198_0 : (Option Nat)) (x198_2 : Int32) (x198_3 : (Option Nat)) (x198_4 : Int32) (x198_5 : Int32) (x198_6 : Int32) (σ : Mem) : Option ((Int32) × Mem) :=
if 4 ≤ x198_6 then
aI σ x198_3 0 fun v6 =>
ob 4 σ x198_0 fun h9 => cl1 (f_X4_many h9 3 σ) fun v7 σ8 =>
if v6 = v7 then
aI σ8 x198_3 1 fun v10 =>
ob 4 σ8 x198_0 fun h13 => cl1 (f_X4_many h13 4 σ8) fun v11 σ12 =>
if v10 = v11 then
aI σ12 x198_3 2 fun v14 =>
ob 4 σ12 x198_0 fun h17 => cl1 (f_X4_many h17 5 σ12) fun v15 σ16 =>
if v14 = v15 then
ob 4 σ16 x198_0 fun h20 => cl1 (f_X4_many h20 8 σ16) fun v18 σ19 =>
if x198_4 = v18 then
ob 4 σ19 x198_0 fun h23 => cl1 (f_X4_many h23 9 σ19) fun v21 σ22 =>
ob 4 σ22 x198_0 fun h26 => cl1 (f_X4_many h26 10 σ22) fun v24 σ25 =>
nm (x198_4 + v24) fun v27 =>
if v21 = v27 then
ob 4 σ25 x198_0 fun h30 => cl1 (f_X4_many h30 6 σ25) fun v28 σ29 =>
nm (v28 + x198_5) fun v31 =>
if v31 = x198_2 then
b_L_isSound_304 1 σ29
else
b_L_isSound_303 σ29
else
b_L_isSound_303 σ25
else
b_L_isSound_303 σ19
else
b_L_isSound_303 σ16
else
b_L_isSound_303 σ12
else
b_L_isSound_303 σ8
else
nm (11 + x198_6) fun v32 =>
ob 4 σ x198_0 fun h35 => cl1 (f_X4_many h35 v32 σ) fun v33 σ34 =>
nm (x198_5 + v33) fun v36 =>
nm (x198_6 + 1) fun v37 =>
k198 x198_0 x198_2 x198_3 x198_4 v36 v37 σ34

noncomputable def l_L_isSound_198 (n : Nat) : (Option Nat) → Int32 → (Option Nat) → Int32 → Int32 → Int32 → Mem → Option ((Int32) × Mem) := itr (fun _ _ _ _ _ _ _ => none) (fun k => b_L_isSound_198  k) n

noncomputable def b_L_isSound_184 (σ : Mem) : Option ((Int32) × Mem) :=
bo 0 (some (0, σ))

noncomputable def b_L_isSound_171 (k10 : (Option Nat) → Int32 → Int32 → (Option Nat) → Int32 → Int32 → Mem → Option ((Int32) × Mem)) (x171_0 : (Option Nat)) (x171_1 : Int32) (x171_2 : Int32) (x171_3 : (Option Nat)) (x171_4 : Int32) (x171_5 : Int32) (σ : Mem) : Option ((Int32) × Mem) :=
ob 4 σ x171_0 fun h50 => cl1 (f_X4_ofLot h50 x171_5 6 σ) fun v48 σ49 =>
if v48 ≤ 60 then
nm (x171_5 + 1) fun v51 =>
k10 x171_0 x171_1 x171_2 x171_3 x171_4 v51 σ49
else
b_L_isSound_184 σ49

noncomputable def b_L_isSound_154 (k10 : (Option Nat) → Int32 → Int32 → (Option Nat) → Int32 → Int32 → Mem → Option ((Int32) × Mem)) (x154_0 : (Option Nat)) (x154_1 : Int32) (x154_2 : Int32) (x154_3 : (Option Nat)) (x154_4 : Int32) (x154_5 : Int32) (x154_6 : Int32) (σ : Mem) : Option ((Int32) × Mem) :=
if x154_6 = 2 then
b_L_isSound_171 k10 x154_0 x154_1 x154_2 x154_3 x154_4 x154_5 σ
else
ob 4 σ x154_0 fun h54 => cl1 (f_X4_ofLot h54 x154_5 13 σ) fun v52 σ53 =>
if 0 < v52 then
b_L_isSound_184 σ53
else
b_L_isSound_171 k10 x154_0 x154_1 x154_2 x154_3 x154_4 x154_5 σ53

noncomputable def b_L_isSound_133 (k10 : (Option Nat) → Int32 → Int32 → (Option Nat) → Int32 → Int32 → Mem → Option ((Int32) × Mem)) (x133_0 : (Option Nat)) (x133_1 : Int32) (x133_2 : Int32) (x133_3 : (Option Nat)) (x133_4 : Int32) (x133_5 : Int32) (x133_6 : Int32) (x133_7 : Int32) (y133_0 : Int32) (y133_1 : Int32) (σ : Mem) : Option ((Int32) × Mem) :=
if y133_1 = y133_0 then
if 3 ≤ x133_6 then
b_L_isSound_154 k10 x133_0 x133_1 x133_2 x133_3 x133_4 x133_5 x133_6 σ
else
ob 4 σ x133_0 fun h57 => cl1 (f_X4_ofLot h57 x133_5 2 σ) fun v55 σ56 =>
if x133_7 < v55 then
b_L_isSound_184 σ56
else
b_L_isSound_154 k10 x133_0 x133_1 x133_2 x133_3 x133_4 x133_5 x133_6 σ56
else
b_L_isSound_184 σ

noncomputable def b_L_isSound_122 (k10 : (Option Nat) → Int32 → Int32 → (Option Nat) → Int32 → Int32 → Mem → Option ((Int32) × Mem)) (x122_0 : (Option Nat)) (x122_1 : Int32) (x122_2 : Int32) (x122_3 : (Option Nat)) (x122_4 : Int32) (x122_5 : Int32) (x122_6 : Int32) (x122_7 : Int32) (y122_0 : Int32) (σ : Mem) : Option ((Int32) × Mem) :=
if x122_6 = 3 then
b_L_isSound_133 k10 x122_0 x122_1 x122_2 x122_3 x122_4 x122_5 x122_6 x122_7 1 y122_0 σ
else
b_L_isSound_133 k10 x122_0 x122_1 x122_2 x122_3 x122_4 x122_5 x122_6 x122_7 0 y122_0 σ

noncomputable def b_L_isSound_87 (k10 : (Option Nat) → Int32 → Int32 → (Option Nat) → Int32 → Int32 → Mem → Option ((Int32) × Mem)) (k43 : (Option Nat) → Int32 → Int32 → (Option Nat) → Int32 → Int32 → Int32 → Int32 → Int32 → Mem → Option ((Int32) × Mem)) (x87_0 : (Option Nat)) (x87_1 : Int32) (x87_2 : Int32) (x87_3 : (Option Nat)) (x87_4 : Int32) (x87_5 : Int32) (x87_6 : Int32) (x87_7 : Int32) (x87_8 : Int32) (σ : Mem) : Option ((Int32) × Mem) :=
nm (x87_8 + 1) fun v63 =>
k43 x87_0 x87_1 x87_2 x87_3 x87_4 x87_5 x87_6 x87_7 v63 σ

noncomputable def b_L_isSound_43 (k10 : (Option Nat) → Int32 → Int32 → (Option Nat) → Int32 → Int32 → Mem → Option ((Int32) × Mem)) (k43 : (Option Nat) → Int32 → Int32 → (Option Nat) → Int32 → Int32 → Int32 → Int32 → Int32 → Mem → Option ((Int32) × Mem)) (x43_0 : (Option Nat)) (x43_1 : Int32) (x43_2 : Int32) (x43_3 : (Option Nat)) (x43_4 : Int32) (x43_5 : Int32) (x43_6 : Int32) (x43_7 : Int32) (x43_8 : Int32) (σ : Mem) : Option ((Int32) × Mem) :=
if 4 ≤ x43_8 then
nm (x43_4 + x43_7) fun v44 =>
ob 4 σ x43_0 fun h47 => cl1 (f_X4_ofLot h47 x43_5 1 σ) fun v45 σ46 =>
if x43_7 = v45 then
if x43_7 = 0 then
b_L_isSound_122 k10 x43_0 x43_1 x43_2 x43_3 v44 x43_5 x43_6 x43_7 1 σ46
else
b_L_isSound_122 k10 x43_0 x43_1 x43_2 x43_3 v44 x43_5 x43_6 x43_7 0 σ46
else
b_L_isSound_184 σ46
else
nm (14 + x43_8) fun v58 =>
ob 4 σ x43_0 fun h61 => cl1 (f_X4_ofLot h61 x43_5 v58 σ) fun v59 σ60 =>
nm (x43_7 + v59) fun v62 =>
if x43_8 < x43_1 then
b_L_isSound_87 k10 k43 x43_0 x43_1 x43_2 x43_3 x43_4 x43_5 x43_6 v62 x43_8 σ60
else
nm (14 + x43_8) fun v64 =>
ob 4 σ60 x43_0 fun h67 => cl1 (f_X4_ofLot h67 x43_5 v64 σ60) fun v65 σ66 =>
if v65 ≤ 0 then
b_L_isSound_87 k10 k43 x43_0 x43_1 x43_2 x43_3 x43_4 x43_5 x43_6 v62 x43_8 σ66
else
bo 0 (some (0, σ66))

noncomputable def l_L_isSound_43 (k10 : (Option Nat) → Int32 → Int32 → (Option Nat) → Int32 → Int32 → Mem → Option ((Int32) × Mem)) (n : Nat) : (Option Nat) → Int32 → Int32 → (Option Nat) → Int32 → Int32 → Int32 → Int32 → Int32 → Mem → Option ((Int32) × Mem) := itr (fun _ _ _ _ _ _ _ _ _ _ => none) (fun k => b_L_isSound_43 k10 k) n

noncomputable def b_L_isSound_10 (k10 : (Option Nat) → Int32 → Int32 → (Option Nat) → Int32 → Int32 → Mem → Option ((Int32) × Mem)) (x10_0 : (Option Nat)) (x10_1 : Int32) (x10_2 : Int32) (x10_3 : (Option Nat)) (x10_4 : Int32) (x10_5 : Int32) (σ : Mem) : Option ((Int32) × Mem) :=
ob 4 σ x10_0 fun h5 => cl1 (f_X4_many h5 2 σ) fun v3 σ4 =>
if v3 ≤ x10_5 then
l_L_isSound_198 40 x10_0 x10_2 x10_3 x10_4 0 0 σ4
else
ob 4 σ4 x10_0 fun h40 => cl1 (f_X4_ofLot h40 x10_5 0 σ4) fun v38 σ39 =>
aI σ39 x10_3 v38 fun v41 =>
nm (v41 + 1) fun v42 =>
wI σ39 x10_3 v38 v42 fun σ43 =>
l_L_isSound_43 k10 40 x10_0 x10_1 x10_2 x10_3 x10_4 x10_5 v38 0 0 σ43

noncomputable def l_L_isSound_10 (n : Nat) : (Option Nat) → Int32 → Int32 → (Option Nat) → Int32 → Int32 → Mem → Option ((Int32) × Mem) := itr (fun _ _ _ _ _ _ _ => none) (fun k => b_L_isSound_10  k) n

noncomputable def b_L_isSound_0 (p0 : (Option Nat)) (p1 : Int32) (p2 : Int32) (σ : Mem) : Option ((Int32) × Mem) :=
nA 0 4 σ 4 fun σ1 r2 =>
l_L_isSound_10 40 p0 p1 p2 r2 0 0 σ1

noncomputable def f_L_isSound (p0 : (Option Nat)) (p1 : Int32) (p2 : Int32) (σ : Mem) : Option ((Int32) × Mem) := b_L_isSound_0 p0 p1 p2 σ
set_option maxRecDepth 100000 in
set_option maxHeartbeats 4000000 in
theorem t_L_isSound_304 {C : Cxt} {G : Glb} (hC : CX C G RL cL_isSound 9 (some .boolean) 3 1 4 65) (y304_0 : Int32) (σ : Mem) (kc ks : Nat) (hN : kc + 0 ≤ 1 ∧ ks + 0 ≤ 4) : Wo C G 9 (QP C G rvI 1 4) (b_L_isSound_304  y304_0 σ) σ kc ks 304 [] [.int y304_0] := by
  unfold b_L_isSound_304
  exact e_B hC ⟨by omega, by omega⟩ dL_isSound_304

set_option maxRecDepth 100000 in
set_option maxHeartbeats 4000000 in
theorem t_L_isSound_303 {C : Cxt} {G : Glb} (hC : CX C G RL cL_isSound 9 (some .boolean) 3 1 4 65) (σ : Mem) (kc ks : Nat) (hN : kc + 0 ≤ 1 ∧ ks + 0 ≤ 4) : Wo C G 9 (QP C G rvI 1 4) (b_L_isSound_303   σ) σ kc ks 303 [] [] := by
  unfold b_L_isSound_303
  refine r_iconst hC (0) rfl dL_isSound_303 ?_
  exact t_L_isSound_304 hC 0 σ _ _ ⟨by omega, by omega⟩

set_option maxRecDepth 100000 in
set_option maxHeartbeats 4000000 in
theorem t_L_isSound_198 {C : Cxt} {G : Glb} (hC : CX C G RL cL_isSound 9 (some .boolean) 3 1 4 65) (P198 : Nat → Nat → Prop) (hm198 : ∀ a b a2 b2 : Nat, a ≤ a2 → b ≤ b2 → P198 a2 b2 → P198 a b) (k198 : (Option Nat) → Int32 → (Option Nat) → Int32 → Int32 → Int32 → Mem → Option ((Int32) × Mem)) (hk198 : ∀ (x198_0 : (Option Nat)) (x198_2 : Int32) (x198_3 : (Option Nat)) (x198_4 : Int32) (x198_5 : Int32) (x198_6 : Int32) (σ : Mem) (kc ks : Nat), P198 kc ks → Wo C G 9 (QP C G rvI 1 4) (k198 x198_0 x198_2 x198_3 x198_4 x198_5 x198_6 σ) σ kc ks 198 [(0, va_rf x198_0), (2, .int x198_2), (3, va_rf x198_3), (4, .int x198_4), (5, .int x198_5), (6, .int x198_6)] []) (x198_0 : (Option Nat)) (x198_2 : Int32) (x198_3 : (Option Nat)) (x198_4 : Int32) (x198_5 : Int32) (x198_6 : Int32) (σ : Mem) (kc ks : Nat) (hN : kc + 0 ≤ 1 ∧ ks + 0 ≤ 4) (hP198 : P198 (kc + 0) (ks + 0)) : Wo C G 9 (QP C G rvI 1 4) (b_L_isSound_198 k198 x198_0 x198_2 x198_3 x198_4 x198_5 x198_6 σ) σ kc ks 198 [(0, va_rf x198_0), (2, .int x198_2), (3, va_rf x198_3), (4, .int x198_4), (5, .int x198_5), (6, .int x198_6)] [] := by
  unfold b_L_isSound_198
  refine r_iload hC 5 rfl dL_isSound_198 ?_
  refine r_iconst hC (4) rfl dL_isSound_200 ?_
  refine r_icmp_ge hC 224 dL_isSound_201 (by decide) ?_ ?_
  · refine r_aloadn hC 2 (r := x198_3) rfl rfl dL_isSound_224 ?_
    refine r_iconst hC (0) rfl dL_isSound_225 ?_
    refine r_aI hC (r := x198_3) dL_isSound_226 (fun v6 => ?_)
    refine r_aloadn hC 0 (r := x198_0) rfl rfl dL_isSound_227 ?_
    refine r_iconst hC (3) rfl dL_isSound_228 ?_
    refine call_V hC (av := [.int 3]) (st := [.int v6]) (r := x198_0) (ci := 4) rfl rfl (fun h9 => ct_X4_many hC.hl G h9 3 σ) q_394 q_395 q_396 q_13 q_397 yd_X4_many rfl ⟨Nat.le_of_ble_eq_true rfl, Nat.le_of_ble_eq_true rfl⟩ ⟨by omega, by omega⟩ rfl (by simp [cat_rf, cat_i, cat_j, cat_d, cat_a]) dL_isSound_229 (fun v7 σ8 => ?_)
    show Wo _ _ _ _ _ _ _ _ _ _ [.int v7, .int v6]
    refine r_icmp_ne hC 303 dL_isSound_232 (by decide) ?_ ?_
    · refine Wo.sub [] rfl ?_
      exact t_L_isSound_303 hC  σ8 _ _ ⟨by omega, by omega⟩
    · refine r_aloadn hC 2 (r := x198_3) rfl rfl dL_isSound_235 ?_
      refine r_iconst hC (1) rfl dL_isSound_236 ?_
      refine r_aI hC (r := x198_3) dL_isSound_237 (fun v10 => ?_)
      refine r_aloadn hC 0 (r := x198_0) rfl rfl dL_isSound_238 ?_
      refine r_iconst hC (4) rfl dL_isSound_239 ?_
      refine call_V hC (av := [.int 4]) (st := [.int v10]) (r := x198_0) (ci := 4) rfl rfl (fun h9 => ct_X4_many hC.hl G h9 4 σ8) q_394 q_395 q_396 q_13 q_397 yd_X4_many rfl ⟨Nat.le_of_ble_eq_true rfl, Nat.le_of_ble_eq_true rfl⟩ ⟨by omega, by omega⟩ rfl (by simp [cat_rf, cat_i, cat_j, cat_d, cat_a]) dL_isSound_240 (fun v11 σ12 => ?_)
      show Wo _ _ _ _ _ _ _ _ _ _ [.int v11, .int v10]
      refine r_icmp_ne hC 303 dL_isSound_243 (by decide) ?_ ?_
      · refine Wo.sub [] rfl ?_
        exact t_L_isSound_303 hC  σ12 _ _ ⟨by omega, by omega⟩
      · refine r_aloadn hC 2 (r := x198_3) rfl rfl dL_isSound_246 ?_
        refine r_iconst hC (2) rfl dL_isSound_247 ?_
        refine r_aI hC (r := x198_3) dL_isSound_248 (fun v14 => ?_)
        refine r_aloadn hC 0 (r := x198_0) rfl rfl dL_isSound_249 ?_
        refine r_iconst hC (5) rfl dL_isSound_250 ?_
        refine call_V hC (av := [.int 5]) (st := [.int v14]) (r := x198_0) (ci := 4) rfl rfl (fun h9 => ct_X4_many hC.hl G h9 5 σ12) q_394 q_395 q_396 q_13 q_397 yd_X4_many rfl ⟨Nat.le_of_ble_eq_true rfl, Nat.le_of_ble_eq_true rfl⟩ ⟨by omega, by omega⟩ rfl (by simp [cat_rf, cat_i, cat_j, cat_d, cat_a]) dL_isSound_251 (fun v15 σ16 => ?_)
        show Wo _ _ _ _ _ _ _ _ _ _ [.int v15, .int v14]
        refine r_icmp_ne hC 303 dL_isSound_254 (by decide) ?_ ?_
        · refine Wo.sub [] rfl ?_
          exact t_L_isSound_303 hC  σ16 _ _ ⟨by omega, by omega⟩
        · refine r_iload hC 3 rfl dL_isSound_257 ?_
          refine r_aloadn hC 0 (r := x198_0) rfl rfl dL_isSound_259 ?_
          refine r_bipush hC (8) (by decide) dL_isSound_260 ?_
          refine call_V hC (av := [.int 8]) (st := [.int x198_4]) (r := x198_0) (ci := 4) rfl rfl (fun h9 => ct_X4_many hC.hl G h9 8 σ16) q_394 q_395 q_396 q_13 q_397 yd_X4_many rfl ⟨Nat.le_of_ble_eq_true rfl, Nat.le_of_ble_eq_true rfl⟩ ⟨by omega, by omega⟩ rfl (by simp [cat_rf, cat_i, cat_j, cat_d, cat_a]) dL_isSound_262 (fun v18 σ19 => ?_)
          show Wo _ _ _ _ _ _ _ _ _ _ [.int v18, .int x198_4]
          refine r_icmp_ne hC 303 dL_isSound_265 (by decide) ?_ ?_
          · refine Wo.sub [] rfl ?_
            exact t_L_isSound_303 hC  σ19 _ _ ⟨by omega, by omega⟩
          · refine r_aloadn hC 0 (r := x198_0) rfl rfl dL_isSound_268 ?_
            refine r_bipush hC (9) (by decide) dL_isSound_269 ?_
            refine call_V hC (av := [.int 9]) (st := []) (r := x198_0) (ci := 4) rfl rfl (fun h9 => ct_X4_many hC.hl G h9 9 σ19) q_394 q_395 q_396 q_13 q_397 yd_X4_many rfl ⟨Nat.le_of_ble_eq_true rfl, Nat.le_of_ble_eq_true rfl⟩ ⟨by omega, by omega⟩ rfl (Nat.le_of_ble_eq_true rfl) dL_isSound_271 (fun v21 σ22 => ?_)
            show Wo _ _ _ _ _ _ _ _ _ _ [.int v21]
            refine r_iload hC 3 rfl dL_isSound_274 ?_
            refine r_aloadn hC 0 (r := x198_0) rfl rfl dL_isSound_276 ?_
            refine r_bipush hC (10) (by decide) dL_isSound_277 ?_
            refine call_V hC (av := [.int 10]) (st := [.int x198_4, .int v21]) (r := x198_0) (ci := 4) rfl rfl (fun h9 => ct_X4_many hC.hl G h9 10 σ22) q_394 q_395 q_396 q_13 q_397 yd_X4_many rfl ⟨Nat.le_of_ble_eq_true rfl, Nat.le_of_ble_eq_true rfl⟩ ⟨by omega, by omega⟩ rfl (by simp [cat_rf, cat_i, cat_j, cat_d, cat_a]) dL_isSound_279 (fun v24 σ25 => ?_)
            show Wo _ _ _ _ _ _ _ _ _ _ [.int v24, .int x198_4, .int v21]
            refine r_iadd hC dL_isSound_282 (fun v27 => ?_)
            refine r_icmp_ne hC 303 dL_isSound_283 (by decide) ?_ ?_
            · refine Wo.sub [] rfl ?_
              exact t_L_isSound_303 hC  σ25 _ _ ⟨by omega, by omega⟩
            · refine r_aloadn hC 0 (r := x198_0) rfl rfl dL_isSound_286 ?_
              refine r_bipush hC (6) (by decide) dL_isSound_287 ?_
              refine call_V hC (av := [.int 6]) (st := []) (r := x198_0) (ci := 4) rfl rfl (fun h9 => ct_X4_many hC.hl G h9 6 σ25) q_394 q_395 q_396 q_13 q_397 yd_X4_many rfl ⟨Nat.le_of_ble_eq_true rfl, Nat.le_of_ble_eq_true rfl⟩ ⟨by omega, by omega⟩ rfl (Nat.le_of_ble_eq_true rfl) dL_isSound_289 (fun v28 σ29 => ?_)
              show Wo _ _ _ _ _ _ _ _ _ _ [.int v28]
              refine r_iload hC 4 rfl dL_isSound_292 ?_
              refine r_iadd hC dL_isSound_294 (fun v31 => ?_)
              refine r_iloadn hC 1 rfl rfl dL_isSound_295 ?_
              refine r_icmp_ne hC 303 dL_isSound_296 (by decide) ?_ ?_
              · refine Wo.sub [] rfl ?_
                exact t_L_isSound_303 hC  σ29 _ _ ⟨by omega, by omega⟩
              · refine r_iconst hC (1) rfl dL_isSound_299 ?_
                refine r_goto hC 304 dL_isSound_300 (by decide) ?_
                refine Wo.sub [] rfl ?_
                exact t_L_isSound_304 hC 1 σ29 _ _ ⟨by omega, by omega⟩
  · refine r_iload hC 4 rfl dL_isSound_204 ?_
    refine r_aloadn hC 0 (r := x198_0) rfl rfl dL_isSound_206 ?_
    refine r_bipush hC (11) (by decide) dL_isSound_207 ?_
    refine r_iload hC 5 rfl dL_isSound_209 ?_
    refine r_iadd hC dL_isSound_211 (fun v32 => ?_)
    refine call_V hC (av := [.int v32]) (st := [.int x198_5]) (r := x198_0) (ci := 4) rfl rfl (fun h9 => ct_X4_many hC.hl G h9 v32 σ) q_394 q_395 q_396 q_13 q_397 yd_X4_many rfl ⟨Nat.le_of_ble_eq_true rfl, Nat.le_of_ble_eq_true rfl⟩ ⟨by omega, by omega⟩ rfl (by simp [cat_rf, cat_i, cat_j, cat_d, cat_a]) dL_isSound_212 (fun v33 σ34 => ?_)
    show Wo _ _ _ _ _ _ _ _ _ _ [.int v33, .int x198_5]
    refine r_iadd hC dL_isSound_215 (fun v36 => ?_)
    refine r_istore hC [(5, .int v36), (0, va_rf x198_0), (2, .int x198_2), (3, va_rf x198_3), (4, .int x198_4), (6, .int x198_6)] (i := 5) (by decide) rfl dL_isSound_216 ?_
    refine r_iinc hC 5 (fun w => [(6, .int w), (5, .int v36), (0, va_rf x198_0), (2, .int x198_2), (3, va_rf x198_3), (4, .int x198_4)]) 1 rfl (by decide) rfl (fun w => rfl) dL_isSound_218 (fun v37 => ?_)
    refine r_goto hC 198 dL_isSound_221 (by decide) ?_
    refine Wo.sub [2, 3, 4, 5, 1, 0] rfl ?_
    exact hk198 x198_0 x198_2 x198_3 x198_4 v36 v37 σ34 _ _ (hm198 _ _ _ _ (by omega) (by omega) hP198)

set_option maxRecDepth 100000 in
set_option maxHeartbeats 4000000 in
theorem u_L_isSound_198 {C : Cxt} {G : Glb} (hC : CX C G RL cL_isSound 9 (some .boolean) 3 1 4 65) : ∀ (n : Nat) (x198_0 : (Option Nat)) (x198_2 : Int32) (x198_3 : (Option Nat)) (x198_4 : Int32) (x198_5 : Int32) (x198_6 : Int32) (σ : Mem) (kc ks : Nat), (∀ m, n = m + 1 → (kc + m * 0 + 0 ≤ 1 ∧ ks + m * 0 + 0 ≤ 4)) → Wo C G 9 (QP C G rvI 1 4) (l_L_isSound_198  n x198_0 x198_2 x198_3 x198_4 x198_5 x198_6 σ) σ kc ks 198 [(0, va_rf x198_0), (2, .int x198_2), (3, va_rf x198_3), (4, .int x198_4), (5, .int x198_5), (6, .int x198_6)] [] := by
  intro n
  induction n with
  | zero => intro x198_0 x198_2 x198_3 x198_4 x198_5 x198_6 σ kc ks h0; exact Wo.none
  | succ n ih =>
    intro x198_0 x198_2 x198_3 x198_4 x198_5 x198_6 σ kc ks h0
    exact t_L_isSound_198 hC (fun kc ks => (∀ m, n = m + 1 → (kc + m * 0 + 0 ≤ 1 ∧ ks + m * 0 + 0 ≤ 4))) (fun a b a2 b2 h1 h2 h m e => ⟨by have := (h m e).1; omega, by have := (h m e).2; omega⟩) (l_L_isSound_198  n) ih x198_0 x198_2 x198_3 x198_4 x198_5 x198_6 σ kc ks ⟨by have := (h0 n rfl).1; omega, by have := (h0 n rfl).2; omega⟩ (fun m e => by
      subst e
      exact ⟨by have := (h0 _ rfl).1; omega, by have := (h0 _ rfl).2; omega⟩)

set_option maxRecDepth 100000 in
set_option maxHeartbeats 4000000 in
theorem t_L_isSound_184 {C : Cxt} {G : Glb} (hC : CX C G RL cL_isSound 9 (some .boolean) 3 1 4 65) (σ : Mem) (kc ks : Nat) (hN : kc + 0 ≤ 1 ∧ ks + 0 ≤ 4) : Wo C G 9 (QP C G rvI 1 4) (b_L_isSound_184   σ) σ kc ks 184 [] [] := by
  unfold b_L_isSound_184
  refine r_iconst hC (0) rfl dL_isSound_184 ?_
  exact e_B hC ⟨by omega, by omega⟩ dL_isSound_185

set_option maxRecDepth 100000 in
set_option maxHeartbeats 4000000 in
theorem t_L_isSound_171 {C : Cxt} {G : Glb} (hC : CX C G RL cL_isSound 9 (some .boolean) 3 1 4 65) (P10 : Nat → Nat → Prop) (hm10 : ∀ a b a2 b2 : Nat, a ≤ a2 → b ≤ b2 → P10 a2 b2 → P10 a b) (k10 : (Option Nat) → Int32 → Int32 → (Option Nat) → Int32 → Int32 → Mem → Option ((Int32) × Mem)) (hk10 : ∀ (x10_0 : (Option Nat)) (x10_1 : Int32) (x10_2 : Int32) (x10_3 : (Option Nat)) (x10_4 : Int32) (x10_5 : Int32) (σ : Mem) (kc ks : Nat), P10 kc ks → Wo C G 9 (QP C G rvI 1 4) (k10 x10_0 x10_1 x10_2 x10_3 x10_4 x10_5 σ) σ kc ks 10 [(0, va_rf x10_0), (1, .int x10_1), (2, .int x10_2), (3, va_rf x10_3), (4, .int x10_4), (5, .int x10_5)] []) (x171_0 : (Option Nat)) (x171_1 : Int32) (x171_2 : Int32) (x171_3 : (Option Nat)) (x171_4 : Int32) (x171_5 : Int32) (σ : Mem) (kc ks : Nat) (hN : kc + 0 ≤ 1 ∧ ks + 0 ≤ 4) (hP10 : P10 (kc + 0) (ks + 0)) : Wo C G 9 (QP C G rvI 1 4) (b_L_isSound_171 k10 x171_0 x171_1 x171_2 x171_3 x171_4 x171_5 σ) σ kc ks 171 [(0, va_rf x171_0), (1, .int x171_1), (2, .int x171_2), (3, va_rf x171_3), (4, .int x171_4), (5, .int x171_5)] [] := by
  unfold b_L_isSound_171
  refine r_aloadn hC 0 (r := x171_0) rfl rfl dL_isSound_171 ?_
  refine r_iload hC 5 rfl dL_isSound_172 ?_
  refine r_bipush hC (6) (by decide) dL_isSound_174 ?_
  refine call_V hC (av := [.int x171_5, .int 6]) (st := []) (r := x171_0) (ci := 4) rfl rfl (fun h9 => ct_X4_ofLot hC.hl G h9 x171_5 6 σ) q_385 q_386 q_387 q_13 q_388 yd_X4_ofLot rfl ⟨Nat.le_of_ble_eq_true rfl, Nat.le_of_ble_eq_true rfl⟩ ⟨by omega, by omega⟩ rfl (Nat.le_of_ble_eq_true rfl) dL_isSound_176 (fun v48 σ49 => ?_)
  show Wo _ _ _ _ _ _ _ _ _ _ [.int v48]
  refine r_bipush hC (60) (by decide) dL_isSound_179 ?_
  refine r_icmp_le hC 186 dL_isSound_181 (by decide) ?_ ?_
  · refine r_iinc hC 5 (fun w => [(5, .int w), (0, va_rf x171_0), (1, .int x171_1), (2, .int x171_2), (3, va_rf x171_3), (4, .int x171_4)]) 1 rfl (by decide) rfl (fun w => rfl) dL_isSound_186 (fun v51 => ?_)
    refine r_goto hC 10 dL_isSound_189 (by decide) ?_
    refine Wo.sub [1, 2, 3, 4, 5, 0] rfl ?_
    exact hk10 x171_0 x171_1 x171_2 x171_3 x171_4 v51 σ49 _ _ (hm10 _ _ _ _ (by omega) (by omega) hP10)
  · refine Wo.sub [] rfl ?_
    exact t_L_isSound_184 hC  σ49 _ _ ⟨by omega, by omega⟩

set_option maxRecDepth 100000 in
set_option maxHeartbeats 4000000 in
theorem t_L_isSound_154 {C : Cxt} {G : Glb} (hC : CX C G RL cL_isSound 9 (some .boolean) 3 1 4 65) (P10 : Nat → Nat → Prop) (hm10 : ∀ a b a2 b2 : Nat, a ≤ a2 → b ≤ b2 → P10 a2 b2 → P10 a b) (k10 : (Option Nat) → Int32 → Int32 → (Option Nat) → Int32 → Int32 → Mem → Option ((Int32) × Mem)) (hk10 : ∀ (x10_0 : (Option Nat)) (x10_1 : Int32) (x10_2 : Int32) (x10_3 : (Option Nat)) (x10_4 : Int32) (x10_5 : Int32) (σ : Mem) (kc ks : Nat), P10 kc ks → Wo C G 9 (QP C G rvI 1 4) (k10 x10_0 x10_1 x10_2 x10_3 x10_4 x10_5 σ) σ kc ks 10 [(0, va_rf x10_0), (1, .int x10_1), (2, .int x10_2), (3, va_rf x10_3), (4, .int x10_4), (5, .int x10_5)] []) (x154_0 : (Option Nat)) (x154_1 : Int32) (x154_2 : Int32) (x154_3 : (Option Nat)) (x154_4 : Int32) (x154_5 : Int32) (x154_6 : Int32) (σ : Mem) (kc ks : Nat) (hN : kc + 0 ≤ 1 ∧ ks + 0 ≤ 4) (hP10 : P10 (kc + 0) (ks + 0)) : Wo C G 9 (QP C G rvI 1 4) (b_L_isSound_154 k10 x154_0 x154_1 x154_2 x154_3 x154_4 x154_5 x154_6 σ) σ kc ks 154 [(0, va_rf x154_0), (1, .int x154_1), (2, .int x154_2), (3, va_rf x154_3), (4, .int x154_4), (5, .int x154_5), (6, .int x154_6)] [] := by
  unfold b_L_isSound_154
  refine r_iload hC 6 rfl dL_isSound_154 ?_
  refine r_iconst hC (2) rfl dL_isSound_156 ?_
  refine r_icmp_eq hC 171 dL_isSound_157 (by decide) ?_ ?_
  · refine Wo.sub [0, 1, 2, 3, 4, 5] rfl ?_
    exact t_L_isSound_171 hC P10 hm10 k10 hk10 x154_0 x154_1 x154_2 x154_3 x154_4 x154_5 σ _ _ ⟨by omega, by omega⟩ (hm10 _ _ _ _ (by omega) (by omega) hP10)
  · refine r_aloadn hC 0 (r := x154_0) rfl rfl dL_isSound_160 ?_
    refine r_iload hC 5 rfl dL_isSound_161 ?_
    refine r_bipush hC (13) (by decide) dL_isSound_163 ?_
    refine call_V hC (av := [.int x154_5, .int 13]) (st := []) (r := x154_0) (ci := 4) rfl rfl (fun h9 => ct_X4_ofLot hC.hl G h9 x154_5 13 σ) q_385 q_386 q_387 q_13 q_388 yd_X4_ofLot rfl ⟨Nat.le_of_ble_eq_true rfl, Nat.le_of_ble_eq_true rfl⟩ ⟨by omega, by omega⟩ rfl (Nat.le_of_ble_eq_true rfl) dL_isSound_165 (fun v52 σ53 => ?_)
    show Wo _ _ _ _ _ _ _ _ _ _ [.int v52]
    refine r_if_gt hC 184 dL_isSound_168 (by decide) ?_ ?_
    · refine Wo.sub [] rfl ?_
      exact t_L_isSound_184 hC  σ53 _ _ ⟨by omega, by omega⟩
    · refine Wo.sub [0, 1, 2, 3, 4, 5] rfl ?_
      exact t_L_isSound_171 hC P10 hm10 k10 hk10 x154_0 x154_1 x154_2 x154_3 x154_4 x154_5 σ53 _ _ ⟨by omega, by omega⟩ (hm10 _ _ _ _ (by omega) (by omega) hP10)

set_option maxRecDepth 100000 in
set_option maxHeartbeats 4000000 in
theorem t_L_isSound_133 {C : Cxt} {G : Glb} (hC : CX C G RL cL_isSound 9 (some .boolean) 3 1 4 65) (P10 : Nat → Nat → Prop) (hm10 : ∀ a b a2 b2 : Nat, a ≤ a2 → b ≤ b2 → P10 a2 b2 → P10 a b) (k10 : (Option Nat) → Int32 → Int32 → (Option Nat) → Int32 → Int32 → Mem → Option ((Int32) × Mem)) (hk10 : ∀ (x10_0 : (Option Nat)) (x10_1 : Int32) (x10_2 : Int32) (x10_3 : (Option Nat)) (x10_4 : Int32) (x10_5 : Int32) (σ : Mem) (kc ks : Nat), P10 kc ks → Wo C G 9 (QP C G rvI 1 4) (k10 x10_0 x10_1 x10_2 x10_3 x10_4 x10_5 σ) σ kc ks 10 [(0, va_rf x10_0), (1, .int x10_1), (2, .int x10_2), (3, va_rf x10_3), (4, .int x10_4), (5, .int x10_5)] []) (x133_0 : (Option Nat)) (x133_1 : Int32) (x133_2 : Int32) (x133_3 : (Option Nat)) (x133_4 : Int32) (x133_5 : Int32) (x133_6 : Int32) (x133_7 : Int32) (y133_0 : Int32) (y133_1 : Int32) (σ : Mem) (kc ks : Nat) (hN : kc + 0 ≤ 1 ∧ ks + 0 ≤ 4) (hP10 : P10 (kc + 0) (ks + 0)) : Wo C G 9 (QP C G rvI 1 4) (b_L_isSound_133 k10 x133_0 x133_1 x133_2 x133_3 x133_4 x133_5 x133_6 x133_7 y133_0 y133_1 σ) σ kc ks 133 [(0, va_rf x133_0), (1, .int x133_1), (2, .int x133_2), (3, va_rf x133_3), (4, .int x133_4), (5, .int x133_5), (6, .int x133_6), (7, .int x133_7)] [.int y133_0, .int y133_1] := by
  unfold b_L_isSound_133
  refine r_icmp_ne hC 184 dL_isSound_133 (by decide) ?_ ?_
  · refine Wo.sub [] rfl ?_
    exact t_L_isSound_184 hC  σ _ _ ⟨by omega, by omega⟩
  · refine r_iload hC 6 rfl dL_isSound_136 ?_
    refine r_iconst hC (3) rfl dL_isSound_138 ?_
    refine r_icmp_ge hC 154 dL_isSound_139 (by decide) ?_ ?_
    · refine Wo.sub [0, 1, 2, 3, 4, 5, 6] rfl ?_
      exact t_L_isSound_154 hC P10 hm10 k10 hk10 x133_0 x133_1 x133_2 x133_3 x133_4 x133_5 x133_6 σ _ _ ⟨by omega, by omega⟩ (hm10 _ _ _ _ (by omega) (by omega) hP10)
    · refine r_aloadn hC 0 (r := x133_0) rfl rfl dL_isSound_142 ?_
      refine r_iload hC 5 rfl dL_isSound_143 ?_
      refine r_iconst hC (2) rfl dL_isSound_145 ?_
      refine call_V hC (av := [.int x133_5, .int 2]) (st := []) (r := x133_0) (ci := 4) rfl rfl (fun h9 => ct_X4_ofLot hC.hl G h9 x133_5 2 σ) q_385 q_386 q_387 q_13 q_388 yd_X4_ofLot rfl ⟨Nat.le_of_ble_eq_true rfl, Nat.le_of_ble_eq_true rfl⟩ ⟨by omega, by omega⟩ rfl (Nat.le_of_ble_eq_true rfl) dL_isSound_146 (fun v55 σ56 => ?_)
      show Wo _ _ _ _ _ _ _ _ _ _ [.int v55]
      refine r_iload hC 7 rfl dL_isSound_149 ?_
      refine r_icmp_gt hC 184 dL_isSound_151 (by decide) ?_ ?_
      · refine Wo.sub [] rfl ?_
        exact t_L_isSound_184 hC  σ56 _ _ ⟨by omega, by omega⟩
      · refine Wo.sub [0, 1, 2, 3, 4, 5, 6] rfl ?_
        exact t_L_isSound_154 hC P10 hm10 k10 hk10 x133_0 x133_1 x133_2 x133_3 x133_4 x133_5 x133_6 σ56 _ _ ⟨by omega, by omega⟩ (hm10 _ _ _ _ (by omega) (by omega) hP10)

set_option maxRecDepth 100000 in
set_option maxHeartbeats 4000000 in
theorem t_L_isSound_122 {C : Cxt} {G : Glb} (hC : CX C G RL cL_isSound 9 (some .boolean) 3 1 4 65) (P10 : Nat → Nat → Prop) (hm10 : ∀ a b a2 b2 : Nat, a ≤ a2 → b ≤ b2 → P10 a2 b2 → P10 a b) (k10 : (Option Nat) → Int32 → Int32 → (Option Nat) → Int32 → Int32 → Mem → Option ((Int32) × Mem)) (hk10 : ∀ (x10_0 : (Option Nat)) (x10_1 : Int32) (x10_2 : Int32) (x10_3 : (Option Nat)) (x10_4 : Int32) (x10_5 : Int32) (σ : Mem) (kc ks : Nat), P10 kc ks → Wo C G 9 (QP C G rvI 1 4) (k10 x10_0 x10_1 x10_2 x10_3 x10_4 x10_5 σ) σ kc ks 10 [(0, va_rf x10_0), (1, .int x10_1), (2, .int x10_2), (3, va_rf x10_3), (4, .int x10_4), (5, .int x10_5)] []) (x122_0 : (Option Nat)) (x122_1 : Int32) (x122_2 : Int32) (x122_3 : (Option Nat)) (x122_4 : Int32) (x122_5 : Int32) (x122_6 : Int32) (x122_7 : Int32) (y122_0 : Int32) (σ : Mem) (kc ks : Nat) (hN : kc + 0 ≤ 1 ∧ ks + 0 ≤ 4) (hP10 : P10 (kc + 0) (ks + 0)) : Wo C G 9 (QP C G rvI 1 4) (b_L_isSound_122 k10 x122_0 x122_1 x122_2 x122_3 x122_4 x122_5 x122_6 x122_7 y122_0 σ) σ kc ks 122 [(0, va_rf x122_0), (1, .int x122_1), (2, .int x122_2), (3, va_rf x122_3), (4, .int x122_4), (5, .int x122_5), (6, .int x122_6), (7, .int x122_7)] [.int y122_0] := by
  unfold b_L_isSound_122
  refine r_iload hC 6 rfl dL_isSound_122 ?_
  refine r_iconst hC (3) rfl dL_isSound_124 ?_
  refine r_icmp_ne hC 132 dL_isSound_125 (by decide) ?_ ?_
  · refine r_iconst hC (0) rfl dL_isSound_132 ?_
    exact t_L_isSound_133 hC P10 hm10 k10 hk10 x122_0 x122_1 x122_2 x122_3 x122_4 x122_5 x122_6 x122_7 0 y122_0 σ _ _ ⟨by omega, by omega⟩ (hm10 _ _ _ _ (by omega) (by omega) hP10)
  · refine r_iconst hC (1) rfl dL_isSound_128 ?_
    refine r_goto hC 133 dL_isSound_129 (by decide) ?_
    exact t_L_isSound_133 hC P10 hm10 k10 hk10 x122_0 x122_1 x122_2 x122_3 x122_4 x122_5 x122_6 x122_7 1 y122_0 σ _ _ ⟨by omega, by omega⟩ (hm10 _ _ _ _ (by omega) (by omega) hP10)

set_option maxRecDepth 100000 in
set_option maxHeartbeats 4000000 in
theorem t_L_isSound_87 {C : Cxt} {G : Glb} (hC : CX C G RL cL_isSound 9 (some .boolean) 3 1 4 65) (P10 : Nat → Nat → Prop) (hm10 : ∀ a b a2 b2 : Nat, a ≤ a2 → b ≤ b2 → P10 a2 b2 → P10 a b) (k10 : (Option Nat) → Int32 → Int32 → (Option Nat) → Int32 → Int32 → Mem → Option ((Int32) × Mem)) (hk10 : ∀ (x10_0 : (Option Nat)) (x10_1 : Int32) (x10_2 : Int32) (x10_3 : (Option Nat)) (x10_4 : Int32) (x10_5 : Int32) (σ : Mem) (kc ks : Nat), P10 kc ks → Wo C G 9 (QP C G rvI 1 4) (k10 x10_0 x10_1 x10_2 x10_3 x10_4 x10_5 σ) σ kc ks 10 [(0, va_rf x10_0), (1, .int x10_1), (2, .int x10_2), (3, va_rf x10_3), (4, .int x10_4), (5, .int x10_5)] []) (P43 : Nat → Nat → Prop) (hm43 : ∀ a b a2 b2 : Nat, a ≤ a2 → b ≤ b2 → P43 a2 b2 → P43 a b) (k43 : (Option Nat) → Int32 → Int32 → (Option Nat) → Int32 → Int32 → Int32 → Int32 → Int32 → Mem → Option ((Int32) × Mem)) (hk43 : ∀ (x43_0 : (Option Nat)) (x43_1 : Int32) (x43_2 : Int32) (x43_3 : (Option Nat)) (x43_4 : Int32) (x43_5 : Int32) (x43_6 : Int32) (x43_7 : Int32) (x43_8 : Int32) (σ : Mem) (kc ks : Nat), P43 kc ks → Wo C G 9 (QP C G rvI 1 4) (k43 x43_0 x43_1 x43_2 x43_3 x43_4 x43_5 x43_6 x43_7 x43_8 σ) σ kc ks 43 [(0, va_rf x43_0), (1, .int x43_1), (2, .int x43_2), (3, va_rf x43_3), (4, .int x43_4), (5, .int x43_5), (6, .int x43_6), (7, .int x43_7), (8, .int x43_8)] []) (x87_0 : (Option Nat)) (x87_1 : Int32) (x87_2 : Int32) (x87_3 : (Option Nat)) (x87_4 : Int32) (x87_5 : Int32) (x87_6 : Int32) (x87_7 : Int32) (x87_8 : Int32) (σ : Mem) (kc ks : Nat) (hN : kc + 0 ≤ 1 ∧ ks + 0 ≤ 4) (hP10 : P10 (kc + 0) (ks + 0)) (hP43 : P43 (kc + 0) (ks + 0)) : Wo C G 9 (QP C G rvI 1 4) (b_L_isSound_87 k10 k43 x87_0 x87_1 x87_2 x87_3 x87_4 x87_5 x87_6 x87_7 x87_8 σ) σ kc ks 87 [(0, va_rf x87_0), (1, .int x87_1), (2, .int x87_2), (3, va_rf x87_3), (4, .int x87_4), (5, .int x87_5), (6, .int x87_6), (7, .int x87_7), (8, .int x87_8)] [] := by
  unfold b_L_isSound_87
  refine r_iinc hC 8 (fun w => [(8, .int w), (0, va_rf x87_0), (1, .int x87_1), (2, .int x87_2), (3, va_rf x87_3), (4, .int x87_4), (5, .int x87_5), (6, .int x87_6), (7, .int x87_7)]) 1 rfl (by decide) rfl (fun w => rfl) dL_isSound_87 (fun v63 => ?_)
  refine r_goto hC 43 dL_isSound_90 (by decide) ?_
  refine Wo.sub [1, 2, 3, 4, 5, 6, 7, 8, 0] rfl ?_
  exact hk43 x87_0 x87_1 x87_2 x87_3 x87_4 x87_5 x87_6 x87_7 v63 σ _ _ (hm43 _ _ _ _ (by omega) (by omega) hP43)

set_option maxRecDepth 100000 in
set_option maxHeartbeats 4000000 in
theorem t_L_isSound_43 {C : Cxt} {G : Glb} (hC : CX C G RL cL_isSound 9 (some .boolean) 3 1 4 65) (P10 : Nat → Nat → Prop) (hm10 : ∀ a b a2 b2 : Nat, a ≤ a2 → b ≤ b2 → P10 a2 b2 → P10 a b) (k10 : (Option Nat) → Int32 → Int32 → (Option Nat) → Int32 → Int32 → Mem → Option ((Int32) × Mem)) (hk10 : ∀ (x10_0 : (Option Nat)) (x10_1 : Int32) (x10_2 : Int32) (x10_3 : (Option Nat)) (x10_4 : Int32) (x10_5 : Int32) (σ : Mem) (kc ks : Nat), P10 kc ks → Wo C G 9 (QP C G rvI 1 4) (k10 x10_0 x10_1 x10_2 x10_3 x10_4 x10_5 σ) σ kc ks 10 [(0, va_rf x10_0), (1, .int x10_1), (2, .int x10_2), (3, va_rf x10_3), (4, .int x10_4), (5, .int x10_5)] []) (P43 : Nat → Nat → Prop) (hm43 : ∀ a b a2 b2 : Nat, a ≤ a2 → b ≤ b2 → P43 a2 b2 → P43 a b) (k43 : (Option Nat) → Int32 → Int32 → (Option Nat) → Int32 → Int32 → Int32 → Int32 → Int32 → Mem → Option ((Int32) × Mem)) (hk43 : ∀ (x43_0 : (Option Nat)) (x43_1 : Int32) (x43_2 : Int32) (x43_3 : (Option Nat)) (x43_4 : Int32) (x43_5 : Int32) (x43_6 : Int32) (x43_7 : Int32) (x43_8 : Int32) (σ : Mem) (kc ks : Nat), P43 kc ks → Wo C G 9 (QP C G rvI 1 4) (k43 x43_0 x43_1 x43_2 x43_3 x43_4 x43_5 x43_6 x43_7 x43_8 σ) σ kc ks 43 [(0, va_rf x43_0), (1, .int x43_1), (2, .int x43_2), (3, va_rf x43_3), (4, .int x43_4), (5, .int x43_5), (6, .int x43_6), (7, .int x43_7), (8, .int x43_8)] []) (x43_0 : (Option Nat)) (x43_1 : Int32) (x43_2 : Int32) (x43_3 : (Option Nat)) (x43_4 : Int32) (x43_5 : Int32) (x43_6 : Int32) (x43_7 : Int32) (x43_8 : Int32) (σ : Mem) (kc ks : Nat) (hN : kc + 0 ≤ 1 ∧ ks + 0 ≤ 4) (hP10 : P10 (kc + 0) (ks + 0)) (hP43 : P43 (kc + 0) (ks + 0)) : Wo C G 9 (QP C G rvI 1 4) (b_L_isSound_43 k10 k43 x43_0 x43_1 x43_2 x43_3 x43_4 x43_5 x43_6 x43_7 x43_8 σ) σ kc ks 43 [(0, va_rf x43_0), (1, .int x43_1), (2, .int x43_2), (3, va_rf x43_3), (4, .int x43_4), (5, .int x43_5), (6, .int x43_6), (7, .int x43_7), (8, .int x43_8)] [] := by
  unfold b_L_isSound_43
  refine r_iload hC 8 rfl dL_isSound_43 ?_
  refine r_iconst hC (4) rfl dL_isSound_45 ?_
  refine r_icmp_ge hC 93 dL_isSound_46 (by decide) ?_ ?_
  · refine r_iload hC 4 rfl dL_isSound_93 ?_
    refine r_iload hC 7 rfl dL_isSound_95 ?_
    refine r_iadd hC dL_isSound_97 (fun v44 => ?_)
    refine r_istore hC [(4, .int v44), (0, va_rf x43_0), (1, .int x43_1), (2, .int x43_2), (3, va_rf x43_3), (5, .int x43_5), (6, .int x43_6), (7, .int x43_7), (8, .int x43_8)] (i := 4) (by decide) (by simp [List.filter, cat_rf, cat_i, cat_j, cat_d, cat_a]) dL_isSound_98 ?_
    refine r_iload hC 7 rfl dL_isSound_100 ?_
    refine r_aloadn hC 1 (r := x43_0) rfl rfl dL_isSound_102 ?_
    refine r_iload hC 5 rfl dL_isSound_103 ?_
    refine r_iconst hC (1) rfl dL_isSound_105 ?_
    refine call_V hC (av := [.int x43_5, .int 1]) (st := [.int x43_7]) (r := x43_0) (ci := 4) rfl rfl (fun h9 => ct_X4_ofLot hC.hl G h9 x43_5 1 σ) q_385 q_386 q_387 q_13 q_388 yd_X4_ofLot rfl ⟨Nat.le_of_ble_eq_true rfl, Nat.le_of_ble_eq_true rfl⟩ ⟨by omega, by omega⟩ rfl (by simp [cat_rf, cat_i, cat_j, cat_d, cat_a]) dL_isSound_106 (fun v45 σ46 => ?_)
    show Wo _ _ _ _ _ _ _ _ _ _ [.int v45, .int x43_7]
    refine r_icmp_ne hC 184 dL_isSound_109 (by decide) ?_ ?_
    · refine Wo.sub [] rfl ?_
      exact t_L_isSound_184 hC  σ46 _ _ ⟨by omega, by omega⟩
    · refine r_iload hC 7 rfl dL_isSound_112 ?_
      refine r_if_ne hC 121 dL_isSound_114 (by decide) ?_ ?_
      · refine r_iconst hC (0) rfl dL_isSound_121 ?_
        refine Wo.sub [1, 2, 3, 4, 0, 5, 6, 7] rfl ?_
        exact t_L_isSound_122 hC P10 hm10 k10 hk10 x43_0 x43_1 x43_2 x43_3 v44 x43_5 x43_6 x43_7 0 σ46 _ _ ⟨by omega, by omega⟩ (hm10 _ _ _ _ (by omega) (by omega) hP10)
      · refine r_iconst hC (1) rfl dL_isSound_117 ?_
        refine r_goto hC 122 dL_isSound_118 (by decide) ?_
        refine Wo.sub [1, 2, 3, 4, 0, 5, 6, 7] rfl ?_
        exact t_L_isSound_122 hC P10 hm10 k10 hk10 x43_0 x43_1 x43_2 x43_3 v44 x43_5 x43_6 x43_7 1 σ46 _ _ ⟨by omega, by omega⟩ (hm10 _ _ _ _ (by omega) (by omega) hP10)
  · refine r_iload hC 7 rfl dL_isSound_49 ?_
    refine r_aloadn hC 0 (r := x43_0) rfl rfl dL_isSound_51 ?_
    refine r_iload hC 5 rfl dL_isSound_52 ?_
    refine r_bipush hC (14) (by decide) dL_isSound_54 ?_
    refine r_iload hC 8 rfl dL_isSound_56 ?_
    refine r_iadd hC dL_isSound_58 (fun v58 => ?_)
    refine call_V hC (av := [.int x43_5, .int v58]) (st := [.int x43_7]) (r := x43_0) (ci := 4) rfl rfl (fun h9 => ct_X4_ofLot hC.hl G h9 x43_5 v58 σ) q_385 q_386 q_387 q_13 q_388 yd_X4_ofLot rfl ⟨Nat.le_of_ble_eq_true rfl, Nat.le_of_ble_eq_true rfl⟩ ⟨by omega, by omega⟩ rfl (by simp [cat_rf, cat_i, cat_j, cat_d, cat_a]) dL_isSound_59 (fun v59 σ60 => ?_)
    show Wo _ _ _ _ _ _ _ _ _ _ [.int v59, .int x43_7]
    refine r_iadd hC dL_isSound_62 (fun v62 => ?_)
    refine r_istore hC [(7, .int v62), (0, va_rf x43_0), (1, .int x43_1), (2, .int x43_2), (3, va_rf x43_3), (4, .int x43_4), (5, .int x43_5), (6, .int x43_6), (8, .int x43_8)] (i := 7) (by decide) rfl dL_isSound_63 ?_
    refine r_iload hC 8 rfl dL_isSound_65 ?_
    refine r_iloadn hC 2 rfl rfl dL_isSound_67 ?_
    refine r_icmp_lt hC 87 dL_isSound_68 (by decide) ?_ ?_
    · refine Wo.sub [1, 2, 3, 4, 5, 6, 7, 0, 8] rfl ?_
      exact t_L_isSound_87 hC P10 hm10 k10 hk10 P43 hm43 k43 hk43 x43_0 x43_1 x43_2 x43_3 x43_4 x43_5 x43_6 v62 x43_8 σ60 _ _ ⟨by omega, by omega⟩ (hm10 _ _ _ _ (by omega) (by omega) hP10) (hm43 _ _ _ _ (by omega) (by omega) hP43)
    · refine r_aloadn hC 1 (r := x43_0) rfl rfl dL_isSound_71 ?_
      refine r_iload hC 6 rfl dL_isSound_72 ?_
      refine r_bipush hC (14) (by decide) dL_isSound_74 ?_
      refine r_iload hC 8 rfl dL_isSound_76 ?_
      refine r_iadd hC dL_isSound_78 (fun v64 => ?_)
      refine call_V hC (av := [.int x43_5, .int v64]) (st := []) (r := x43_0) (ci := 4) rfl rfl (fun h9 => ct_X4_ofLot hC.hl G h9 x43_5 v64 σ60) q_385 q_386 q_387 q_13 q_388 yd_X4_ofLot rfl ⟨Nat.le_of_ble_eq_true rfl, Nat.le_of_ble_eq_true rfl⟩ ⟨by omega, by omega⟩ rfl (Nat.le_of_ble_eq_true rfl) dL_isSound_79 (fun v65 σ66 => ?_)
      show Wo _ _ _ _ _ _ _ _ _ _ [.int v65]
      refine r_if_le hC 87 dL_isSound_82 (by decide) ?_ ?_
      · refine Wo.sub [1, 2, 3, 4, 5, 6, 7, 0, 8] rfl ?_
        exact t_L_isSound_87 hC P10 hm10 k10 hk10 P43 hm43 k43 hk43 x43_0 x43_1 x43_2 x43_3 x43_4 x43_5 x43_6 v62 x43_8 σ66 _ _ ⟨by omega, by omega⟩ (hm10 _ _ _ _ (by omega) (by omega) hP10) (hm43 _ _ _ _ (by omega) (by omega) hP43)
      · refine r_iconst hC (0) rfl dL_isSound_85 ?_
        exact e_B hC ⟨by omega, by omega⟩ dL_isSound_86

set_option maxRecDepth 100000 in
set_option maxHeartbeats 4000000 in
theorem u_L_isSound_43 {C : Cxt} {G : Glb} (hC : CX C G RL cL_isSound 9 (some .boolean) 3 1 4 65) (P10 : Nat → Nat → Prop) (hm10 : ∀ a b a2 b2 : Nat, a ≤ a2 → b ≤ b2 → P10 a2 b2 → P10 a b) (k10 : (Option Nat) → Int32 → Int32 → (Option Nat) → Int32 → Int32 → Mem → Option ((Int32) × Mem)) (hk10 : ∀ (x10_0 : (Option Nat)) (x10_1 : Int32) (x10_2 : Int32) (x10_3 : (Option Nat)) (x10_4 : Int32) (x10_5 : Int32) (σ : Mem) (kc ks : Nat), P10 kc ks → Wo C G 9 (QP C G rvI 1 4) (k10 x10_0 x10_1 x10_2 x10_3 x10_4 x10_5 σ) σ kc ks 10 [(0, va_rf x10_0), (1, .int x10_1), (2, .int x10_2), (3, va_rf x10_3), (4, .int x10_4), (5, .int x10_5)] []) : ∀ (n : Nat) (x43_0 : (Option Nat)) (x43_1 : Int32) (x43_2 : Int32) (x43_3 : (Option Nat)) (x43_4 : Int32) (x43_5 : Int32) (x43_6 : Int32) (x43_7 : Int32) (x43_8 : Int32) (σ : Mem) (kc ks : Nat), (∀ m, n = m + 1 → (kc + m * 0 + 0 ≤ 1 ∧ ks + m * 0 + 0 ≤ 4) ∧ P10 (kc + m * 0 + 0) (ks + m * 0 + 0)) → Wo C G 9 (QP C G rvI 1 4) (l_L_isSound_43 k10 n x43_0 x43_1 x43_2 x43_3 x43_4 x43_5 x43_6 x43_7 x43_8 σ) σ kc ks 43 [(0, va_rf x43_0), (1, .int x43_1), (2, .int x43_2), (3, va_rf x43_3), (4, .int x43_4), (5, .int x43_5), (6, .int x43_6), (7, .int x43_7), (8, .int x43_8)] [] := by
  intro n
  induction n with
  | zero => intro x43_0 x43_1 x43_2 x43_3 x43_4 x43_5 x43_6 x43_7 x43_8 σ kc ks h0; exact Wo.none
  | succ n ih =>
    intro x43_0 x43_1 x43_2 x43_3 x43_4 x43_5 x43_6 x43_7 x43_8 σ kc ks h0
    exact t_L_isSound_43 hC P10 hm10 k10 hk10 (fun kc ks => (∀ m, n = m + 1 → (kc + m * 0 + 0 ≤ 1 ∧ ks + m * 0 + 0 ≤ 4) ∧ P10 (kc + m * 0 + 0) (ks + m * 0 + 0))) (fun a b a2 b2 h1 h2 h m e => ⟨⟨by have := (h m e).1.1; omega, by have := (h m e).1.2; omega⟩, hm10 _ _ _ _ (by omega) (by omega) (h m e).2⟩) (l_L_isSound_43 k10 n) ih x43_0 x43_1 x43_2 x43_3 x43_4 x43_5 x43_6 x43_7 x43_8 σ kc ks ⟨by have := (h0 n rfl).1.1; omega, by have := (h0 n rfl).1.2; omega⟩ (hm10 _ _ _ _ (by omega) (by omega) (h0 n rfl).2) (fun m e => by
      subst e
      exact ⟨⟨by have := (h0 _ rfl).1.1; omega, by have := (h0 _ rfl).1.2; omega⟩, hm10 _ _ _ _ (by omega) (by omega) (h0 _ rfl).2⟩)

set_option maxRecDepth 100000 in
set_option maxHeartbeats 4000000 in
theorem t_L_isSound_10 {C : Cxt} {G : Glb} (hC : CX C G RL cL_isSound 9 (some .boolean) 3 1 4 65) (P10 : Nat → Nat → Prop) (hm10 : ∀ a b a2 b2 : Nat, a ≤ a2 → b ≤ b2 → P10 a2 b2 → P10 a b) (k10 : (Option Nat) → Int32 → Int32 → (Option Nat) → Int32 → Int32 → Mem → Option ((Int32) × Mem)) (hk10 : ∀ (x10_0 : (Option Nat)) (x10_1 : Int32) (x10_2 : Int32) (x10_3 : (Option Nat)) (x10_4 : Int32) (x10_5 : Int32) (σ : Mem) (kc ks : Nat), P10 kc ks → Wo C G 9 (QP C G rvI 1 4) (k10 x10_0 x10_1 x10_2 x10_3 x10_4 x10_5 σ) σ kc ks 10 [(0, va_rf x10_0), (1, .int x10_1), (2, .int x10_2), (3, va_rf x10_3), (4, .int x10_4), (5, .int x10_5)] []) (x10_0 : (Option Nat)) (x10_1 : Int32) (x10_2 : Int32) (x10_3 : (Option Nat)) (x10_4 : Int32) (x10_5 : Int32) (σ : Mem) (kc ks : Nat) (hN : kc + 0 ≤ 1 ∧ ks + 0 ≤ 4) (hP10 : P10 (kc + 0) (ks + 0)) : Wo C G 9 (QP C G rvI 1 4) (b_L_isSound_10 k10 x10_0 x10_1 x10_2 x10_3 x10_4 x10_5 σ) σ kc ks 10 [(0, va_rf x10_0), (1, .int x10_1), (2, .int x10_2), (3, va_rf x10_3), (4, .int x10_4), (5, .int x10_5)] [] := by
  unfold b_L_isSound_10
  refine r_iload hC 5 rfl dL_isSound_10 ?_
  refine r_aloadn hC 0 (r := x10_0) rfl rfl dL_isSound_12 ?_
  refine r_iconst hC (2) rfl dL_isSound_13 ?_
  refine call_V hC (av := [.int 2]) (st := [.int x10_5]) (r := x10_0) (ci := 4) rfl rfl (fun h9 => ct_X4_many hC.hl G h9 2 σ) q_394 q_395 q_396 q_13 q_397 yd_X4_many rfl ⟨Nat.le_of_ble_eq_true rfl, Nat.le_of_ble_eq_true rfl⟩ ⟨by omega, by omega⟩ rfl (by simp [cat_rf, cat_i, cat_j, cat_d, cat_a]) dL_isSound_14 (fun v3 σ4 => ?_)
  show Wo _ _ _ _ _ _ _ _ _ _ [.int v3, .int x10_5]
  refine r_icmp_ge hC 192 dL_isSound_17 (by decide) ?_ ?_
  · refine r_iconst hC (0) rfl dL_isSound_192 ?_
    refine r_istore hC [(5, .int 0), (0, va_rf x10_0), (1, .int x10_1), (2, .int x10_2), (3, va_rf x10_3), (4, .int x10_4)] (i := 5) (by decide) rfl dL_isSound_193 ?_
    refine r_iconst hC (0) rfl dL_isSound_195 ?_
    refine r_istore hC [(6, .int 0), (5, .int 0), (0, va_rf x10_0), (1, .int x10_1), (2, .int x10_2), (3, va_rf x10_3), (4, .int x10_4)] (i := 6) (by decide) rfl dL_isSound_196 ?_
    refine Wo.sub [2, 4, 5, 6, 1, 0] rfl ?_
    exact u_L_isSound_198 hC 40 x10_0 x10_2 x10_3 x10_4 0 0 σ4 _ _ (fun m e => by cases e; exact ⟨by omega, by omega⟩)
  · refine r_aloadn hC 0 (r := x10_0) rfl rfl dL_isSound_20 ?_
    refine r_iload hC 5 rfl dL_isSound_21 ?_
    refine r_iconst hC (0) rfl dL_isSound_23 ?_
    refine call_V hC (av := [.int x10_5, .int 0]) (st := []) (r := x10_0) (ci := 4) rfl rfl (fun h9 => ct_X4_ofLot hC.hl G h9 x10_5 0 σ4) q_385 q_386 q_387 q_13 q_388 yd_X4_ofLot rfl ⟨Nat.le_of_ble_eq_true rfl, Nat.le_of_ble_eq_true rfl⟩ ⟨by omega, by omega⟩ rfl (Nat.le_of_ble_eq_true rfl) dL_isSound_24 (fun v38 σ39 => ?_)
    show Wo _ _ _ _ _ _ _ _ _ _ [.int v38]
    refine r_istore hC [(6, .int v38), (0, va_rf x10_0), (1, .int x10_1), (2, .int x10_2), (3, va_rf x10_3), (4, .int x10_4), (5, .int x10_5)] (i := 6) (by decide) rfl dL_isSound_27 ?_
    refine r_aloadn hC 4 (r := x10_3) rfl rfl dL_isSound_29 ?_
    refine r_iload hC 0 rfl dL_isSound_30 ?_
    refine r_dup2 hC rfl (cat_rf _) dL_isSound_32 ?_
    refine r_aI hC (r := x10_3) dL_isSound_33 (fun v41 => ?_)
    refine r_iconst hC (1) rfl dL_isSound_34 ?_
    refine r_iadd hC dL_isSound_35 (fun v42 => ?_)
    refine r_wI hC (r := x10_3) dL_isSound_36 (fun σ43 => ?_)
    refine r_iconst hC (0) rfl dL_isSound_37 ?_
    refine r_istore hC [(7, .int 0), (6, .int v38), (0, va_rf x10_0), (1, .int x10_1), (2, .int x10_2), (3, va_rf x10_3), (4, .int x10_4), (5, .int x10_5)] (i := 7) (by decide) rfl dL_isSound_38 ?_
    refine r_iconst hC (0) rfl dL_isSound_40 ?_
    refine r_istore hC [(8, .int 0), (7, .int 0), (6, .int v38), (0, va_rf x10_0), (1, .int x10_1), (2, .int x10_2), (3, va_rf x10_3), (4, .int x10_4), (5, .int x10_5)] (i := 8) (by decide) rfl dL_isSound_41 ?_
    refine Wo.sub [3, 4, 5, 6, 7, 8, 2, 1, 0] rfl ?_
    exact u_L_isSound_43 hC P10 hm10 k10 hk10 40 x10_0 x10_1 x10_2 x10_3 x10_4 x10_5 v38 0 0 σ43 _ _ (fun m e => by cases e; exact ⟨⟨by omega, by omega⟩, hm10 _ _ _ _ (by omega) (by omega) hP10⟩)

set_option maxRecDepth 100000 in
set_option maxHeartbeats 4000000 in
theorem u_L_isSound_10 {C : Cxt} {G : Glb} (hC : CX C G RL cL_isSound 9 (some .boolean) 3 1 4 65) : ∀ (n : Nat) (x10_0 : (Option Nat)) (x10_1 : Int32) (x10_2 : Int32) (x10_3 : (Option Nat)) (x10_4 : Int32) (x10_5 : Int32) (σ : Mem) (kc ks : Nat), (∀ m, n = m + 1 → (kc + m * 0 + 0 ≤ 1 ∧ ks + m * 0 + 0 ≤ 4)) → Wo C G 9 (QP C G rvI 1 4) (l_L_isSound_10  n x10_0 x10_1 x10_2 x10_3 x10_4 x10_5 σ) σ kc ks 10 [(0, va_rf x10_0), (1, .int x10_1), (2, .int x10_2), (3, va_rf x10_3), (4, .int x10_4), (5, .int x10_5)] [] := by
  intro n
  induction n with
  | zero => intro x10_0 x10_1 x10_2 x10_3 x10_4 x10_5 σ kc ks h0; exact Wo.none
  | succ n ih =>
    intro x10_0 x10_1 x10_2 x10_3 x10_4 x10_5 σ kc ks h0
    exact t_L_isSound_10 hC (fun kc ks => (∀ m, n = m + 1 → (kc + m * 0 + 0 ≤ 1 ∧ ks + m * 0 + 0 ≤ 4))) (fun a b a2 b2 h1 h2 h m e => ⟨by have := (h m e).1; omega, by have := (h m e).2; omega⟩) (l_L_isSound_10  n) ih x10_0 x10_1 x10_2 x10_3 x10_4 x10_5 σ kc ks ⟨by have := (h0 n rfl).1; omega, by have := (h0 n rfl).2; omega⟩ (fun m e => by
      subst e
      exact ⟨by have := (h0 _ rfl).1; omega, by have := (h0 _ rfl).2; omega⟩)

set_option maxRecDepth 100000 in
set_option maxHeartbeats 4000000 in
theorem t_L_isSound_0 {C : Cxt} {G : Glb} (hC : CX C G RL cL_isSound 9 (some .boolean) 3 1 4 65) (p0 : (Option Nat)) (p1 : Int32) (p2 : Int32) (σ : Mem) (kc ks : Nat) (hN : kc + 1 ≤ 1 ∧ ks + 4 ≤ 4) : Wo C G 9 (QP C G rvI 1 4) (b_L_isSound_0  p0 p1 p2 σ) σ kc ks 0 [(0, va_rf p0), (1, .int p1), (2, .int p2)] [] := by
  unfold b_L_isSound_0
  refine r_iconst hC (4) rfl dL_isSound_0 ?_
  refine r_nA hC (t := 0) (b := 4) (ty := .int) rfl rfl rfl (fun _ h => va_nm_int h) q_63 (Nat.le_of_ble_eq_true rfl) ⟨by omega, by omega⟩ dL_isSound_1 (fun σ1 r2 => ?_)
  refine r_astoren hC [(3, va_rf r2), (0, va_rf p0), (1, .int p1), (2, .int p2)] (r := r2) (i := 3) rfl (by decide) rfl dL_isSound_3 ?_
  refine r_iconst hC (0) rfl dL_isSound_4 ?_
  refine r_istore hC [(4, .int 0), (3, va_rf r2), (0, va_rf p0), (1, .int p1), (2, .int p2)] (i := 4) (by decide) (by simp [List.filter, cat_rf, cat_i, cat_j, cat_d, cat_a]) dL_isSound_5 ?_
  refine r_iconst hC (0) rfl dL_isSound_7 ?_
  refine r_istore hC [(5, .int 0), (4, .int 0), (3, va_rf r2), (0, va_rf p0), (1, .int p1), (2, .int p2)] (i := 5) (by decide) rfl dL_isSound_8 ?_
  refine Wo.sub [3, 4, 5, 2, 1, 0] rfl ?_
  exact u_L_isSound_10 hC 40 p0 p1 p2 r2 0 0 σ1 _ _ (fun m e => by cases e; exact ⟨by omega, by omega⟩)

set_option maxRecDepth 100000 in
set_option maxHeartbeats 4000000 in
theorem ct_L_isSound {l : Launch} (hl : l.stackTraces = false) (G : Glb) (p0 : (Option Nat)) (p1 : Int32) (p2 : Int32) (σ : Mem) : Ct rvI l yL_isSound (Cond.code yL_isSound cL_isSound 9 (some .boolean) :: uW) { frames := 3, cells := 1, slots := 4, locals := 65 } 1 4 G [va_rf p0, .int p1, .int p2] σ (f_L_isSound p0 p1 p2 σ) := by
  refine Ct.of hl (by decide +kernel) (by simp [lg_sl, cat_rf, cat_i, cat_j, cat_d, cat_a]) (fun C hC hin => ?_)
  have e : lv_args 0 [va_rf p0, .int p1, .int p2] = [(0, va_rf p0), (1, .int p1), (2, .int p2)] := by simp [lv_args, cat_rf, cat_i, cat_j, cat_d, cat_a]
  rw [e]
  exact t_L_isSound_0 hC p0 p1 p2 σ 0 0 ⟨Nat.le_of_ble_eq_true rfl, Nat.le_of_ble_eq_true rfl⟩
