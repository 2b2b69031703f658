noncomputable def b_X4_heldNote_0 (p0 : Int32) (σ : Mem) : Option ((Int32) × Mem) :=
nm (if p0 < 9 then p0 else 9) fun v1 =>
nm (if 0 < v1 then v1 else 0) fun v2 =>
some (v2, σ)

noncomputable def f_X4_heldNote (p0 : Int32) (σ : Mem) : Option ((Int32) × Mem) := b_X4_heldNote_0 p0 σ
set_option maxRecDepth 100000 in
set_option maxHeartbeats 4000000 in
theorem t_X4_heldNote_0 {C : Cxt} {G : Glb} (hC : CX C G RX4 cX4_heldNote 1 (some .int) 1 0 0 14) (p0 : Int32) (σ : Mem) : Wo C G 1 (QP C G rvI 0 0) (b_X4_heldNote_0  p0 σ) σ 0 0 0 [(0, .int p0)] [] := by
  unfold b_X4_heldNote_0
  refine r_iconst hC (0) rfl dX4_heldNote_0 ?_
  refine r_bipush hC (9) (by decide) dX4_heldNote_1 ?_
  refine r_iloadn hC 0 rfl rfl dX4_heldNote_3 ?_
  refine r_min hC q_342 q_343 q_24 q_344 (Nat.le_of_ble_eq_true rfl) (by simp [cat_rf, cat_i, cat_j, cat_d, cat_a]) ⟨Nat.zero_le _, Nat.zero_le _⟩ dX4_heldNote_4 (fun v1 => ?_)
  refine r_max hC q_425 q_426 q_24 q_427 (Nat.le_of_ble_eq_true rfl) (Nat.le_of_ble_eq_true rfl) ⟨Nat.zero_le _, Nat.zero_le _⟩ dX4_heldNote_7 (fun v2 => ?_)
  exact e_I hC ⟨Nat.zero_le _, Nat.zero_le _⟩ dX4_heldNote_10

set_option maxRecDepth 100000 in
set_option maxHeartbeats 4000000 in
theorem ct_X4_heldNote {l : Launch} (hl : l.stackTraces = false) (G : Glb) (p0 : Int32) (σ : Mem) : Ct rvI l yX4_heldNote (Cond.code yX4_heldNote cX4_heldNote 1 (some .int) :: uW) { frames := 1, cells := 0, slots := 0, locals := 14 } 0 0 G [.int p0] σ (f_X4_heldNote p0 σ) := by
  refine Ct.of hl (by decide +kernel) (Nat.le_of_ble_eq_true rfl) (fun C hC hin => ?_)
  have e : lv_args 0 [.int p0] = [(0, .int p0)] := rfl
  rw [e]
  exact t_X4_heldNote_0 hC p0 σ
