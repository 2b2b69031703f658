/-! THE LAW, call by call -/
section LW
variable {φ : Nat → Nat} {T : Nat → Nat × Nat} {I : Nat → Nat → Int32} {R : Nat → Nat → Option Nat} {τ : Mem} {e0 nS nL cS cL n z : Nat} {mx : Nat → Int32} {cB : Nat → Nat} {bl : Nat → List (Nat × Int32)}
variable {mi L9 b9 c : Nat} {xs : Nat → Int32} {σ σ1 : Mem} {x m o : Nat} {r : Int32 × Mem} {a1 a2 a3 a4 : Int32}
theorem isIn_E (σ : Mem) {p a b : Int32} : f_X8_isIn p a b σ = some (if a ≤ p ∧ p ≤ b then 1 else 0, σ) := by
  by_cases h : a ≤ p ∧ p ≤ b
  · rw [m_isIn _ h.1 h.2, if_pos h]
  · rw [m_isInN _ h, if_neg h]
theorem noTas_E (σ : Mem) {p : Int32} : f_X8_isNoTaster p σ = some (if InN p 3 then 0 else 1, σ) := by
  by_cases h : InN p 3
  · rw [m_noTas _ h, if_pos h]
  · rw [m_noTasN _ h, if_neg h]
theorem noBuy_E (σ : Mem) {p : Int32} : f_X8_isNoBuyer p σ = some (if InN p 4 then 0 else 1, σ) := by
  by_cases h : InN p 4
  · rw [m_noBuy _ h, if_pos h]
  · rw [m_noBuyN _ h, if_neg h]
theorem noNote_E (σ : Mem) {p : Int32} : f_X8_isNoNote p σ = some (if 0 ≤ p ∧ p ≤ 9 then 0 else 1, σ) := by
  by_cases h : 0 ≤ p ∧ p ≤ 9
  · rw [m_noNote _ h, if_pos h]
  · rw [m_noNoteN _ h, if_neg h]
theorem noWea_E (σ : Mem) {p q : Int32} : f_X8_isNoWeather p q σ = some (if (0 ≤ p ∧ p ≤ 6) ∧ (0 ≤ q ∧ q ≤ 6) then 0 else 1, σ) := by
  by_cases h : (0 ≤ p ∧ p ≤ 6) ∧ (0 ≤ q ∧ q ≤ 6)
  · rw [m_weather _ h.1 h.2, if_pos h]
  · rw [m_weatherN _ h, if_neg h]
theorem oM_section (h : f_X8_section e0 mi m a1 a2 σ1 = some r) : (mT σ1 m).1 = 10 + 1 := by
  refine Classical.byContradiction (fun hne => ?_)
  have ob0 : ∀ {K : Nat → Option (Int32 × Mem)}, ob 10 σ1 (some m) K = none := fun {K} => ob_no hne
  simp only [f_X8_section, b_X8_section_0, b_X8_section_25, b_X8_section_20, isIn_E, noTas_E, noBuy_E, noNote_E, noWea_E, cl1_s, ob0, ite_self, reduceCtorEq] at h
theorem oM_pass (h : f_X8_pass e0 mi m a1 a2 a3 σ1 = some r) : (mT σ1 m).1 = 10 + 1 := by
  refine Classical.byContradiction (fun hne => ?_)
  have ob0 : ∀ {K : Nat → Option (Int32 × Mem)}, ob 10 σ1 (some m) K = none := fun {K} => ob_no hne
  simp only [f_X8_pass, b_X8_pass_0, b_X8_pass_19, b_X8_pass_24, isIn_E, noTas_E, noBuy_E, noNote_E, noWea_E, cl1_s, ob0, ite_self, reduceCtorEq] at h
theorem oM_prune (h : f_X8_prune m a1 σ1 = some r) : (mT σ1 m).1 = 10 + 1 := by
  rw [f_X8_prune, b_X8_prune_0] at h; exact ob_some h
theorem oM_spray (h : f_X8_spray m a1 σ1 = some r) : (mT σ1 m).1 = 10 + 1 := by
  rw [f_X8_spray, b_X8_spray_0] at h; exact ob_some h
theorem oM_pluck (h : f_X8_pluck e0 mi m a1 a2 a3 σ1 = some r) : (mT σ1 m).1 = 10 + 1 := by
  rw [f_X8_pluck, b_X8_pluck_0] at h; exact ob_some h
theorem oM_join (h : f_X8_join m a1 a2 σ1 = some r) : (mT σ1 m).1 = 10 + 1 := by
  rw [f_X8_join, b_X8_join_0] at h; exact ob_some h
theorem oM_wither (h : f_X8_wither m a1 a2 a3 σ1 = some r) : (mT σ1 m).1 = 10 + 1 := by
  rw [f_X8_wither, b_X8_wither_0] at h; exact ob_some h
theorem oM_kill (h : f_X8_kill m a1 σ1 = some r) : (mT σ1 m).1 = 10 + 1 := by
  rw [f_X8_kill, b_X8_kill_0] at h; exact ob_some h
theorem oM_roll (h : f_X8_roll m a1 a2 σ1 = some r) : (mT σ1 m).1 = 10 + 1 := by
  rw [f_X8_roll, b_X8_roll_0] at h; exact ob_some h
theorem oM_rest (h : f_X8_rest m a1 a2 a3 σ1 = some r) : (mT σ1 m).1 = 10 + 1 := by
  rw [f_X8_rest, b_X8_rest_0] at h; exact ob_some h
theorem oM_fire (h : f_X8_fire m a1 a2 a3 σ1 = some r) : (mT σ1 m).1 = 10 + 1 := by
  rw [f_X8_fire, b_X8_fire_0] at h; exact ob_some h
theorem oM_sort (h : f_X8_sort e0 mi m a1 σ1 = some r) : (mT σ1 m).1 = 10 + 1 := by
  rw [f_X8_sort, b_X8_sort_0] at h; exact ob_some h
theorem oM_mix (h : f_X8_mix e0 mi m a1 a2 a3 a4 σ1 = some r) : (mT σ1 m).1 = 10 + 1 := by
  rw [f_X8_mix, b_X8_mix_0] at h; exact ob_some h
theorem oM_lean (h : f_X8_lean m a1 a2 σ1 = some r) : (mT σ1 m).1 = 10 + 1 := by
  refine Classical.byContradiction (fun hne => ?_)
  have ob0 : ∀ {K : Nat → Option (Int32 × Mem)}, ob 10 σ1 (some m) K = none := fun {K} => ob_no hne
  simp only [f_X8_lean, b_X8_lean_0, b_X8_lean_35, b_X8_lean_28, isIn_E, noTas_E, noBuy_E, noNote_E, noWea_E, cl1_s, ob0, ite_self, reduceCtorEq] at h
theorem oM_repeat (h : f_X8_repeat m a1 a2 σ1 = some r) : (mT σ1 m).1 = 10 + 1 := by
  refine Classical.byContradiction (fun hne => ?_)
  have ob0 : ∀ {K : Nat → Option (Int32 × Mem)}, ob 10 σ1 (some m) K = none := fun {K} => ob_no hne
  simp only [f_X8_repeat, b_X8_repeat_0, b_X8_repeat_16, b_X8_repeat_21, isIn_E, noTas_E, noBuy_E, noNote_E, noWea_E, cl1_s, ob0, ite_self, reduceCtorEq] at h
theorem oM_purse (h : f_X8_purse m a1 a2 σ1 = some r) : (mT σ1 m).1 = 10 + 1 := by
  refine Classical.byContradiction (fun hne => ?_)
  have ob0 : ∀ {K : Nat → Option (Int32 × Mem)}, ob 10 σ1 (some m) K = none := fun {K} => ob_no hne
  simp only [f_X8_purse, b_X8_purse_0, b_X8_purse_36, b_X8_purse_29, isIn_E, noTas_E, noBuy_E, noNote_E, noWea_E, cl1_s, ob0, ite_self, reduceCtorEq] at h
theorem oM_offer (h : f_X8_offer e0 mi m a1 a2 σ1 = some r) : (mT σ1 m).1 = 10 + 1 := by
  rw [f_X8_offer, b_X8_offer_0] at h; exact ob_some h
theorem oM_bid (h : f_X8_bid e0 mi m a1 a2 a3 σ1 = some r) : (mT σ1 m).1 = 10 + 1 := by
  refine Classical.byContradiction (fun hne => ?_)
  have ob0 : ∀ {K : Nat → Option (Int32 × Mem)}, ob 10 σ1 (some m) K = none := fun {K} => ob_no hne
  simp only [f_X8_bid, b_X8_bid_0, b_X8_bid_16, b_X8_bid_21, isIn_E, noTas_E, noBuy_E, noNote_E, noWea_E, cl1_s, ob0, ite_self, reduceCtorEq] at h
theorem oM_knock (h : f_X8_knock e0 mi m a1 σ1 = some r) : (mT σ1 m).1 = 10 + 1 := by
  rw [f_X8_knock, b_X8_knock_0] at h; exact ob_some h
theorem oM_ofSection (h : f_X8_ofSection m a1 a2 σ1 = some r) : (mT σ1 m).1 = 10 + 1 := by
  rw [f_X8_ofSection, b_X8_ofSection_0] at h; exact ob_some h
theorem oM_ofLot (h : f_X8_ofLot m a1 a2 σ1 = some r) : (mT σ1 m).1 = 10 + 1 := by
  rw [f_X8_ofLot, b_X8_ofLot_0] at h; exact ob_some h
theorem oM_note (h : f_X8_note m a1 a2 σ1 = some r) : (mT σ1 m).1 = 10 + 1 := by
  rw [f_X8_note, b_X8_note_0] at h; exact ob_some h
theorem oM_taste (h : f_X8_taste m a1 a2 σ1 = some r) : (mT σ1 m).1 = 10 + 1 := by
  rw [f_X8_taste, b_X8_taste_0] at h; exact ob_some h
theorem oM_ofTaster (h : f_X8_ofTaster m a1 a2 σ1 = some r) : (mT σ1 m).1 = 10 + 1 := by
  refine Classical.byContradiction (fun hne => ?_)
  have ob0 : ∀ {K : Nat → Option (Int32 × Mem)}, ob 10 σ1 (some m) K = none := fun {K} => ob_no hne
  simp only [f_X8_ofTaster, b_X8_ofTaster_0, b_X8_ofTaster_34, b_X8_ofTaster_44, b_X8_ofTaster_27, isIn_E, noTas_E, noBuy_E, noNote_E, noWea_E, cl1_s, ob0, ite_self, reduceCtorEq] at h
theorem oM_bidOf (h : f_X8_bidOf e0 mi m a1 a2 σ1 = some r) : (mT σ1 m).1 = 10 + 1 := by
  refine Classical.byContradiction (fun hne => ?_)
  have ob0 : ∀ {K : Nat → Option (Int32 × Mem)}, ob 10 σ1 (some m) K = none := fun {K} => ob_no hne
  simp only [f_X8_bidOf, b_X8_bidOf_0, b_X8_bidOf_16, b_X8_bidOf_21, isIn_E, noTas_E, noBuy_E, noNote_E, noWea_E, cl1_s, ob0, ite_self, reduceCtorEq] at h
theorem oM_many (h : f_X8_many e0 mi m a1 σ1 = some r) : (mT σ1 m).1 = 10 + 1 := by
  refine Classical.byContradiction (fun hne => ?_)
  have ob0 : ∀ {K : Nat → Option (Int32 × Mem)}, ob 10 σ1 (some m) K = none := fun {K} => ob_no hne
  simp only [f_X8_many, b_X8_many_0, b_X8_many_16, isIn_E, noTas_E, noBuy_E, noNote_E, noWea_E, cl1_s, ob0, ite_self, reduceCtorEq] at h
theorem oM_flushIn (h : f_X8_flushIn m a1 a2 a3 σ1 = some r) : (mT σ1 m).1 = 10 + 1 := by
  rw [f_X8_flushIn, b_X8_flushIn_0] at h; exact ob_some h
theorem oM_bestFire (h : f_X8_bestFire e0 mi m a1 σ1 = some r) : (mT σ1 m).1 = 10 + 1 := by
  rw [f_X8_bestFire, b_X8_bestFire_0] at h; exact ob_some h
theorem oM_bestMix (h : f_X8_bestMix m a1 a2 a3 σ1 = some r) : (mT σ1 m).1 = 10 + 1 := by
  refine Classical.byContradiction (fun hne => ?_)
  have ob0 : ∀ {K : Nat → Option (Int32 × Mem)}, ob 10 σ1 (some m) K = none := fun {K} => ob_no hne
  simp only [f_X8_bestMix, b_X8_bestMix_0, b_X8_bestMix_22, b_X8_bestMix_27, isIn_E, noTas_E, noBuy_E, noNote_E, noWea_E, cl1_s, ob0, ite_self, reduceCtorEq] at h
theorem oM_wouldPay (h : f_X8_wouldPay e0 mi m a1 σ1 = some r) : (mT σ1 m).1 = 10 + 1 := by
  rw [f_X8_wouldPay, b_X8_wouldPay_0] at h; exact ob_some h
theorem sx_i {β : Type} (hL : L9 ≤ 2560) {i : Nat} (h : i < L9) {K : Int32 → Option β} : sX xs L9 (Int32.ofNat i) K = K (xs i) := by
  show (if ix (Int32.ofNat i) L9 then K (xs (Int32.ofNat i).toNatClampNeg) else none) = _
  have e : (Int32.ofNat i).toNatClampNeg = i := tnK (by omega)
  refine (if_pos ⟨kN_nn (by omega), by rw [e]; exact h⟩).trans (by rw [e])
theorem law_step {k23 : Option Nat → Option Nat → Option Nat → Int32 → Mem → Option (Int32 × Mem)} (hL : L9 ≤ 2560) (hc : 5 * c + 5 ≤ L9) (h : Jn e0 x m o c σ) : ∃ σ2, b_L_law_23 e0 mi xs L9 b9 k23 (some x) (some m) (some o) (Int32.ofNat (5 * c)) σ = k23 (some x) (some m) (some o) (Int32.ofNat (5 * c) + 5) σ2 ∧ Jn e0 x m o (c + 1) σ2 := by
  have hn : c < 600 := by omega
  obtain ⟨tx, tm, to'⟩ := h.ts
  have hex : ¬ Int32.ofNat L9 - 5 < Int32.ofNat (5 * c) := by
    rw [Int32.lt_iff_toInt_lt, tSub (by rw [kN_t (by omega)]; show _ ≤ (L9 : Int) - 5; omega) (by rw [kN_t (by omega)]; show (L9 : Int) - 5 < _; omega), kN_t (by omega), kN_t (by omega)]
    show ¬ (L9 : Int) - 5 < _
    omega
  have s0 : ∀ {K : Int32 → Option (Int32 × Mem)}, sX xs L9 (Int32.ofNat (5 * c)) K = K (xs (5 * c)) := fun {K} => sx_i hL (by omega)
  have s1 : ∀ {K : Int32 → Option (Int32 × Mem)}, sX xs L9 (Int32.ofNat (5 * c) + 1) K = K (xs (5 * c + 1)) := fun {K} => by
    rw [show Int32.ofNat (5 * c) + 1 = Int32.ofNat (5 * c + 1) from (Int32.ofNat_add _ _).symm]; exact sx_i hL (by omega)
  have s2 : ∀ {K : Int32 → Option (Int32 × Mem)}, sX xs L9 (Int32.ofNat (5 * c) + 2) K = K (xs (5 * c + 2)) := fun {K} => by
    rw [show Int32.ofNat (5 * c) + 2 = Int32.ofNat (5 * c + 2) from (Int32.ofNat_add _ _).symm]; exact sx_i hL (by omega)
  have s3 : ∀ {K : Int32 → Option (Int32 × Mem)}, sX xs L9 (Int32.ofNat (5 * c) + 3) K = K (xs (5 * c + 3)) := fun {K} => by
    rw [show Int32.ofNat (5 * c) + 3 = Int32.ofNat (5 * c + 3) from (Int32.ofNat_add _ _).symm]; exact sx_i hL (by omega)
  have s4 : ∀ {K : Int32 → Option (Int32 × Mem)}, sX xs L9 (Int32.ofNat (5 * c) + 4) K = K (xs (5 * c + 4)) := fun {K} => by
    rw [show Int32.ofNat (5 * c) + 4 = Int32.ofNat (5 * c + 4) from (Int32.ofNat_add _ _).symm]; exact sx_i hL (by omega)
  rw [b_L_law_23, nm, nm, if_neg hex, s0, nm]
  generalize xs (5 * c) &&& 31 = v
  by_cases h0 : v = 0
  · rw [if_pos h0]
    simp only [nm, s1, s2]
    exact TL_step (B := fun σ => k23 (some x) (some m) (some o) (Int32.ofNat (5 * c) + 5) σ) (M := fun h σ => f_X8_section e0 mi h (xs (5 * c + 1)) (xs (5 * c + 2)) σ) (op_section (mi := mi) (xs (5 * c + 1)) (xs (5 * c + 2)) h) (fun σ1 r hr => oM_section hr)
  rw [if_neg h0]
  by_cases h1 : v = 1
  · rw [if_pos h1]
    simp only [nm, s1, s2, s3]
    exact TL_step (B := fun σ => k23 (some x) (some m) (some o) (Int32.ofNat (5 * c) + 5) σ) (M := fun h σ => f_X8_pass e0 mi h (xs (5 * c + 1)) (xs (5 * c + 2)) (xs (5 * c + 3)) σ) (op_pass (mi := mi) (xs (5 * c + 1)) (xs (5 * c + 2)) (xs (5 * c + 3)) hn h) (fun σ1 r hr => oM_pass hr)
  rw [if_neg h1]
  by_cases h2 : v = 2
  · rw [if_pos h2]
    simp only [nm, s1]
    exact TL_step (B := fun σ => k23 (some x) (some m) (some o) (Int32.ofNat (5 * c) + 5) σ) (M := fun h σ => f_X8_prune h (xs (5 * c + 1)) σ) (op_prune (xs (5 * c + 1)) hn h) (fun σ1 r hr => oM_prune hr)
  rw [if_neg h2]
  by_cases h3 : v = 3
  · rw [if_pos h3]
    simp only [nm, s1]
    exact TL_step (B := fun σ => k23 (some x) (some m) (some o) (Int32.ofNat (5 * c) + 5) σ) (M := fun h σ => f_X8_spray h (xs (5 * c + 1)) σ) (op_spray (xs (5 * c + 1)) hn h) (fun σ1 r hr => oM_spray hr)
  rw [if_neg h3]
  by_cases h4 : v = 4
  · rw [if_pos h4]
    simp only [nm, s1, s2, s3]
    exact TL_step (B := fun σ => k23 (some x) (some m) (some o) (Int32.ofNat (5 * c) + 5) σ) (M := fun h σ => f_X8_pluck e0 mi h (xs (5 * c + 1)) (xs (5 * c + 2)) (xs (5 * c + 3)) σ) (op_pluck (mi := mi) (xs (5 * c + 1)) (xs (5 * c + 2)) (xs (5 * c + 3)) hn h) (fun σ1 r hr => oM_pluck hr)
  rw [if_neg h4]
  by_cases h5 : v = 5
  · rw [if_pos h5]
    simp only [nm, s1, s2]
    exact TL_step (B := fun σ => k23 (some x) (some m) (some o) (Int32.ofNat (5 * c) + 5) σ) (M := fun h σ => f_X8_join h (xs (5 * c + 1)) (xs (5 * c + 2)) σ) (op_join (xs (5 * c + 1)) (xs (5 * c + 2)) h) (fun σ1 r hr => oM_join hr)
  rw [if_neg h5]
  by_cases h6 : v = 6
  · rw [if_pos h6]
    simp only [nm, s1, s2, s3]
    exact TL_step (B := fun σ => k23 (some x) (some m) (some o) (Int32.ofNat (5 * c) + 5) σ) (M := fun h σ => f_X8_wither h (xs (5 * c + 1)) (xs (5 * c + 2)) (xs (5 * c + 3)) σ) (op_wither (xs (5 * c + 1)) (xs (5 * c + 2)) (xs (5 * c + 3)) hn h) (fun σ1 r hr => oM_wither hr)
  rw [if_neg h6]
  by_cases h7 : v = 7
  · rw [if_pos h7]
    simp only [nm, s1]
    exact TL_step (B := fun σ => k23 (some x) (some m) (some o) (Int32.ofNat (5 * c) + 5) σ) (M := fun h σ => f_X8_kill h (xs (5 * c + 1)) σ) (op_kill (xs (5 * c + 1)) hn h) (fun σ1 r hr => oM_kill hr)
  rw [if_neg h7]
  by_cases h8 : v = 8
  · rw [if_pos h8]
    simp only [nm, s1, s2]
    exact TL_step (B := fun σ => k23 (some x) (some m) (some o) (Int32.ofNat (5 * c) + 5) σ) (M := fun h σ => f_X8_roll h (xs (5 * c + 1)) (xs (5 * c + 2)) σ) (op_roll (xs (5 * c + 1)) (xs (5 * c + 2)) hn h) (fun σ1 r hr => oM_roll hr)
  rw [if_neg h8]
  by_cases h9 : v = 9
  · rw [if_pos h9]
    simp only [nm, s1, s2, s3]
    exact TL_step (B := fun σ => k23 (some x) (some m) (some o) (Int32.ofNat (5 * c) + 5) σ) (M := fun h σ => f_X8_rest h (xs (5 * c + 1)) (xs (5 * c + 2)) (xs (5 * c + 3)) σ) (op_rest (xs (5 * c + 1)) (xs (5 * c + 2)) (xs (5 * c + 3)) hn h) (fun σ1 r hr => oM_rest hr)
  rw [if_neg h9]
  by_cases h10 : v = 10
  · rw [if_pos h10]
    simp only [nm, s1, s2, s3]
    exact TL_step (B := fun σ => k23 (some x) (some m) (some o) (Int32.ofNat (5 * c) + 5) σ) (M := fun h σ => f_X8_fire h (xs (5 * c + 1)) (xs (5 * c + 2)) (xs (5 * c + 3)) σ) (op_fire (xs (5 * c + 1)) (xs (5 * c + 2)) (xs (5 * c + 3)) hn h) (fun σ1 r hr => oM_fire hr)
  rw [if_neg h10]
  by_cases h11 : v = 11
  · rw [if_pos h11]
    simp only [nm, s1]
    exact TL_step (B := fun σ => k23 (some x) (some m) (some o) (Int32.ofNat (5 * c) + 5) σ) (M := fun h σ => f_X8_sort e0 mi h (xs (5 * c + 1)) σ) (op_sort (mi := mi) (xs (5 * c + 1)) h) (fun σ1 r hr => oM_sort hr)
  rw [if_neg h11]
  by_cases h12 : v = 12
  · rw [if_pos h12]
    simp only [nm, s1, s2, s3, s4]
    exact TL_step (B := fun σ => k23 (some x) (some m) (some o) (Int32.ofNat (5 * c) + 5) σ) (M := fun h σ => f_X8_mix e0 mi h (xs (5 * c + 1)) (xs (5 * c + 2)) (xs (5 * c + 3)) (xs (5 * c + 4)) σ) (op_mix (mi := mi) (xs (5 * c + 1)) (xs (5 * c + 2)) (xs (5 * c + 3)) (xs (5 * c + 4)) h) (fun σ1 r hr => oM_mix hr)
  rw [if_neg h12]
  by_cases h13 : v = 13
  · rw [if_pos h13]
    simp only [nm, s1, s2]
    exact TL_step (B := fun σ => k23 (some x) (some m) (some o) (Int32.ofNat (5 * c) + 5) σ) (M := fun h σ => f_X8_lean h (xs (5 * c + 1)) (xs (5 * c + 2)) σ) (op_lean (xs (5 * c + 1)) (xs (5 * c + 2)) hn h) (fun σ1 r hr => oM_lean hr)
  rw [if_neg h13]
  by_cases h14 : v = 14
  · rw [if_pos h14]
    simp only [nm, s1, s2]
    exact TL_step (B := fun σ => k23 (some x) (some m) (some o) (Int32.ofNat (5 * c) + 5) σ) (M := fun h σ => f_X8_repeat h (xs (5 * c + 1)) (xs (5 * c + 2)) σ) (op_repeat (xs (5 * c + 1)) (xs (5 * c + 2)) hn h) (fun σ1 r hr => oM_repeat hr)
  rw [if_neg h14]
  by_cases h15 : v = 15
  · rw [if_pos h15]
    simp only [nm, s1, s2]
    exact TL_step (B := fun σ => k23 (some x) (some m) (some o) (Int32.ofNat (5 * c) + 5) σ) (M := fun h σ => f_X8_purse h (xs (5 * c + 1)) (xs (5 * c + 2)) σ) (op_purse (xs (5 * c + 1)) (xs (5 * c + 2)) hn h) (fun σ1 r hr => oM_purse hr)
  rw [if_neg h15]
  by_cases h16 : v = 16
  · rw [if_pos h16]
    simp only [nm, s1, s2]
    exact TL_step (B := fun σ => k23 (some x) (some m) (some o) (Int32.ofNat (5 * c) + 5) σ) (M := fun h σ => f_X8_offer e0 mi h (xs (5 * c + 1)) (xs (5 * c + 2)) σ) (op_offer (mi := mi) (xs (5 * c + 1)) (xs (5 * c + 2)) h) (fun σ1 r hr => oM_offer hr)
  rw [if_neg h16]
  by_cases h17 : v = 17
  · rw [if_pos h17]
    simp only [nm, s1, s2, s3]
    exact TL_step (B := fun σ => k23 (some x) (some m) (some o) (Int32.ofNat (5 * c) + 5) σ) (M := fun h σ => f_X8_bid e0 mi h (xs (5 * c + 1)) (xs (5 * c + 2)) (xs (5 * c + 3)) σ) (op_bid (mi := mi) (xs (5 * c + 1)) (xs (5 * c + 2)) (xs (5 * c + 3)) hn h) (fun σ1 r hr => oM_bid hr)
  rw [if_neg h17]
  by_cases h18 : v = 18
  · rw [if_pos h18]
    simp only [nm, s1]
    exact TL_step (B := fun σ => k23 (some x) (some m) (some o) (Int32.ofNat (5 * c) + 5) σ) (M := fun h σ => f_X8_knock e0 mi h (xs (5 * c + 1)) σ) (op_knock (mi := mi) (xs (5 * c + 1)) h) (fun σ1 r hr => oM_knock hr)
  rw [if_neg h18]
  by_cases h19 : v = 19
  · rw [if_pos h19]
    simp only [nm, s1, s2]
    exact TL_step (B := fun σ => k23 (some x) (some m) (some o) (Int32.ofNat (5 * c) + 5) σ) (M := fun h σ => f_X8_ofSection h (xs (5 * c + 1)) (xs (5 * c + 2)) σ) (op_ofSection (xs (5 * c + 1)) (xs (5 * c + 2)) hn h) (fun σ1 r hr => oM_ofSection hr)
  rw [if_neg h19]
  by_cases h20 : v = 20
  · rw [if_pos h20]
    simp only [nm, s1, s2]
    exact TL_step (B := fun σ => k23 (some x) (some m) (some o) (Int32.ofNat (5 * c) + 5) σ) (M := fun h σ => f_X8_ofLot h (xs (5 * c + 1)) (xs (5 * c + 2)) σ) (op_ofLot (xs (5 * c + 1)) (xs (5 * c + 2)) hn h) (fun σ1 r hr => oM_ofLot hr)
  rw [if_neg h20]
  by_cases h21 : v = 21
  · rw [if_pos h21]
    simp only [nm, s1, s2]
    exact TL_step (B := fun σ => k23 (some x) (some m) (some o) (Int32.ofNat (5 * c) + 5) σ) (M := fun h σ => f_X8_note h (xs (5 * c + 1)) (xs (5 * c + 2)) σ) (op_note (xs (5 * c + 1)) (xs (5 * c + 2)) h) (fun σ1 r hr => oM_note hr)
  rw [if_neg h21]
  by_cases h22 : v = 22
  · rw [if_pos h22]
    simp only [nm, s1, s2]
    exact TL_step (B := fun σ => k23 (some x) (some m) (some o) (Int32.ofNat (5 * c) + 5) σ) (M := fun h σ => f_X8_taste h (xs (5 * c + 1)) (xs (5 * c + 2)) σ) (op_taste (xs (5 * c + 1)) (xs (5 * c + 2)) hn h) (fun σ1 r hr => oM_taste hr)
  rw [if_neg h22]
  by_cases h23 : v = 23
  · rw [if_pos h23]
    simp only [nm, s1, s2]
    exact TL_step (B := fun σ => k23 (some x) (some m) (some o) (Int32.ofNat (5 * c) + 5) σ) (M := fun h σ => f_X8_ofTaster h (xs (5 * c + 1)) (xs (5 * c + 2)) σ) (op_ofTaster (xs (5 * c + 1)) (xs (5 * c + 2)) hn h) (fun σ1 r hr => oM_ofTaster hr)
  rw [if_neg h23]
  by_cases h24 : v = 24
  · rw [if_pos h24]
    simp only [nm, s1, s2]
    exact TL_step (B := fun σ => k23 (some x) (some m) (some o) (Int32.ofNat (5 * c) + 5) σ) (M := fun h σ => f_X8_bidOf e0 mi h (xs (5 * c + 1)) (xs (5 * c + 2)) σ) (op_bidOf (mi := mi) (xs (5 * c + 1)) (xs (5 * c + 2)) h) (fun σ1 r hr => oM_bidOf hr)
  rw [if_neg h24]
  by_cases h25 : v = 25
  · rw [if_pos h25]
    simp only [nm, s1]
    exact TL_step (B := fun σ => k23 (some x) (some m) (some o) (Int32.ofNat (5 * c) + 5) σ) (M := fun h σ => f_X8_many e0 mi h (xs (5 * c + 1)) σ) (op_many (mi := mi) (xs (5 * c + 1)) h) (fun σ1 r hr => oM_many hr)
  rw [if_neg h25]
  by_cases h26 : v = 26
  · obtain ⟨u, σ2, e1, e2, e3⟩ := h.mean (mi := mi)
    refine ⟨σ2, ?_, e3⟩
    rw [if_pos h26, ob_yes (by rw [tx]), e1, cl1_s, ob_yes (by rw [tm]), e2, cl1_s, nm, nm, nm]
    by_cases z : Op.cmpValue (FP.dcmp u u) .l = 0
    · rw [if_pos z]; rfl
    · rw [if_neg z, if_neg z, if_neg z]; rfl
  rw [if_neg h26]
  by_cases h27 : v = 27
  · rw [if_pos h27]
    simp only [nm, s1, s2, s3]
    exact TL_step (B := fun σ => k23 (some x) (some m) (some o) (Int32.ofNat (5 * c) + 5) σ) (M := fun h σ => f_X8_flushIn h (xs (5 * c + 1)) (xs (5 * c + 2)) (xs (5 * c + 3)) σ) (op_flushIn (xs (5 * c + 1)) (xs (5 * c + 2)) (xs (5 * c + 3)) hn h) (fun σ1 r hr => oM_flushIn hr)
  rw [if_neg h27]
  by_cases h28 : v = 28
  · rw [if_pos h28]
    simp only [nm, s1]
    exact TL_step (B := fun σ => k23 (some x) (some m) (some o) (Int32.ofNat (5 * c) + 5) σ) (M := fun h σ => f_X8_bestFire e0 mi h (xs (5 * c + 1)) σ) (op_bestFire (mi := mi) (xs (5 * c + 1)) h) (fun σ1 r hr => oM_bestFire hr)
  rw [if_neg h28]
  by_cases h29 : v = 29
  · rw [if_pos h29]
    simp only [nm, s1, s2, s3]
    exact TL_step (B := fun σ => k23 (some x) (some m) (some o) (Int32.ofNat (5 * c) + 5) σ) (M := fun h σ => f_X8_bestMix h (xs (5 * c + 1)) (xs (5 * c + 2)) (xs (5 * c + 3)) σ) (op_bestMix (xs (5 * c + 1)) (xs (5 * c + 2)) (xs (5 * c + 3)) h) (fun σ1 r hr => oM_bestMix hr)
  rw [if_neg h29]
  by_cases h30 : v = 30
  · rw [if_pos h30]
    simp only [nm, s1]
    exact TL_step (B := fun σ => k23 (some x) (some m) (some o) (Int32.ofNat (5 * c) + 5) σ) (M := fun h σ => f_X8_wouldPay e0 mi h (xs (5 * c + 1)) σ) (op_wouldPay (mi := mi) (xs (5 * c + 1)) h) (fun σ1 r hr => oM_wouldPay hr)
  rw [if_neg h30]
  by_cases h31 : v = 31
  · obtain ⟨u, σ1, σ2, e1, e2, e3, e4⟩ := h.dig (mi := mi) hn
    refine ⟨σ2, ?_, e4⟩
    rw [if_pos h31, ob_yes (by rw [tx]), e1, cx1_s, ob_yes e3, e2, cl1_s, nm, lg_self, if_pos rfl]; rfl
  rw [if_neg h31]
  exact ⟨σ, rfl, h.next⟩
theorem law_loop (hL : L9 ≤ 2560) : ∀ d c fl σ, 5 * c + 5 * d ≤ L9 → L9 < 5 * c + 5 * d + 5 → d + 1 ≤ fl → Jn e0 x m o c σ → ∃ σ2, l_L_law_23 e0 mi xs L9 b9 fl (some x) (some m) (some o) (Int32.ofNat (5 * c)) σ = some (1, σ2) := by
  intro d
  induction d with
  | zero =>
    intro c fl σ h1 h2 h3 h
    obtain ⟨fl', rfl⟩ : ∃ x, fl = x + 1 := ⟨fl - 1, by omega⟩
    have hex : Int32.ofNat L9 - 5 < Int32.ofNat (5 * c) := by
      rw [Int32.lt_iff_toInt_lt, tSub (by rw [kN_t (by omega)]; show _ ≤ (L9 : Int) - 5; omega) (by rw [kN_t (by omega)]; show (L9 : Int) - 5 < _; omega), kN_t (by omega), kN_t (by omega)]
      show (L9 : Int) - 5 < _
      omega
    refine ⟨σ, ?_⟩
    rw [l_L_law_23, itr_succ, b_L_law_23, nm, nm, if_pos hex]
  | succ d ih =>
    intro c fl σ h1 h2 h3 h
    obtain ⟨fl', rfl⟩ : ∃ x, fl = x + 1 := ⟨fl - 1, by omega⟩
    obtain ⟨σ2, e1, e2⟩ := law_step (mi := mi) (xs := xs) (b9 := b9) (k23 := l_L_law_23 e0 mi xs L9 b9 fl') hL (show 5 * c + 5 ≤ L9 by omega) h
    obtain ⟨σ3, e3⟩ := ih (c + 1) fl' σ2 (by omega) (by omega) (by omega) e2
    refine ⟨σ3, ?_⟩
    rw [l_L_law_23, itr_succ]
    refine Eq.trans e1 ?_
    rw [show Int32.ofNat (5 * c) + 5 = Int32.ofNat (5 * (c + 1)) from (Int32.ofNat_add _ _).symm]
    exact e3
end LW
