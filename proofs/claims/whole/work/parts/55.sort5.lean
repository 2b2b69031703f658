/-! SORT, the call -/
section S8
variable {φ : Nat → Nat} {T : Nat → Nat × Nat} {I : Nat → Nat → Int32} {R : Nat → Nat → Option Nat} {τ : Mem} {e0 nS nL cS cL n z : Nat} {mx : Nat → Int32} {cB : Nat → Nat} {bl : Nat → List (Nat × Int32)}
variable {mi a b w q g k i j t c : Nat} {J J' JX : Nat → Nat → Int32} {p r d : Int32} {x y u : Nat → Int32} {τ1 : Mem}
theorem sumZ_add {F : Nat → Int} {f : Nat → Int32} (h0 : ∀ g, g < 3 → 0 ≤ (f g).toInt) (hF : ∀ g, g < 3 → ¬ f g ≤ 0 → F (nL + cN f g) = (f g).toInt) : ∀ G, G ≤ 3 → sumZ F (nL + cN f G) = sumZ F nL + sumZ (fun g => (f g).toInt) G := by
  have z0 : (0 : Int32).toInt = 0 := rfl
  intro G
  induction G with
  | zero => intro _; simp [cN, sumZ]
  | succ G ih =>
    intro hG
    have IH := ih (by omega)
    rw [cN]
    by_cases c : f G ≤ 0
    · have e := leT c
      have e2 := h0 G (by omega)
      rw [if_pos c, IH]
      show _ = _ + (sumZ (fun g => (f g).toInt) G + (f G).toInt)
      omega
    · rw [if_neg c, show nL + (cN f G + 1) = nL + cN f G + 1 by omega]
      show sumZ F (nL + cN f G) + F (nL + cN f G) = _ + (sumZ (fun g => (f g).toInt) G + (f G).toInt)
      rw [IH, hF G (by omega) c]; omega
theorem op_sort {x m o : Nat} {σ : Mem} (p : Int32) (h : Jn e0 x m o n σ) : Agr e0 x m o n (f_L_sort (some x) p (some o) σ) (fun σ => f_X8_sort e0 mi m p σ) := by
  obtain ⟨φ, T, I, R, τ, nS, nL, cS, cL, mx, cB, bl, rfl, ⟨rfl, rfl, rfl⟩, h⟩ := h
  have h : Cx φ T I R (mZ τ) e0 nS nL cS cL mx cB bl n := h
  have hj := h.hj
  have h0 := h.m.1
  have hx0 := h.m.2.2.2.2.2.2.2
  have h132 := h.m.2.2.2.2.2.2.1
  have hN := h.m.2.2.2.2.1
  have hS := h.m.2.2.2.2.2.1
  have h' : Cx φ T I R (mZ (sB τ)) e0 nS nL cS cL mx cB bl n := h.up (Nat.le_succ _)
  by_cases hp : InN p nL
  · obtain ⟨i, hi⟩ : ∃ i, p.toNatClampNeg = i := ⟨_, rfl⟩
    have iL : i < nL := hi ▸ (idx h.m.2.2.2.2.1 hp.1 hp.2).2.2.2.2
    by_cases hc : sortOK I i
    · have XG := x_sortG h hp hi iL hc
      have LR := h.lr iL
      obtain ⟨⟨c1, c2⟩, c3, c4⟩ := id hc
      have z0 : (0 : Int32).toInt = 0 := rfl
      obtain ⟨⟨E0, E2, E3, E4, E5, E6, E7, E8, E9, E10, E11, E12, E13⟩, ⟨u0, u1, u2, u3⟩, ⟨D1, D2, D3, D4, D5, D6⟩, qD, ⟨qE1, qE2, qE3⟩, qF, qG, qH, qK⟩ := id LR
      have rz : I (6 * i + 22) 0 = 0 := Int32.toInt_inj.mp (by have := leT c2; rw [z0] at this ⊢; have := qH.1; omega)
      have bn : bl i = [] := Classical.byContradiction (fun y => qH.2.2.2 y rz)
      have dn := h.dn iL
      obtain ⟨f, hf⟩ : ∃ f, f = dgF I i := ⟨_, rfl⟩
      have bb := bq_b (v := I (6 * i + 19) 5) qG.1
      have DB := dG_b (b := bq (I (6 * i + 19) 5)) (u := I (6 * i + 20)) bb (by rw [u0]; exact D2) (by rw [u1]; exact D3) (by rw [u2]; exact D4) (by rw [u3]; exact D5) (by rw [u0, u1, u2, u3]; omega)
      have fnn : ∀ g, g < 3 → 0 ≤ (f g).toInt := fun g hg => by
        obtain ⟨y1, y2, y3, y4, y5⟩ := DB.1 g hg
        rw [hf]; show 0 ≤ (dG _ _ g).toInt; omega
      have fsum : (f 0).toInt + (f 1).toInt + (f 2).toInt = (I (6 * i + 19) 1).toInt := by
        rw [hf]
        show (dG _ _ 0).toInt + (dG _ _ 1).toInt + (dG _ _ 2).toInt = _
        rw [DB.2, u0, u1, u2, u3, D6]
      have dpos := qF.2.1 (by rw [c1]; decide)
      have c3' := cN_le f 3
      have cnt1 : 1 ≤ cN f 3 := by
        refine Classical.byContradiction (fun y => ?_)
        have np : ∀ g, g < 3 → f g ≤ 0 := fun g hg => Classical.byContradiction (fun y2 => y (by have := cN_lt (g' := 3) hg y2; omega))
        have := leT (np 0 (by decide))
        have := leT (np 1 (by decide))
        have := leT (np 2 (by decide))
        omega
      rw [← hf] at XG
      by_cases c16 : nL + cN f 3 ≤ 16
      · rw [if_neg (by omega), b_X4_sort_81, x_st1, cx1_s] at XG
        obtain ⟨J3, JX, X1, ⟨X2, X3, X4, X5⟩, V1, V2, V3, V4, V5⟩ := x_sortM (p := Int32.ofNat (cN f 3)) h iL (by rw [← hf]; exact c16) 3 0 I 40 (by omega) (by omega) ⟨h.2.2.2.2.1.1.2, fun _ _ => rfl, fun _ _ _ => rfl, fun g' hg' => absurd hg' (Nat.not_lt_zero _)⟩
        rw [← hf] at X2 X4 X5
        have XG2 : f_X4_sort (φ 0) p (pt φ T I R τ) = some (.inl (Int32.ofNat (cN f 3)), pt φ T JX R τ) := XG.trans X1
        have low : ∀ g, g < 3 → ¬ f g ≤ 0 → nL ≤ nL + cN f g ∧ nL + cN f g < nL + cN f 3 := fun g hg hp => ⟨by omega, by have := cN_lt (g' := 3) hg hp; omega⟩
        have JXk : ∀ v, v ≠ 0 → v ≠ 6 * i + 19 → v ≠ 6 * i + 20 → (∀ j, nL ≤ j → j < nL + cN f 3 → v ≠ 6 * j + 19 ∧ v ≠ 6 * j + 20) → JX v = I v := fun v y0 y1 y2 y3 => by
          rw [V1 v y1 y2]
          exact X4 v y0 (fun g' hg' hp' => y3 _ (low g' hg' hp').1 (low g' hg' hp').2)
        have JXb : ∀ v, 125 ≤ v → JX v = I v := fun v hv => JXk v (by omega) (by omega) (by omega) (fun j y1 y2 => ⟨by omega, by omega⟩)
        obtain ⟨τs, hτs⟩ : ∃ τs, τs = sJ τ (φ 132) 0 (Int32.ofNat (cN f 3)).toInt64 := ⟨_, rfl⟩
        have zs : mZ τs = mZ τ := by rw [hτs]; rfl
        obtain ⟨φ2, T2, J2, R2, τ2, c2', e1, e2, e3, e4, e5⟩ := m_sortG (mi := mi) (τ1 := τs) h JXb (by rw [zs]; exact Nat.le_refl _) hp hi iL hc
        rw [← hf] at e1 e4
        rw [if_pos c16] at e1
        obtain ⟨φ3, T3, J4, R4, τ3, c3x, m1, m2, m3, m4, m5, m6, ⟨p0, p124, p132⟩, m7, m8, m9, m10, m11, m12⟩ := m_sortE (mi := mi) h JXb iL bn e2 e3 e4 c16 cnt1
        have KK := KJ.trans e5 m6
        have f124 : J4 124 0 = 0 := by rw [m7 124 (by omega) (by omega) (by omega) (by omega) (by omega) (by omega), up2_at]
        have fX : ∀ v, v < 10 * nL + 150 → v ≠ 134 → v ≠ 126 → v ≠ 124 → v ≠ 10 * i + 150 → v ≠ 10 * i + 151 → v ≠ 10 * i + 153 → J4 v = JX v := fun v y1 y2 y3 y4 y5 y6 y7 => by rw [m7 v y1 y2 y3 y5 y6 y7, up2_row y4]
        have fI : ∀ v, v < 10 * nL + 150 → v ≠ 134 → v ≠ 126 → v ≠ 124 → v ≠ 10 * i + 150 → v ≠ 10 * i + 151 → v ≠ 10 * i + 153 → v ≠ 0 → v ≠ 6 * i + 19 → v ≠ 6 * i + 20 → (∀ j, nL ≤ j → j < nL + cN f 3 → v ≠ 6 * j + 19 ∧ v ≠ 6 * j + 20) → J4 v = I v := fun v y1 y2 y3 y4 y5 y6 y7 y8 y9 y10 y11 => by rw [fX v y1 y2 y3 y4 y5 y6 y7, JXk v y8 y9 y10 y11]
        have g124 : ∀ k, k ≠ 0 → J4 124 k = I 124 k := fun k hk => by
          rw [m7 124 (by omega) (by omega) (by omega) (by omega) (by omega) (by omega), up2_k hk, JXk 124 (by omega) (by omega) (by omega) (fun j y1 y2 => ⟨by omega, by omega⟩)]
        have f0 : ∀ k, J4 0 k = JX 0 k := fun k => by rw [fX 0 (by omega) (by omega) (by omega) (by omega) (by omega) (by omega) (by omega)]
        have x04 : JX 0 4 = Int32.ofNat (nL + cN f 3) := by rw [V1 0 (by omega) (by omega)]; exact X2
        have x0k : ∀ k, k ≠ 4 → JX 0 k = I 0 k := fun k hk => by rw [V1 0 (by omega) (by omega)]; exact X3 k hk
        obtain ⟨⟨⟨g1, g2⟩, ⟨g3, g4, g5, g6, g7⟩, g8, g9, g10⟩, r1, r2, r3, r4, r5, r6⟩ := h.2.2.2.2
        have newx : ∀ g, g < 3 → ¬ f g ≤ 0 → (∀ k, k ≤ 11 → J4 (6 * (nL + cN f g) + 19) k = xG (I (6 * i + 19)) (I (6 * i + 20)) g k) ∧ J4 (6 * (nL + cN f g) + 19) 12 = 0 ∧ (∀ k, k < 4 → J4 (6 * (nL + cN f g) + 20) k = shV (bq (I (6 * i + 19) 5)) (I (6 * i + 20) k) g) := fun g hg hp' => by
          have y := low g hg hp'
          rw [fX (6 * (nL + cN f g) + 19) (by omega) (by omega) (by omega) (by omega) (by omega) (by omega) (by omega), fX (6 * (nL + cN f g) + 20) (by omega) (by omega) (by omega) (by omega) (by omega) (by omega) (by omega), V1 _ (by omega) (by omega), V1 _ (by omega) (by omega)]
          exact X5 g hg hp'
        have rel : Rel J4 nS (nL + cN f 3) (fun k => if k < nL then mx k else 0) (fun k => if k < nL then bl k else []) (n + 1) := by
          refine ⟨⟨⟨?_, ?_⟩, ⟨?_, ?_, ?_, ?_, ?_⟩, ?_, ?_, ?_⟩, fun l hl => ?_, fun l y1 y2 => ?_, fun l hl => ?_, fun l y1 y2 => ?_, fun l hl => ?_, ?_⟩
          · rw [f0, x0k 1 (by decide)]; exact g1
          · rw [f0]; exact x04
          · rw [f0, x0k 2 (by decide), g124 1 (by decide)]; exact g3
          · rw [f0, x0k 8 (by decide), g124 2 (by decide)]; exact g4
          · rw [f0, x0k 9 (by decide), g124 3 (by decide)]; exact g5
          · rw [f0, x0k 11 (by decide), g124 4 (by decide)]; exact g6
          · rw [f0, x0k 10 (by decide), g124 5 (by decide)]; exact g7
          · rw [fI 10 (by omega) (by omega) (by omega) (by omega) (by omega) (by omega) (by omega) (by omega) (by omega) (by omega) (fun j y1 y2 => ⟨by omega, by omega⟩), fI 128 (by omega) (by omega) (by omega) (by omega) (by omega) (by omega) (by omega) (by omega) (by omega) (by omega) (fun j y1 y2 => ⟨by omega, by omega⟩)]; exact g8
          · rw [fI 115 (by omega) (by omega) (by omega) (by omega) (by omega) (by omega) (by omega) (by omega) (by omega) (by omega) (fun j y1 y2 => ⟨by omega, by omega⟩)]; exact g9
          · rw [fI 115 (by omega) (by omega) (by omega) (by omega) (by omega) (by omega) (by omega) (by omega) (by omega) (by omega) (fun j y1 y2 => ⟨by omega, by omega⟩)]; exact g10
          · have hl' : l < nL + cN f 3 := hl
            have a21 : J4 (6 * l + 21) = I (6 * l + 21) := fI _ (by omega) (by omega) (by omega) (by omega) (by omega) (by omega) (by omega) (by omega) (by omega) (by omega) (fun j y1 y2 => ⟨by omega, by omega⟩)
            have a22 : J4 (6 * l + 22) = I (6 * l + 22) := fI _ (by omega) (by omega) (by omega) (by omega) (by omega) (by omega) (by omega) (by omega) (by omega) (by omega) (fun j y1 y2 => ⟨by omega, by omega⟩)
            have a23 : J4 (6 * l + 23) = I (6 * l + 23) := fI _ (by omega) (by omega) (by omega) (by omega) (by omega) (by omega) (by omega) (by omega) (by omega) (by omega) (fun j y1 y2 => ⟨by omega, by omega⟩)
            have a24 : J4 (6 * l + 24) = I (6 * l + 24) := fI _ (by omega) (by omega) (by omega) (by omega) (by omega) (by omega) (by omega) (by omega) (by omega) (by omega) (fun j y1 y2 => ⟨by omega, by omega⟩)
            by_cases lN : l < nL
            · simp only [if_pos lN]
              by_cases li : l = i
              · subst li
                rw [bn] at LR ⊢
                rw [a21, a22, a23, a24, fI (10 * l + 152) (by omega) (by omega) (by omega) (by omega) (by omega) (by omega) (by omega) (by omega) (by omega) (by omega) (fun j y1 y2 => ⟨by omega, by omega⟩)]
                have b19 : J4 (6 * l + 19) = JX (6 * l + 19) := fX _ (by omega) (by omega) (by omega) (by omega) (by omega) (by omega) (by omega)
                have b20 : J4 (6 * l + 20) = JX (6 * l + 20) := fX _ (by omega) (by omega) (by omega) (by omega) (by omega) (by omega) (by omega)
                have b19I : J3 (6 * l + 19) = I (6 * l + 19) := X4 _ (by omega) (fun g' hg' hp' => by have := low g' hg' hp'; exact ⟨by omega, by omega⟩)
                rw [b19, b20]
                exact LR.gone V2 V3 (fun k k0 k1 => by rw [V4 k k0 k1, b19I]) m8 m9 m10 V5 m11 rz (fun _ _ => rfl) (fun k hk => qK.2.2.1 k hk (by rw [bn]; intro e he; simp at he))
              · rw [fI (6 * l + 19) (by omega) (by omega) (by omega) (by omega) (by omega) (by omega) (by omega) (by omega) (by omega) (by omega) (fun j y1 y2 => ⟨by omega, by omega⟩), fI (6 * l + 20) (by omega) (by omega) (by omega) (by omega) (by omega) (by omega) (by omega) (by omega) (by omega) (by omega) (fun j y1 y2 => ⟨by omega, by omega⟩), a21, a22, a23, a24, fI (10 * l + 150) (by omega) (by omega) (by omega) (by omega) (by omega) (by omega) (by omega) (by omega) (by omega) (by omega) (fun j y1 y2 => ⟨by omega, by omega⟩), fI (10 * l + 151) (by omega) (by omega) (by omega) (by omega) (by omega) (by omega) (by omega) (by omega) (by omega) (by omega) (fun j y1 y2 => ⟨by omega, by omega⟩), fI (10 * l + 152) (by omega) (by omega) (by omega) (by omega) (by omega) (by omega) (by omega) (by omega) (by omega) (by omega) (fun j y1 y2 => ⟨by omega, by omega⟩)]
                exact (r1 l lN).mono (by omega)
            · simp only [if_neg lN]
              obtain ⟨g, z1, z2, z3⟩ := cN_ex 3 (l - nL) (by omega : l - nL < cN f 3)
              have N1 := newx g z1 z2
              have N2 := m12 g z1 z2
              rw [z3, show nL + (l - nL) = l by omega] at N1 N2
              obtain ⟨-, -, -, -, -, -, -, -, M1, M2, M3⟩ := N2
              obtain ⟨bB1, bB2, bB3, bB4, bB5, bB6⟩ := r2 l (by omega) (by omega)
              rw [a21, a22, a23, a24]
              exact LotR.grade LR c1 dn.2 z1 (by rw [hf] at z2; exact z2) N1.1 N1.2.1 N1.2.2 M1 M2 M3 bB4 bB5 bB6
          · rw [fI (6 * l + 19) (by omega) (by omega) (by omega) (by omega) (by omega) (by omega) (by omega) (by omega) (by omega) (by omega) (fun j y1 y2 => ⟨by omega, by omega⟩), fI (6 * l + 20) (by omega) (by omega) (by omega) (by omega) (by omega) (by omega) (by omega) (by omega) (by omega) (by omega) (fun j y1 y2 => ⟨by omega, by omega⟩), fI (6 * l + 21) (by omega) (by omega) (by omega) (by omega) (by omega) (by omega) (by omega) (by omega) (by omega) (by omega) (fun j y1 y2 => ⟨by omega, by omega⟩), fI (6 * l + 22) (by omega) (by omega) (by omega) (by omega) (by omega) (by omega) (by omega) (by omega) (by omega) (by omega) (fun j y1 y2 => ⟨by omega, by omega⟩), fI (6 * l + 23) (by omega) (by omega) (by omega) (by omega) (by omega) (by omega) (by omega) (by omega) (by omega) (by omega) (fun j y1 y2 => ⟨by omega, by omega⟩)]
            exact r2 l (by omega) y2
          · have hl' : l < nS := hl
            rw [fI (2 * l + 11) (by omega) (by omega) (by omega) (by omega) (by omega) (by omega) (by omega) (by omega) (by omega) (by omega) (fun j y1 y2 => ⟨by omega, by omega⟩), fI (2 * l + 12) (by omega) (by omega) (by omega) (by omega) (by omega) (by omega) (by omega) (by omega) (by omega) (by omega) (fun j y1 y2 => ⟨by omega, by omega⟩), fI (2 * l + 135) (by omega) (by omega) (by omega) (by omega) (by omega) (by omega) (by omega) (by omega) (by omega) (by omega) (fun j y1 y2 => ⟨by omega, by omega⟩), fI (2 * l + 136) (by omega) (by omega) (by omega) (by omega) (by omega) (by omega) (by omega) (by omega) (by omega) (by omega) (fun j y1 y2 => ⟨by omega, by omega⟩)]
            exact (r3 l hl).mono (by omega)
          · rw [fI (2 * l + 11) (by omega) (by omega) (by omega) (by omega) (by omega) (by omega) (by omega) (by omega) (by omega) (by omega) (fun j y1 y2 => ⟨by omega, by omega⟩), fI (2 * l + 12) (by omega) (by omega) (by omega) (by omega) (by omega) (by omega) (by omega) (by omega) (by omega) (by omega) (fun j y1 y2 => ⟨by omega, by omega⟩)]
            exact r4 l y1 y2
          · rw [fI (l + 3) (by omega) (by omega) (by omega) (by omega) (by omega) (by omega) (by omega) (by omega) (by omega) (by omega) (fun j y1 y2 => ⟨by omega, by omega⟩), fI (l + 129) (by omega) (by omega) (by omega) (by omega) (by omega) (by omega) (by omega) (by omega) (by omega) (by omega) (fun j y1 y2 => ⟨by omega, by omega⟩)]
            exact (r5 l hl).mono (by omega)
          · show sumZ (fun k => (J4 (6 * k + 19) 1).toInt) (nL + cN f 3) ≤ _
            have S1 := sumZ_add (nL := nL) (F := fun k => (J4 (6 * k + 19) 1).toInt) fnn (fun g hg hp' => by
              show (J4 (6 * (nL + cN f g) + 19) 1).toInt = _
              rw [(newx g hg hp').1 1 (by decide), hf]; rfl) 3 (by omega)
            have S2 : sumZ (fun k => (J4 (6 * k + 19) 1).toInt) nL = sumZ (fun k => if k = i then 0 else (I (6 * k + 19) 1).toInt) nL := sumZ_congr (fun k hk => by
              show (J4 (6 * k + 19) 1).toInt = _
              by_cases y : k = i
              · subst y
                rw [if_pos rfl, fX (6 * k + 19) (by omega) (by omega) (by omega) (by omega) (by omega) (by omega) (by omega), V3]; rfl
              · rw [if_neg y, fI (6 * k + 19) (by omega) (by omega) (by omega) (by omega) (by omega) (by omega) (by omega) (by omega) (by omega) (by omega) (fun j y1 y2 => ⟨by omega, by omega⟩)])
            have S3 := sumZ_at (f := fun k => (I (6 * k + 19) 1).toInt) iL
            have S4 : sumZ (fun g => (f g).toInt) 3 = (f 0).toInt + (f 1).toInt + (f 2).toInt := by simp only [sumZ]; omega
            have r6' : sumZ (fun k => (I (6 * k + 19) 1).toInt) nL ≤ 360 * nL := r6
            have S3' : sumZ (fun k => (I (6 * k + 19) 1).toInt) nL = sumZ (fun k => if k = i then 0 else (I (6 * k + 19) 1).toInt) nL + (I (6 * i + 19) 1).toInt := S3
            rw [S1, S2, S4, fsum]
            omega
        have F := Agr.fin (X := f_L_sort (some (φ 0)) p (some (φ 132)) (pt φ T I R τ)) (M := fun σ => f_X8_sort e0 mi (φ 124) p σ) (b := Int32.ofNat (cN f 3)) (σ1 := pt φ T JX R τs) (⟨m2, m3, m4, m5, rel⟩ : Cx φ3 T3 J4 R4 (mZ τ3) e0 nS (nL + cN f 3) cS c3x _ _ _ (n + 1)) (by
          rw [hτs]
          simp (config := {decide := true}) only [f_L_sort, b_L_sort_0, XG2, gI_pt hj, gR_pt hj, ob_pt hj, ck_pt hj, pI_pt hj, pB_pt hj, pR_pt hj, aI_pt hj, aR_pt hj, wI_pt hj, wJ_pt hj, aL_pt hj, cl1_s, cl1_n, cl1_i, cx1_s, cx1_x, cx1_n, cx1_i, nul_n, nul_s, nm, dv2, dv3, dv4, dv5, dv8, dv10, dv20, dv40, thr, bo, mI_pt hj, mT_pt hj, sB_pt, mZ_pt, mJ_pt, mJ_sJ, mZ_sJ, tn0, tn1, tn2, tn3, tn4, tn5, tn6, hx0, h132, ii0, ii1, ii2, ii3, ii4, if_true, if_false, ne_eq, not_false_eq_true, not_true_eq_false, true_and, and_true, false_and, and_false, and_self, true_or, or_true, false_or, or_false, or_self, Nat.reduceAdd, Nat.reduceLT, Nat.reduceLeDiff, Nat.succ_ne_zero, reduceIte, reduceCtorEq]) (e1.trans m1) f124 (by
          rw [p132, KK.2 _ (by rw [zs]; exact h.out), hτs]; exact sJ_at)
        rw [p0, p124, p132] at F
        exact F
      · -- no room
        rw [if_pos (by omega), b_X4_sort_81, x_st0, cx1_x] at XG
        obtain ⟨φ2, T2, J2, R2, τ2, c2', e1, e2, e3, e4, e5⟩ := m_sortG (mi := mi) (JX := I) (τ1 := sB τ) h (fun _ _ => rfl) (Nat.le_succ _) hp hi iL hc
        rw [← hf] at e1 e4
        rw [if_neg c16] at e1
        obtain ⟨V, -⟩ := e4
        obtain ⟨a1, a2, a3, a4⟩ := V 124 (by omega)
        have z124 : J2 124 0 = 0 := by rw [a3, up2_at]
        have JJ : ∀ v, v < 10 * nL + 150 → v ≠ 124 → up2 J2 124 0 2 v = I v := fun v y1 y2 => by rw [up2_row y2, (V v y1).2.2.1, up2_row y2]
        have J124 : ∀ k, 1 ≤ k → k < 6 → up2 J2 124 0 2 124 k = I 124 k := fun k y1 y2 => by rw [up2_k (by omega), a3, up2_k (by omega)]
        have hC : Cx φ2 T2 (up2 J2 124 0 2) R2 (mZ τ2) e0 nS nL cS cL mx cB bl (n + 1) := by
          refine ⟨e2, e3, h.2.2.1.frame (fun v hv => (V v (by omega)).1) (fun v hv => (V v (by omega)).2.1) (fun v hv => (V v (by omega)).2.2.2), SM.same h.2.2.2.1 (fun v hv => (V v hv).1) (fun v hv => (V v hv).2.1) (fun v hv => (V v hv).2.2.2) (fun v y1 y2 => JJ v y1 (by omega)), ?_⟩
          obtain ⟨⟨⟨g1, g2⟩, ⟨g3, g4, g5, g6, g7⟩, g8, g9, g10⟩, r1, r2, r3, r4, r5, r6⟩ := h.2.2.2.2
          refine ⟨⟨⟨?_, ?_⟩, ⟨?_, ?_, ?_, ?_, ?_⟩, ?_, ?_, ?_⟩, fun l hl => ?_, fun l y1 y2 => ?_, fun l hl => ?_, fun l y1 y2 => ?_, fun l hl => ?_, ?_⟩
          · rw [JJ 0 (by omega) (by omega)]; exact g1
          · rw [JJ 0 (by omega) (by omega)]; exact g2
          · rw [JJ 0 (by omega) (by omega), J124 1 (by omega) (by omega)]; exact g3
          · rw [JJ 0 (by omega) (by omega), J124 2 (by omega) (by omega)]; exact g4
          · rw [JJ 0 (by omega) (by omega), J124 3 (by omega) (by omega)]; exact g5
          · rw [JJ 0 (by omega) (by omega), J124 4 (by omega) (by omega)]; exact g6
          · rw [JJ 0 (by omega) (by omega), J124 5 (by omega) (by omega)]; exact g7
          · rw [JJ 10 (by omega) (by omega), JJ 128 (by omega) (by omega)]; exact g8
          · rw [JJ 115 (by omega) (by omega)]; exact g9
          · rw [JJ 115 (by omega) (by omega)]; exact g10
          · have hl' : l < nL := hl
            rw [JJ (6 * l + 19) (by omega) (by omega), JJ (6 * l + 20) (by omega) (by omega), JJ (6 * l + 21) (by omega) (by omega), JJ (6 * l + 22) (by omega) (by omega), JJ (6 * l + 23) (by omega) (by omega), JJ (6 * l + 24) (by omega) (by omega), JJ (10 * l + 150) (by omega) (by omega), JJ (10 * l + 151) (by omega) (by omega), JJ (10 * l + 152) (by omega) (by omega)]
            exact (r1 l hl).mono (by omega)
          · rw [JJ (6 * l + 19) (by omega) (by omega), JJ (6 * l + 20) (by omega) (by omega), JJ (6 * l + 21) (by omega) (by omega), JJ (6 * l + 22) (by omega) (by omega), JJ (6 * l + 23) (by omega) (by omega)]
            exact r2 l y1 y2
          · have hl' : l < nS := hl
            rw [JJ (2 * l + 11) (by omega) (by omega), JJ (2 * l + 12) (by omega) (by omega), JJ (2 * l + 135) (by omega) (by omega), JJ (2 * l + 136) (by omega) (by omega)]
            exact (r3 l hl).mono (by omega)
          · rw [JJ (2 * l + 11) (by omega) (by omega), JJ (2 * l + 12) (by omega) (by omega)]
            exact r4 l y1 y2
          · rw [JJ (l + 3) (by omega) (by omega), JJ (l + 129) (by omega) (by omega)]
            exact (r5 l hl).mono (by omega)
          · unfold SumR
            rw [sumZ_congr (g := fun i => (I (6 * i + 19) 1).toInt)]
            · exact r6
            · intro k hk; simp only [JJ (6 * k + 19) (by omega) (by omega)]
        have p0 := (V 0 (by omega)).1
        have p132 := (V 132 (by omega)).1
        have JN := hC.jn
        rw [p0, a1, p132] at JN
        refine Agr.of (k := 2) (b := 0) (σ1 := pt φ T I R (sB τ)) (σ2 := pt φ2 T2 (up2 J2 124 0 2) R2 τ2) ?_ (e1.trans ?_) JN ?_ (fun y => absurd y (by decide))
        · have XG' : f_X4_sort (φ 0) p (pt φ T I R τ) = some (.inr 2, pt φ T I R (sB τ)) := XG
          simp (config := {decide := true}) only [f_L_sort, b_L_sort_0, XG', gI_pt hj, gR_pt hj, ob_pt hj, ck_pt hj, pI_pt hj, pB_pt hj, pR_pt hj, aI_pt hj, aR_pt hj, wI_pt hj, wJ_pt hj, aL_pt hj, cl1_s, cl1_n, cl1_i, cx1_s, cx1_x, cx1_n, cx1_i, nul_n, nul_s, nm, dv2, dv3, dv4, dv5, dv8, dv10, dv20, dv40, thr, bo, mI_pt hj, mT_pt hj, sB_pt, mZ_pt, mJ_pt, mJ_sJ, mZ_sJ, tn0, tn1, tn2, tn3, tn4, tn5, tn6, hx0, ii0, ii1, ii2, ii3, ii4, if_true, if_false, ne_eq, not_false_eq_true, not_true_eq_false, true_and, and_true, false_and, and_false, and_self, true_or, or_true, false_or, or_false, or_self, Nat.reduceAdd, Nat.reduceLT, Nat.reduceLeDiff, Nat.succ_ne_zero, reduceIte, reduceCtorEq]
        · rw [b_X8_sort_100, ob_pt e2 (by rw [a2, h0]), m_refJ1 e2 (by rw [a2, h0]) z124 (by decide), cl1_s, if_neg (by decide)]
        · rw [← a1, mI_pt e2 (by rw [a2, h0]; decide)]; exact up2_at
    · refine Agr.bad (k := 2) (b := 0) h (by decide) ?_ ?_
      · simp (config := {decide := true}) only [f_L_sort, b_L_sort_0, x_sortN h hp hi iL hc, gI_pt hj, gR_pt hj, ob_pt hj, ck_pt hj, pI_pt hj, pB_pt hj, pR_pt hj, aI_pt hj, aR_pt hj, wI_pt hj, wJ_pt hj, aL_pt hj, cl1_s, cl1_n, cl1_i, cx1_s, cx1_x, cx1_n, cx1_i, nul_n, nul_s, nm, dv2, dv3, dv4, dv5, dv8, dv10, dv20, dv40, thr, bo, mI_pt hj, mT_pt hj, sB_pt, mZ_pt, mJ_pt, mJ_sJ, mZ_sJ, tn0, tn1, tn2, tn3, tn4, tn5, tn6, hx0, ii0, ii1, ii2, ii3, ii4, if_true, if_false, ne_eq, not_false_eq_true, not_true_eq_false, true_and, and_true, false_and, and_false, and_self, true_or, or_true, false_or, or_false, or_self, Nat.reduceAdd, Nat.reduceLT, Nat.reduceLeDiff, Nat.succ_ne_zero, reduceIte, reduceCtorEq]
      · exact m_sortN h hp hi iL hc (Nat.le_succ _)
  · refine Agr.bad (k := 1) (b := 0) h (by decide) ?_ ?_
    · simp (config := {decide := true}) only [f_L_sort, b_L_sort_0, f_X4_sort, b_X4_sort_0, x_lotAtN h hp, gI_pt hj, gR_pt hj, ob_pt hj, ck_pt hj, pI_pt hj, pB_pt hj, pR_pt hj, aI_pt hj, aR_pt hj, wI_pt hj, wJ_pt hj, aL_pt hj, cl1_s, cl1_n, cl1_i, cx1_s, cx1_x, cx1_n, cx1_i, nul_n, nul_s, nm, dv2, dv3, dv4, dv5, dv8, dv10, dv20, dv40, thr, bo, mI_pt hj, mT_pt hj, sB_pt, mZ_pt, mJ_pt, mJ_sJ, mZ_sJ, tn0, tn1, tn2, tn3, tn4, tn5, tn6, hx0, ii0, ii1, ii2, ii3, ii4, if_true, if_false, ne_eq, not_false_eq_true, not_true_eq_false, true_and, and_true, false_and, and_false, and_self, true_or, or_true, false_or, or_false, or_self, Nat.reduceAdd, Nat.reduceLT, Nat.reduceLeDiff, Nat.succ_ne_zero, reduceIte, reduceCtorEq]
    · simp (config := {decide := true}) only [f_X8_sort, b_X8_sort_0, m_noLotN h' hp, m_start1 hj h0 (show ¬ (1 : Int32) ≤ 0 by decide), gI_pt hj, gR_pt hj, ob_pt hj, ck_pt hj, pI_pt hj, pB_pt hj, pR_pt hj, aI_pt hj, aR_pt hj, wI_pt hj, wJ_pt hj, aL_pt hj, cl1_s, cl1_n, cl1_i, cx1_s, cx1_x, cx1_n, cx1_i, nul_n, nul_s, nm, dv2, dv3, dv4, dv5, dv8, dv10, dv20, dv40, thr, bo, mI_pt hj, mT_pt hj, sB_pt, mZ_pt, mJ_pt, mJ_sJ, mZ_sJ, tn0, tn1, tn2, tn3, tn4, tn5, tn6, h0, ii0, ii1, ii2, ii3, ii4, if_true, if_false, ne_eq, not_false_eq_true, not_true_eq_false, true_and, and_true, false_and, and_false, and_self, true_or, or_true, false_or, or_false, or_self, Nat.reduceAdd, Nat.reduceLT, Nat.reduceLeDiff, Nat.succ_ne_zero, reduceIte, reduceCtorEq]
end S8
