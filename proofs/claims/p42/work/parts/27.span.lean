/-! ===== LINES of tea and rule, of need, the first ===== -/
set_option maxHeartbeats 4000000 in
theorem R_span19 {σ τ : St} {n k : Nat} (hk : k < 4) (hk1 : gf σ 19 3 = nI k) (hL : LX σ n) (hG : GD σ τ n) (hSZ : SZ σ 15) (hW : WR σ 15 (gr τ 64)) (h10 : gr τ 64 10 = nI 0) : ∃ σ' τ1 τ', f_X6_readSpan 19 σ = some ((), σ') ∧ f_X12_advance τ = some ((), τ1) ∧ f_X12_readBounds ((67 : Int32) + (2 : Int32) * gr τ1 64 (5 : Int32).toNatClampNeg) τ1 = some ((), τ') ∧ gr τ' 64 5 = nI k ∧ DI σ' (sr τ' 64 5 (nI (k + 1))) n ∧ PG σ σ' ∧ Fr RD σ σ' ∧ OF τ (sr τ' 64 5 (nI (k + 1))) := by
  obtain ⟨hH, hT, hE, hA, hU, hY, hS1, hS2, hS3, hC⟩ := hW
  have hF4 : gr τ 64 5 = nI k := by
    obtain ⟨k', b1, b2', b3, -⟩ := hE
    obtain rfl : k = k' := (nI_eq (by omega) (by omega)).mp (hk1.symm.trans b2')
    exact b3
  obtain ⟨σ1, τ1, a1, a2, a3, a4, a5, a6, a6b, a7⟩ := R_begin tb19 hk hk1 hL hG
  have f1 : gr τ1 64 = gr τ 64 := a7.r64
  obtain ⟨X, hX⟩ : ∃ X, X = 67 + 2 * k := ⟨_, rfl⟩
  obtain ⟨r0, σ2, u0, c0_1, c0_2, c0_3, c0_4, c0_6, c0_7, c0_8, c0_9, c0_10, c0_11⟩ := R_col (c := 0) (X := X) tb19 hk (by omega) (by omega) (0 : Int32) (59 : Int32) (by decide) (by decide) a5 a3
  have s2 : gf σ2 19 3 = nI (k + 1) := by rw [(c0_6.1 19 (by decide)).1]; exact a5
  -- the second bound
  have second : ∃ w1 σ3 r1 u1, f_X6_word 16 σ2 = some ((), w1) ∧ f_X9_cell 19 (gf w1 19 3 - 1) (0 : Int32) w1 = some (gr w1 20 (k * 2), w1) ∧ f_X6_cell 19 (1 : Int32) (gr w1 20 (k * 2)) (59 : Int32) w1 = some ((), σ3) ∧ f_X12_told 16 (gr (sr u0 64 X r0) 64 X) (59 : Int32) (sr u0 64 X r0) = some (r1, u1) ∧ RP σ3 (sr u1 64 (X + 1) r1) n ∧ PG σ2 σ3 ∧ Fr [29, 20] σ2 σ3 ∧ OF (sr u0 64 X r0) (sr u1 64 (X + 1) r1) ∧ (∀ j, j ≠ k * 2 + 1 → gr σ3 20 j = gr σ2 20 j) ∧ (∀ j, j ≠ X + 1 → gr (sr u1 64 (X + 1) r1) 64 j = gr (sr u0 64 X r0) 64 j) ∧ (ok σ3 → gr σ3 20 (k * 2 + 1) = gr (sr u1 64 (X + 1) r1) 64 (X + 1) ∧ (gr (sr u0 64 X r0) 64 X).toInt ≤ (gr (sr u1 64 (X + 1) r1) 64 (X + 1)).toInt ∧ (gr (sr u1 64 (X + 1) r1) 64 (X + 1)).toInt ≤ 59) := by
    have getc : ∀ w1 : St, Fr [29] σ2 w1 → f_X9_cell 19 (gf w1 19 3 - 1) (0 : Int32) w1 = some (gr w1 20 (k * 2), w1) := fun w1 hf => by
      have e : gf w1 19 3 = nI (k + 1) := by rw [(hf.1 19 (by decide)).1]; exact s2
      rw [e, nI_pred, show (0 : Int32) = nI 0 from rfl, S_getc tb19 (show k + 1 ≤ 4 by omega) (by omega) (by omega) e]
      rfl
    rcases c0_3.2 with hG2 | hB2
    · obtain ⟨b1, b2', b3⟩ := c0_10 hG2.okM.1
      have z0 : (0 : Int32).toInt = 0 := rfl
      have z59 : (59 : Int32).toInt = 59 := rfl
      obtain ⟨r1, w1, σ3, u1, d0, d1, d2, d3, d4, d5, d6, d7, d8, d9, d10, d11⟩ := R_wcol (c := 1) (X := X + 1) (z := 16) tb19 hk (by omega) (by omega) (by decide) (gr (sr u0 64 X r0) 64 X) (59 : Int32) (by omega) (by decide) s2 c0_3
      have e1 : gr w1 20 (k * 2) = gr (sr u0 64 X r0) 64 X := by
        rw [(d5.1 20 (by decide)).2.1]
        exact b1
      refine ⟨w1, σ3, r1, u1, d0, getc w1 d5, ?_, d2, d3, d4, d6, d7, d8, d9, d10⟩
      rw [e1]
      exact d1
    · obtain ⟨w1, d0, d1, d2, d3⟩ := T_word (z := 16) (by decide) c0_3.1 hB2
      have e1 : gf w1 19 3 = nI (k + 1) := by rw [(d3.1 19 (by decide)).1]; exact s2
      obtain ⟨r, s4, g1, g2, g3, g4, -⟩ := T_num (gr w1 20 (k * 2)) (59 : Int32) d1 d2
      have e2 : gf s4 19 3 = nI (k + 1) := by rw [(g4.1 19 (by decide)).1]; exact e1
      have hF : Fr [20] s4 (sr s4 20 (k * 2 + 1) r) := Fr.c2 (by simp)
      have hR : RP (sr s4 20 (k * 2 + 1) r) (sr (sr u0 64 X r0) 64 (X + 1) 0) n := RP.mv (σ := s4) (τ := sr u0 64 X r0) ⟨g2, Or.inr g3⟩ hF (Fr.c2 (l := [64]) (by simp)) (by decide) (by decide) (by decide) (by decide)
      refine ⟨w1, sr s4 20 (k * 2 + 1) r, 0, sr u0 64 X r0, d0, getc w1 d3, ?_, told_bad _ _ (by decide) hB2.notM, hR, fun o => absurd ((ok.mv hF (by decide)).mp o) g3.not, ((d3.tr g4).mo (by simp)).tr (hF.mo (by simp)), OF.s64, fun j hj => ?_, fun j hj => ?_, fun o => absurd ((ok.mv hF (by decide)).mp o) g3.not⟩
      · unfold f_X6_cell
        rw [tb19.isT w1, gd_tt, g1, bd_mk, e1]
        have := S_set (k := k) (c := 1) tb19 hk (by omega) r e2
        rw [show (1 : Int32) = nI 1 from rfl] at *
        rw [this, bd_mk]
      · rw [gr_sr_s, if_neg hj, (g4.1 20 (by decide)).2.1, (d3.1 20 (by decide)).2.1]
      · rw [gr_sr_s, if_neg hj]
  obtain ⟨w1, σ3, r1, u1, d0, dg, d1, d2, d3, d4, d6, d7, d8, d9, d10⟩ := second
  have s3 : gf σ3 19 3 = nI (k + 1) := by rw [(d6.1 19 (by decide)).1]; exact s2
  obtain ⟨τ3, hτ3⟩ : ∃ τ3, τ3 = sr u1 64 (X + 1) r1 := ⟨_, rfl⟩
  rw [← hτ3] at d3 d7 d9 d10
  have g4 : gr τ3 64 5 = nI k := by rw [d9 5 (by omega), c0_9 5 (by omega), f1]; exact hF4
  have hFr : Fr [29, 19, 20] σ σ3 := ((a6.mo (by simp) : Fr [29, 19, 20] σ σ1).tr (c0_6.mo (by simp))).tr (d6.mo (by simp))
  have hPG : PG σ σ3 := (a4.tr c0_4).tr d4
  have hOF : OF τ (sr τ3 64 5 (nI (k + 1))) := ((a7.of.tr c0_7).tr d7).tr OF.s64
  have hRP : RP σ3 (sr τ3 64 5 (nI (k + 1))) n := RP.mv d3 (Fr.rf (l := [])) (Fr.c2 (l := [64]) (by simp)) (by simp) (by simp) (by simp) (by simp)
  have hO : ∀ j, j ≠ 5 → (j < X ∨ X + 2 ≤ j) → gr (sr τ3 64 5 (nI (k + 1))) 64 j = gr τ 64 j := fun j h1 h2 => by
    rw [gr_sr_s, if_neg h1, d9 j (by omega), c0_9 j (by omega), f1]
  have hOc : ∀ j, (j < k * 2 ∨ k * 2 + 2 ≤ j) → gr σ3 20 j = gr σ 20 j := fun j h1 => by
    rw [d8 j (by omega), c0_8 j (by omega), (a6.1 20 (by decide)).2.1]
  have v1 : ok σ3 → gr σ3 20 (k * 2) = gr τ3 64 X ∧ (0 ≤ (gr τ3 64 X).toInt ∧ (gr τ3 64 X).toInt ≤ 59) ∧ (gr σ3 20 (k * 2 + 1) = gr τ3 64 (X + 1) ∧ 0 ≤ (gr τ3 64 (X + 1)).toInt ∧ (gr τ3 64 (X + 1)).toInt ≤ 59) ∧ (gr τ3 64 X).toInt ≤ (gr τ3 64 (X + 1)).toInt := fun o => by
    obtain ⟨b1, b2', b3⟩ := c0_10 (d4 o).1
    obtain ⟨q1, q2, q3⟩ := d10 o
    have z0 : (0 : Int32).toInt = 0 := rfl
    have z59 : (59 : Int32).toInt = 59 := rfl
    have eX : gr τ3 64 X = gr (sr u0 64 X r0) 64 X := d9 X (by omega)
    rw [eX, d8 (k * 2) (by omega)]
    exact ⟨b1, ⟨by omega, by omega⟩, ⟨q1, by omega, q3⟩, q2⟩
  refine ⟨σ3, τ1, τ3, ?_, a2, ?_, g4, ⟨hRP, ?_, ?_, fun o => ⟨?_, ?_⟩⟩, hPG, hFr.mo (by simp), hOF⟩
  · unfold f_X6_readSpan
    rw [tb19.isT σ, gd_tt, a1, bd_mk, show f_X6_cell 19 (0 : Int32) (0 : Int32) (59 : Int32) σ1 = some ((), σ2) from c0_1, bd_mk, d0, bd_mk, tb19.isT w1, gd_tt, dg, bd_mk, d1, bd_mk]
  · unfold f_X12_readBounds
    have hx : (67 : Int32) + (2 : Int32) * gr τ1 64 (5 : Int32).toNatClampNeg = nI X := by
      have e : gr τ1 64 (5 : Int32).toNatClampNeg = nI k := by
        show gr τ1 64 5 = nI k
        rw [f1]
        exact hF4
      rw [e, hX, show (67 : Int32) = nI 67 from rfl, show (2 : Int32) = nI 2 from rfl, nI_mul, nI_add]
    rw [hx, c0_2, bd_mk, i64 (show X < 240 by omega), gd_tt, bnd_mk, nI_clamp (show X < 2 ^ 31 by omega), gd_tt, d2, bd_mk, nI_1, i64 (show X + 1 < 240 by omega), gd_tt, bnd_mk, nI_clamp (show X + 1 < 2 ^ 31 by omega), hτ3]
  · obtain ⟨z1, z2, z3, z4, z5, z6, z7⟩ := hSZ
    exact ⟨by rw [(hFr.1 15 (by decide)).1]; exact z1, by rw [(hFr.1 17 (by decide)).1]; exact z2, ⟨k + 1, by omega, s3⟩, by rw [(hFr.1 21 (by decide)).1]; exact z4, by rw [(hFr.1 23 (by decide)).1]; exact z5, by rw [(hFr.1 25 (by decide)).1]; exact z6, by rw [(hFr.1 27 (by decide)).1]; exact z7⟩
  · exact ⟨by rw [hO 4 (by omega) (by omega)]; obtain ⟨q, q1, -, q3, -⟩ := hT; exact ⟨q, q1, q3⟩, ⟨k + 1, by omega, by rw [gr_sr_s, if_pos rfl]⟩, by rw [hO 6 (by omega) (by omega)]; obtain ⟨q, q1, -, q3, -⟩ := hA; exact ⟨q, q1, q3⟩, by rw [hO 7 (by omega) (by omega)]; obtain ⟨q, q1, -, q3, -⟩ := hU; exact ⟨q, q1, q3⟩, by rw [hO 8 (by omega) (by omega)]; obtain ⟨q, q1, -, q3, -⟩ := hY; exact ⟨q, q1, q3⟩⟩
  · have hH2 : HD σ3 15 (gr (sr τ3 64 5 (nI (k + 1))) 64) := hH.mv (fun j _ => by rw [(hFr.1 15 (by decide)).1]) (fun j _ => by rw [(hFr.1 16 (by decide)).2.1]) (fun j h1 h4 h5 h6 h7 h8 h9 => hO j (by omega) (by omega))
    have hT2 := hT.mv (σ' := σ3) (F' := gr (sr τ3 64 5 (nI (k + 1))) 64) (by rw [(hFr.1 17 (by decide)).1]) (fun j _ => by rw [(hFr.1 18 (by decide)).2.1]) (hO 4 (by omega) (by omega)) (fun j h1 h2 => hO j (by omega) (by omega))
    have hE2 := hE.ad (σ' := σ3) (F' := gr (sr τ3 64 5 (nI (k + 1))) 64) hk1 hk (by decide) s3 (fun j hj => hOc j (by omega)) (by rw [gr_sr_s, if_pos rfl]) (fun j h1 h2 => hO j (by omega) (by omega)) (fun c hc => ?_)
    have hA2 := hA.mv (σ' := σ3) (F' := gr (sr τ3 64 5 (nI (k + 1))) 64) (by rw [(hFr.1 21 (by decide)).1]) (fun j _ => by rw [(hFr.1 22 (by decide)).2.1]) (hO 6 (by omega) (by omega)) (fun j h1 h2 => hO j (by omega) (by omega))
    have hU2 := hU.mv (σ' := σ3) (F' := gr (sr τ3 64 5 (nI (k + 1))) 64) (by rw [(hFr.1 23 (by decide)).1]) (fun j _ => by rw [(hFr.1 24 (by decide)).2.1]) (hO 7 (by omega) (by omega)) (fun j h1 h2 => hO j (by omega) (by omega))
    have hY2 := hY.mv (σ' := σ3) (F' := gr (sr τ3 64 5 (nI (k + 1))) 64) (by rw [(hFr.1 25 (by decide)).1]) (fun j _ => by rw [(hFr.1 26 (by decide)).2.1]) (hO 8 (by omega) (by omega)) (fun j h1 h2 => hO j (by omega) (by omega))
    · refine ⟨hH2, hT2, hE2, hA2, hU2, hY2, ?_, ?_, ?_, CR.nil h10 hC (by rw [(hFr.1 27 (by decide)).1]) (hO 10 (by omega) (by omega))⟩
      · intro q q1 q2 i hi
        rw [gr_sr_s, if_pos rfl] at q1
        obtain rfl : k + 1 = q := (nI_eq (by omega) (by omega)).mp q1
        by_cases ei : i = k
        · subst ei
          have e1 : gr (sr τ3 64 5 (nI (i + 1))) 64 (67 + 2 * i) = gr τ3 64 X := by rw [← hX, gr_sr_s, if_neg (by omega)]
          have e2 : gr (sr τ3 64 5 (nI (i + 1))) 64 (67 + 2 * i + 1) = gr τ3 64 (X + 1) := by rw [← hX, gr_sr_s, if_neg (by omega)]
          rw [e1, e2]
          exact (v1 o).2.2.2
        · rw [hO _ (by omega) (by omega), hO _ (by omega) (by omega)]
          exact hS1 k hF4 (by omega) i (by omega)
      · intro q q1 q2 i hi
        rw [hO 7 (by omega) (by omega)] at q1
        rw [hO _ (by omega) (by omega), hO _ (by omega) (by omega)]
        exact hS2 q q1 q2 i hi
      · intro q m q1 q2 m1 m2 i hi
        rw [hO 8 (by omega) (by omega)] at q1
        rw [hO 4 (by omega) (by omega)] at m1
        rw [hO _ (by omega) (by omega)]
        exact hS3 q m q1 q2 m1 m2 i hi
    · obtain ⟨w1, w2, w3, w4⟩ := v1 o
      rcases (show c = 0 ∨ c = 1 by omega) with rfl | rfl
      · have e2 : gr (sr τ3 64 5 (nI (k + 1))) 64 (67 + 2 * k + 0) = gr τ3 64 X := by rw [← hX, gr_sr_s, if_neg (by omega)]; rfl
        rw [e2]
        exact ⟨w1, w2.1, w2.2⟩
      · have e2 : gr (sr τ3 64 5 (nI (k + 1))) 64 (67 + 2 * k + 1) = gr τ3 64 (X + 1) := by rw [← hX, gr_sr_s, if_neg (by omega)]
        rw [e2]
        exact w3
  · rw [hO 10 (by omega) (by omega)]
    exact h10
theorem T_span19 {σ τ : St} {n : Nat} (hk1 : gf σ 19 3 = nI 4) (hR : RP σ τ n) (hSZ : SZ σ 15) : ∃ σ' τ', f_X6_readSpan 19 σ = some ((), σ') ∧ f_X12_errs (3 : Int32) τ = some ((), τ') ∧ RP σ' τ' n ∧ ¬ ok σ' ∧ SZ σ' 15 ∧ Fr RD σ σ' ∧ OM τ τ' := by
  obtain ⟨σ1, τ1, a1, a2, a3, a4, a5, a6⟩ := R_over tb19 hk1 hR
  have s1 : gf σ1 19 3 = nI (3 + 1) := by rw [(a5.1 19 (by decide)).1]; exact hk1
  obtain ⟨σ2, c0_1, c0_2, c0_3, c0_4, s2⟩ := T_cell (k := 3) (c := 0) tb19 (by decide) (by decide) (0 : Int32) (59 : Int32) s1 a3 a4
  obtain ⟨w1, d0, d1, d2, d3⟩ := T_word (z := 16) (by decide) c0_2 c0_3
  have e1 : gf w1 19 3 = nI (3 + 1) := by rw [(d3.1 19 (by decide)).1]; exact s2
  have getc : f_X9_cell 19 (gf w1 19 3 - 1) (0 : Int32) w1 = some (gr w1 20 (3 * 2 + 0), w1) := by
    rw [e1, nI_pred, show (0 : Int32) = nI 0 from rfl, S_getc tb19 (show 3 + 1 ≤ 4 by omega) (by omega) (by omega) e1]
  obtain ⟨σ3, g1, g2, g3, g4, s3⟩ := T_cell (k := 3) (c := 1) tb19 (by decide) (by decide) (gr w1 20 (3 * 2 + 0)) (59 : Int32) e1 d1 d2
  have hFr : Fr [29, 20] σ σ3 := (((a5.mo (by simp) : Fr [29, 20] σ σ1).tr c0_4).tr (d3.mo (by simp))).tr g4
  refine ⟨σ3, τ1, ?_, a2, ⟨g2, Or.inr g3⟩, g3.not, hSZ.mv hFr (by decide) (by decide) (by decide) (by decide) (by decide) (by decide) (by decide), hFr.mo (by simp), a6⟩
  unfold f_X6_readSpan
  rw [tb19.isT σ, gd_tt, a1, bd_mk, show f_X6_cell 19 (0 : Int32) (0 : Int32) (59 : Int32) σ1 = some ((), σ2) from c0_1, bd_mk, d0, bd_mk, tb19.isT w1, gd_tt, getc, bd_mk, show f_X6_cell 19 (1 : Int32) (gr w1 20 (3 * 2 + 0)) (59 : Int32) w1 = some ((), σ3) from g1, bd_mk]
set_option maxHeartbeats 4000000 in
theorem R_span23 {σ τ : St} {n k : Nat} (hk : k < 4) (hk1 : gf σ 23 3 = nI k) (hL : LX σ n) (hG : GD σ τ n) (hSZ : SZ σ 15) (hW : WR σ 15 (gr τ 64)) (h10 : gr τ 64 10 = nI 0) : ∃ σ' τ1 τ', f_X6_readSpan 23 σ = some ((), σ') ∧ f_X12_advance τ = some ((), τ1) ∧ f_X12_readBounds ((107 : Int32) + (2 : Int32) * gr τ1 64 (7 : Int32).toNatClampNeg) τ1 = some ((), τ') ∧ gr τ' 64 7 = nI k ∧ DI σ' (sr τ' 64 7 (nI (k + 1))) n ∧ PG σ σ' ∧ Fr RD σ σ' ∧ OF τ (sr τ' 64 7 (nI (k + 1))) := by
  obtain ⟨hH, hT, hE, hA, hU, hY, hS1, hS2, hS3, hC⟩ := hW
  have hF4 : gr τ 64 7 = nI k := by
    obtain ⟨k', b1, b2', b3, -⟩ := hU
    obtain rfl : k = k' := (nI_eq (by omega) (by omega)).mp (hk1.symm.trans b2')
    exact b3
  obtain ⟨σ1, τ1, a1, a2, a3, a4, a5, a6, a6b, a7⟩ := R_begin tb23 hk hk1 hL hG
  have f1 : gr τ1 64 = gr τ 64 := a7.r64
  obtain ⟨X, hX⟩ : ∃ X, X = 107 + 2 * k := ⟨_, rfl⟩
  obtain ⟨r0, σ2, u0, c0_1, c0_2, c0_3, c0_4, c0_6, c0_7, c0_8, c0_9, c0_10, c0_11⟩ := R_col (c := 0) (X := X) tb23 hk (by omega) (by omega) (0 : Int32) (59 : Int32) (by decide) (by decide) a5 a3
  have s2 : gf σ2 23 3 = nI (k + 1) := by rw [(c0_6.1 23 (by decide)).1]; exact a5
  -- the second bound
  have second : ∃ w1 σ3 r1 u1, f_X6_word 16 σ2 = some ((), w1) ∧ f_X9_cell 23 (gf w1 23 3 - 1) (0 : Int32) w1 = some (gr w1 24 (k * 2), w1) ∧ f_X6_cell 23 (1 : Int32) (gr w1 24 (k * 2)) (59 : Int32) w1 = some ((), σ3) ∧ f_X12_told 16 (gr (sr u0 64 X r0) 64 X) (59 : Int32) (sr u0 64 X r0) = some (r1, u1) ∧ RP σ3 (sr u1 64 (X + 1) r1) n ∧ PG σ2 σ3 ∧ Fr [29, 24] σ2 σ3 ∧ OF (sr u0 64 X r0) (sr u1 64 (X + 1) r1) ∧ (∀ j, j ≠ k * 2 + 1 → gr σ3 24 j = gr σ2 24 j) ∧ (∀ j, j ≠ X + 1 → gr (sr u1 64 (X + 1) r1) 64 j = gr (sr u0 64 X r0) 64 j) ∧ (ok σ3 → gr σ3 24 (k * 2 + 1) = gr (sr u1 64 (X + 1) r1) 64 (X + 1) ∧ (gr (sr u0 64 X r0) 64 X).toInt ≤ (gr (sr u1 64 (X + 1) r1) 64 (X + 1)).toInt ∧ (gr (sr u1 64 (X + 1) r1) 64 (X + 1)).toInt ≤ 59) := by
    have getc : ∀ w1 : St, Fr [29] σ2 w1 → f_X9_cell 23 (gf w1 23 3 - 1) (0 : Int32) w1 = some (gr w1 24 (k * 2), w1) := fun w1 hf => by
      have e : gf w1 23 3 = nI (k + 1) := by rw [(hf.1 23 (by decide)).1]; exact s2
      rw [e, nI_pred, show (0 : Int32) = nI 0 from rfl, S_getc tb23 (show k + 1 ≤ 4 by omega) (by omega) (by omega) e]
      rfl
    rcases c0_3.2 with hG2 | hB2
    · obtain ⟨b1, b2', b3⟩ := c0_10 hG2.okM.1
      have z0 : (0 : Int32).toInt = 0 := rfl
      have z59 : (59 : Int32).toInt = 59 := rfl
      obtain ⟨r1, w1, σ3, u1, d0, d1, d2, d3, d4, d5, d6, d7, d8, d9, d10, d11⟩ := R_wcol (c := 1) (X := X + 1) (z := 16) tb23 hk (by omega) (by omega) (by decide) (gr (sr u0 64 X r0) 64 X) (59 : Int32) (by omega) (by decide) s2 c0_3
      have e1 : gr w1 24 (k * 2) = gr (sr u0 64 X r0) 64 X := by
        rw [(d5.1 24 (by decide)).2.1]
        exact b1
      refine ⟨w1, σ3, r1, u1, d0, getc w1 d5, ?_, d2, d3, d4, d6, d7, d8, d9, d10⟩
      rw [e1]
      exact d1
    · obtain ⟨w1, d0, d1, d2, d3⟩ := T_word (z := 16) (by decide) c0_3.1 hB2
      have e1 : gf w1 23 3 = nI (k + 1) := by rw [(d3.1 23 (by decide)).1]; exact s2
      obtain ⟨r, s4, g1, g2, g3, g4, -⟩ := T_num (gr w1 24 (k * 2)) (59 : Int32) d1 d2
      have e2 : gf s4 23 3 = nI (k + 1) := by rw [(g4.1 23 (by decide)).1]; exact e1
      have hF : Fr [24] s4 (sr s4 24 (k * 2 + 1) r) := Fr.c2 (by simp)
      have hR : RP (sr s4 24 (k * 2 + 1) r) (sr (sr u0 64 X r0) 64 (X + 1) 0) n := RP.mv (σ := s4) (τ := sr u0 64 X r0) ⟨g2, Or.inr g3⟩ hF (Fr.c2 (l := [64]) (by simp)) (by decide) (by decide) (by decide) (by decide)
      refine ⟨w1, sr s4 24 (k * 2 + 1) r, 0, sr u0 64 X r0, d0, getc w1 d3, ?_, told_bad _ _ (by decide) hB2.notM, hR, fun o => absurd ((ok.mv hF (by decide)).mp o) g3.not, ((d3.tr g4).mo (by simp)).tr (hF.mo (by simp)), OF.s64, fun j hj => ?_, fun j hj => ?_, fun o => absurd ((ok.mv hF (by decide)).mp o) g3.not⟩
      · unfold f_X6_cell
        rw [tb23.isT w1, gd_tt, g1, bd_mk, e1]
        have := S_set (k := k) (c := 1) tb23 hk (by omega) r e2
        rw [show (1 : Int32) = nI 1 from rfl] at *
        rw [this, bd_mk]
      · rw [gr_sr_s, if_neg hj, (g4.1 24 (by decide)).2.1, (d3.1 24 (by decide)).2.1]
      · rw [gr_sr_s, if_neg hj]
  obtain ⟨w1, σ3, r1, u1, d0, dg, d1, d2, d3, d4, d6, d7, d8, d9, d10⟩ := second
  have s3 : gf σ3 23 3 = nI (k + 1) := by rw [(d6.1 23 (by decide)).1]; exact s2
  obtain ⟨τ3, hτ3⟩ : ∃ τ3, τ3 = sr u1 64 (X + 1) r1 := ⟨_, rfl⟩
  rw [← hτ3] at d3 d7 d9 d10
  have g4 : gr τ3 64 7 = nI k := by rw [d9 7 (by omega), c0_9 7 (by omega), f1]; exact hF4
  have hFr : Fr [29, 23, 24] σ σ3 := ((a6.mo (by simp) : Fr [29, 23, 24] σ σ1).tr (c0_6.mo (by simp))).tr (d6.mo (by simp))
  have hPG : PG σ σ3 := (a4.tr c0_4).tr d4
  have hOF : OF τ (sr τ3 64 7 (nI (k + 1))) := ((a7.of.tr c0_7).tr d7).tr OF.s64
  have hRP : RP σ3 (sr τ3 64 7 (nI (k + 1))) n := RP.mv d3 (Fr.rf (l := [])) (Fr.c2 (l := [64]) (by simp)) (by simp) (by simp) (by simp) (by simp)
  have hO : ∀ j, j ≠ 7 → (j < X ∨ X + 2 ≤ j) → gr (sr τ3 64 7 (nI (k + 1))) 64 j = gr τ 64 j := fun j h1 h2 => by
    rw [gr_sr_s, if_neg h1, d9 j (by omega), c0_9 j (by omega), f1]
  have hOc : ∀ j, (j < k * 2 ∨ k * 2 + 2 ≤ j) → gr σ3 24 j = gr σ 24 j := fun j h1 => by
    rw [d8 j (by omega), c0_8 j (by omega), (a6.1 24 (by decide)).2.1]
  have v1 : ok σ3 → gr σ3 24 (k * 2) = gr τ3 64 X ∧ (0 ≤ (gr τ3 64 X).toInt ∧ (gr τ3 64 X).toInt ≤ 59) ∧ (gr σ3 24 (k * 2 + 1) = gr τ3 64 (X + 1) ∧ 0 ≤ (gr τ3 64 (X + 1)).toInt ∧ (gr τ3 64 (X + 1)).toInt ≤ 59) ∧ (gr τ3 64 X).toInt ≤ (gr τ3 64 (X + 1)).toInt := fun o => by
    obtain ⟨b1, b2', b3⟩ := c0_10 (d4 o).1
    obtain ⟨q1, q2, q3⟩ := d10 o
    have z0 : (0 : Int32).toInt = 0 := rfl
    have z59 : (59 : Int32).toInt = 59 := rfl
    have eX : gr τ3 64 X = gr (sr u0 64 X r0) 64 X := d9 X (by omega)
    rw [eX, d8 (k * 2) (by omega)]
    exact ⟨b1, ⟨by omega, by omega⟩, ⟨q1, by omega, q3⟩, q2⟩
  refine ⟨σ3, τ1, τ3, ?_, a2, ?_, g4, ⟨hRP, ?_, ?_, fun o => ⟨?_, ?_⟩⟩, hPG, hFr.mo (by simp), hOF⟩
  · unfold f_X6_readSpan
    rw [tb23.isT σ, gd_tt, a1, bd_mk, show f_X6_cell 23 (0 : Int32) (0 : Int32) (59 : Int32) σ1 = some ((), σ2) from c0_1, bd_mk, d0, bd_mk, tb23.isT w1, gd_tt, dg, bd_mk, d1, bd_mk]
  · unfold f_X12_readBounds
    have hx : (107 : Int32) + (2 : Int32) * gr τ1 64 (7 : Int32).toNatClampNeg = nI X := by
      have e : gr τ1 64 (7 : Int32).toNatClampNeg = nI k := by
        show gr τ1 64 7 = nI k
        rw [f1]
        exact hF4
      rw [e, hX, show (107 : Int32) = nI 107 from rfl, show (2 : Int32) = nI 2 from rfl, nI_mul, nI_add]
    rw [hx, c0_2, bd_mk, i64 (show X < 240 by omega), gd_tt, bnd_mk, nI_clamp (show X < 2 ^ 31 by omega), gd_tt, d2, bd_mk, nI_1, i64 (show X + 1 < 240 by omega), gd_tt, bnd_mk, nI_clamp (show X + 1 < 2 ^ 31 by omega), hτ3]
  · obtain ⟨z1, z2, z3, z4, z5, z6, z7⟩ := hSZ
    exact ⟨by rw [(hFr.1 15 (by decide)).1]; exact z1, by rw [(hFr.1 17 (by decide)).1]; exact z2, by rw [(hFr.1 19 (by decide)).1]; exact z3, by rw [(hFr.1 21 (by decide)).1]; exact z4, ⟨k + 1, by omega, s3⟩, by rw [(hFr.1 25 (by decide)).1]; exact z6, by rw [(hFr.1 27 (by decide)).1]; exact z7⟩
  · exact ⟨by rw [hO 4 (by omega) (by omega)]; obtain ⟨q, q1, -, q3, -⟩ := hT; exact ⟨q, q1, q3⟩, by rw [hO 5 (by omega) (by omega)]; obtain ⟨q, q1, -, q3, -⟩ := hE; exact ⟨q, q1, q3⟩, by rw [hO 6 (by omega) (by omega)]; obtain ⟨q, q1, -, q3, -⟩ := hA; exact ⟨q, q1, q3⟩, ⟨k + 1, by omega, by rw [gr_sr_s, if_pos rfl]⟩, by rw [hO 8 (by omega) (by omega)]; obtain ⟨q, q1, -, q3, -⟩ := hY; exact ⟨q, q1, q3⟩⟩
  · have hH2 : HD σ3 15 (gr (sr τ3 64 7 (nI (k + 1))) 64) := hH.mv (fun j _ => by rw [(hFr.1 15 (by decide)).1]) (fun j _ => by rw [(hFr.1 16 (by decide)).2.1]) (fun j h1 h4 h5 h6 h7 h8 h9 => hO j (by omega) (by omega))
    have hT2 := hT.mv (σ' := σ3) (F' := gr (sr τ3 64 7 (nI (k + 1))) 64) (by rw [(hFr.1 17 (by decide)).1]) (fun j _ => by rw [(hFr.1 18 (by decide)).2.1]) (hO 4 (by omega) (by omega)) (fun j h1 h2 => hO j (by omega) (by omega))
    have hE2 := hE.mv (σ' := σ3) (F' := gr (sr τ3 64 7 (nI (k + 1))) 64) (by rw [(hFr.1 19 (by decide)).1]) (fun j _ => by rw [(hFr.1 20 (by decide)).2.1]) (hO 5 (by omega) (by omega)) (fun j h1 h2 => hO j (by omega) (by omega))
    have hA2 := hA.mv (σ' := σ3) (F' := gr (sr τ3 64 7 (nI (k + 1))) 64) (by rw [(hFr.1 21 (by decide)).1]) (fun j _ => by rw [(hFr.1 22 (by decide)).2.1]) (hO 6 (by omega) (by omega)) (fun j h1 h2 => hO j (by omega) (by omega))
    have hU2 := hU.ad (σ' := σ3) (F' := gr (sr τ3 64 7 (nI (k + 1))) 64) hk1 hk (by decide) s3 (fun j hj => hOc j (by omega)) (by rw [gr_sr_s, if_pos rfl]) (fun j h1 h2 => hO j (by omega) (by omega)) (fun c hc => ?_)
    have hY2 := hY.mv (σ' := σ3) (F' := gr (sr τ3 64 7 (nI (k + 1))) 64) (by rw [(hFr.1 25 (by decide)).1]) (fun j _ => by rw [(hFr.1 26 (by decide)).2.1]) (hO 8 (by omega) (by omega)) (fun j h1 h2 => hO j (by omega) (by omega))
    · refine ⟨hH2, hT2, hE2, hA2, hU2, hY2, ?_, ?_, ?_, CR.nil h10 hC (by rw [(hFr.1 27 (by decide)).1]) (hO 10 (by omega) (by omega))⟩
      · intro q q1 q2 i hi
        rw [hO 5 (by omega) (by omega)] at q1
        rw [hO _ (by omega) (by omega), hO _ (by omega) (by omega)]
        exact hS1 q q1 q2 i hi
      · intro q q1 q2 i hi
        rw [gr_sr_s, if_pos rfl] at q1
        obtain rfl : k + 1 = q := (nI_eq (by omega) (by omega)).mp q1
        by_cases ei : i = k
        · subst ei
          have e1 : gr (sr τ3 64 7 (nI (i + 1))) 64 (107 + 2 * i) = gr τ3 64 X := by rw [← hX, gr_sr_s, if_neg (by omega)]
          have e2 : gr (sr τ3 64 7 (nI (i + 1))) 64 (107 + 2 * i + 1) = gr τ3 64 (X + 1) := by rw [← hX, gr_sr_s, if_neg (by omega)]
          rw [e1, e2]
          exact (v1 o).2.2.2
        · rw [hO _ (by omega) (by omega), hO _ (by omega) (by omega)]
          exact hS2 k hF4 (by omega) i (by omega)
      · intro q m q1 q2 m1 m2 i hi
        rw [hO 8 (by omega) (by omega)] at q1
        rw [hO 4 (by omega) (by omega)] at m1
        rw [hO _ (by omega) (by omega)]
        exact hS3 q m q1 q2 m1 m2 i hi
    · obtain ⟨w1, w2, w3, w4⟩ := v1 o
      rcases (show c = 0 ∨ c = 1 by omega) with rfl | rfl
      · have e2 : gr (sr τ3 64 7 (nI (k + 1))) 64 (107 + 2 * k + 0) = gr τ3 64 X := by rw [← hX, gr_sr_s, if_neg (by omega)]; rfl
        rw [e2]
        exact ⟨w1, w2.1, w2.2⟩
      · have e2 : gr (sr τ3 64 7 (nI (k + 1))) 64 (107 + 2 * k + 1) = gr τ3 64 (X + 1) := by rw [← hX, gr_sr_s, if_neg (by omega)]
        rw [e2]
        exact w3
  · rw [hO 10 (by omega) (by omega)]
    exact h10
theorem T_span23 {σ τ : St} {n : Nat} (hk1 : gf σ 23 3 = nI 4) (hR : RP σ τ n) (hSZ : SZ σ 15) : ∃ σ' τ', f_X6_readSpan 23 σ = some ((), σ') ∧ f_X12_errs (3 : Int32) τ = some ((), τ') ∧ RP σ' τ' n ∧ ¬ ok σ' ∧ SZ σ' 15 ∧ Fr RD σ σ' ∧ OM τ τ' := by
  obtain ⟨σ1, τ1, a1, a2, a3, a4, a5, a6⟩ := R_over tb23 hk1 hR
  have s1 : gf σ1 23 3 = nI (3 + 1) := by rw [(a5.1 23 (by decide)).1]; exact hk1
  obtain ⟨σ2, c0_1, c0_2, c0_3, c0_4, s2⟩ := T_cell (k := 3) (c := 0) tb23 (by decide) (by decide) (0 : Int32) (59 : Int32) s1 a3 a4
  obtain ⟨w1, d0, d1, d2, d3⟩ := T_word (z := 16) (by decide) c0_2 c0_3
  have e1 : gf w1 23 3 = nI (3 + 1) := by rw [(d3.1 23 (by decide)).1]; exact s2
  have getc : f_X9_cell 23 (gf w1 23 3 - 1) (0 : Int32) w1 = some (gr w1 24 (3 * 2 + 0), w1) := by
    rw [e1, nI_pred, show (0 : Int32) = nI 0 from rfl, S_getc tb23 (show 3 + 1 ≤ 4 by omega) (by omega) (by omega) e1]
  obtain ⟨σ3, g1, g2, g3, g4, s3⟩ := T_cell (k := 3) (c := 1) tb23 (by decide) (by decide) (gr w1 24 (3 * 2 + 0)) (59 : Int32) e1 d1 d2
  have hFr : Fr [29, 24] σ σ3 := (((a5.mo (by simp) : Fr [29, 24] σ σ1).tr c0_4).tr (d3.mo (by simp))).tr g4
  refine ⟨σ3, τ1, ?_, a2, ⟨g2, Or.inr g3⟩, g3.not, hSZ.mv hFr (by decide) (by decide) (by decide) (by decide) (by decide) (by decide) (by decide), hFr.mo (by simp), a6⟩
  unfold f_X6_readSpan
  rw [tb23.isT σ, gd_tt, a1, bd_mk, show f_X6_cell 23 (0 : Int32) (0 : Int32) (59 : Int32) σ1 = some ((), σ2) from c0_1, bd_mk, d0, bd_mk, tb23.isT w1, gd_tt, getc, bd_mk, show f_X6_cell 23 (1 : Int32) (gr w1 24 (3 * 2 + 0)) (59 : Int32) w1 = some ((), σ3) from g1, bd_mk]
