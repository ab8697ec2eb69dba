/-! ===== LINES ===== -/
/-- the objects that the class's reader may change -/
abbrev RD : List Nat := [16, 17, 18, 19, 20, 21, 22, 23, 24, 25, 26, 27, 28, 29]
/-- behind a LINE (ahead of its sign) -/
def DI (σ τ : St) (n : Nat) : Prop := RP σ τ n ∧ SZ σ 15 ∧ SM (gr τ 64) ∧ (ok σ → WR σ 15 (gr τ 64) ∧ gr τ 64 10 = nI 0)
theorem SZ.mv {σ σ' : St} {w : Nat} {l : List Nat} (h : SZ σ w) (hf : Fr l σ σ') (h0 : w ∉ l) (h2 : w + 2 ∉ l) (h4 : w + 4 ∉ l) (h6 : w + 6 ∉ l) (h8 : w + 8 ∉ l) (h10 : w + 10 ∉ l) (h12 : w + 12 ∉ l) : SZ σ' w := by
  unfold SZ at *
  rw [(hf.1 _ h0).1, (hf.1 _ h2).1, (hf.1 _ h4).1, (hf.1 _ h6).1, (hf.1 _ h8).1, (hf.1 _ h10).1, (hf.1 _ h12).1]
  exact h
theorem SM.mv {F F' : Nat → Int32} (h : SM F) (h4 : F' 4 = F 4) (h5 : F' 5 = F 5) (h6 : F' 6 = F 6) (h7 : F' 7 = F 7) (h8 : F' 8 = F 8) : SM F' := by
  unfold SM at *
  rw [h4, h5, h6, h7, h8]
  exact h
theorem ln64 : ln 64 = 240 := rfl
theorem i64 {j : Nat} (h : j < 240) : inb (nI j) (ln 64) = true := inb_nI h (by decide)
set_option maxHeartbeats 4000000 in
theorem R_readTrain {σ τ : St} {n k : Nat} (hk : k < 9) (hk1 : gf σ 17 3 = nI k) (hL : LX σ n) (hG : GD σ τ n) (hSZ : SZ σ 15) (hW : WR σ 15 (gr τ 64)) (h10 : gr τ 64 10 = nI 0) : ∃ σ' τ1 τ', f_X6_readTrain σ = some ((), σ') ∧ f_X12_advance τ = some ((), τ1) ∧ f_X12_readTrain τ1 = some ((), τ') ∧ DI σ' τ' n ∧ PG σ σ' ∧ Fr RD σ σ' ∧ OF τ τ' := by
  obtain ⟨hH, hT, hE, hA, hU, hY, hS1, hS2, hS3, hC⟩ := hW
  have hF4 : gr τ 64 4 = nI k := by
    obtain ⟨k', b1, b2', b3, -⟩ := hT
    obtain rfl : k = k' := (nI_eq (by omega) (by omega)).mp (hk1.symm.trans b2')
    exact b3
  obtain ⟨σ1, τ1, a1, a2, a3, a4, a5, a6, a6b, a7⟩ := R_begin tb17 hk hk1 hL hG
  have f1 : gr τ1 64 = gr τ 64 := a7.r64
  obtain ⟨X, hX⟩ : ∃ X, X = 13 + 6 * k := ⟨_, rfl⟩
  obtain ⟨r0, σ2, u0, c0_1, c0_2, c0_3, c0_4, c0_6, c0_7, c0_8, c0_9, c0_10, c0_11⟩ := R_col (c := 0) (X := X + 0) tb17 hk (by omega) (by omega) (0 : Int32) (1 : Int32) (by decide) (by decide) a5 a3
  have s2 : gf σ2 17 3 = nI (k + 1) := by rw [(c0_6.1 17 (by decide)).1]; exact a5
  obtain ⟨r1, w1, σ3, u1, c1_0, c1_1, c1_2, c1_3, c1_4, c1_5, c1_6, c1_7, c1_8, c1_9, c1_10, c1_11⟩ := R_wcol (c := 1) (X := X + 1) (z := 11) tb17 hk (by omega) (by omega) (by decide) (1 : Int32) (99 : Int32) (by decide) (by decide) s2 c0_3
  have s3 : gf σ3 17 3 = nI (k + 1) := by rw [(c1_6.1 17 (by decide)).1]; exact s2
  obtain ⟨r2, w2, σ4, u2, c2_0, c2_1, c2_2, c2_3, c2_4, c2_5, c2_6, c2_7, c2_8, c2_9, c2_10, c2_11⟩ := R_wcol (c := 2) (X := X + 2) (z := 12) tb17 hk (by omega) (by omega) (by decide) (0 : Int32) (59 : Int32) (by decide) (by decide) s3 c1_3
  have s4 : gf σ4 17 3 = nI (k + 1) := by rw [(c2_6.1 17 (by decide)).1]; exact s3
  obtain ⟨r3, w3, σ5, u3, c3_0, c3_1, c3_2, c3_3, c3_4, c3_5, c3_6, c3_7, c3_8, c3_9, c3_10, c3_11⟩ := R_wcol (c := 3) (X := X + 3) (z := 13) tb17 hk (by omega) (by omega) (by decide) (0 : Int32) (100 : Int32) (by decide) (by decide) s4 c2_3
  have s5 : gf σ5 17 3 = nI (k + 1) := by rw [(c3_6.1 17 (by decide)).1]; exact s4
  obtain ⟨r4, w4, σ6, u4, c4_0, c4_1, c4_2, c4_3, c4_4, c4_5, c4_6, c4_7, c4_8, c4_9, c4_10, c4_11⟩ := R_wcol (c := 4) (X := X + 4) (z := 14) tb17 hk (by omega) (by omega) (by decide) (1 : Int32) (30 : Int32) (by decide) (by decide) s5 c3_3
  have s6 : gf σ6 17 3 = nI (k + 1) := by rw [(c4_6.1 17 (by decide)).1]; exact s5
  obtain ⟨r5, w5, σ7, u5, c5_0, c5_1, c5_2, c5_3, c5_4, c5_5, c5_6, c5_7, c5_8, c5_9, c5_10, c5_11⟩ := R_wcol (c := 5) (X := X + 5) (z := 15) tb17 hk (by omega) (by omega) (by decide) (0 : Int32) (999 : Int32) (by decide) (by decide) s6 c4_3
  have s7 : gf σ7 17 3 = nI (k + 1) := by rw [(c5_6.1 17 (by decide)).1]; exact s6
  have g4 : gr (sr u5 64 (X + 5) r5) 64 4 = nI k := by rw [c5_9 4 (by omega), c4_9 4 (by omega), c3_9 4 (by omega), c2_9 4 (by omega), c1_9 4 (by omega), c0_9 4 (by omega), f1]; exact hF4
  have hFr : Fr [29, 17, 18] σ σ7 := (((((((a6.mo (by simp) : Fr [29, 17, 18] σ σ1).tr (c0_6.mo (by simp))).tr (c1_6.mo (by simp))).tr (c2_6.mo (by simp))).tr (c3_6.mo (by simp))).tr (c4_6.mo (by simp))).tr (c5_6.mo (by simp)))
  have hPG : PG σ σ7 := ((((((a4.tr c0_4).tr c1_4).tr c2_4).tr c3_4).tr c4_4).tr c5_4)
  have hOF : OF τ (sr (sr u5 64 (X + 5) r5) 64 4 (nI (k + 1))) := ((((((a7.of.tr c0_7).tr c1_7).tr c2_7).tr c3_7).tr c4_7).tr c5_7).tr OF.s64
  have hRP : RP σ7 (sr (sr u5 64 (X + 5) r5) 64 4 (nI (k + 1))) n := RP.mv c5_3 (Fr.rf (l := [])) (Fr.c2 (l := [64]) (by simp)) (by simp) (by simp) (by simp) (by simp)
  have hO : ∀ j, j ≠ 4 → (j < X ∨ X + 6 ≤ j) → gr (sr (sr u5 64 (X + 5) r5) 64 4 (nI (k + 1))) 64 j = gr τ 64 j := fun j h1 h2 => by
    rw [gr_sr_s, if_neg h1, c5_9 j (by omega), c4_9 j (by omega), c3_9 j (by omega), c2_9 j (by omega), c1_9 j (by omega), c0_9 j (by omega), f1]
  have hOc : ∀ j, (j < k * 6 ∨ k * 6 + 6 ≤ j) → gr σ7 18 j = gr σ 18 j := fun j h1 => by
    rw [c5_8 j (by omega), c4_8 j (by omega), c3_8 j (by omega), c2_8 j (by omega), c1_8 j (by omega), c0_8 j (by omega), (a6.1 18 (by decide)).2.1]
  refine ⟨σ7, τ1, sr (sr u5 64 (X + 5) r5) 64 4 (nI (k + 1)), ?_, a2, ?_, ⟨hRP, ?_, ?_, fun o => ⟨?_, ?_⟩⟩, hPG, hFr.mo (by simp), hOF⟩
  · unfold f_X6_readTrain
    rw [a1, bd_mk, show f_X6_cell 17 (0 : Int32) (0 : Int32) (1 : Int32) σ1 = some ((), σ2) from c0_1, bd_mk, c1_0, bd_mk, show f_X6_cell 17 (1 : Int32) (1 : Int32) (99 : Int32) w1 = some ((), σ3) from c1_1, bd_mk, c2_0, bd_mk, show f_X6_cell 17 (2 : Int32) (0 : Int32) (59 : Int32) w2 = some ((), σ4) from c2_1, bd_mk, c3_0, bd_mk, show f_X6_cell 17 (3 : Int32) (0 : Int32) (100 : Int32) w3 = some ((), σ5) from c3_1, bd_mk, c4_0, bd_mk, show f_X6_cell 17 (4 : Int32) (1 : Int32) (30 : Int32) w4 = some ((), σ6) from c4_1, bd_mk, c5_0, bd_mk, show f_X6_cell 17 (5 : Int32) (0 : Int32) (999 : Int32) w5 = some ((), σ7) from c5_1, bd_mk]
  · unfold f_X12_readTrain
    have hx : (13 : Int32) + (6 : Int32) * gr τ1 64 (4 : Int32).toNatClampNeg = nI X := by
      have e : gr τ1 64 (4 : Int32).toNatClampNeg = nI k := by
        show gr τ1 64 4 = nI k
        rw [f1]
        exact hF4
      rw [e, hX, show (13 : Int32) = nI 13 from rfl, show (6 : Int32) = nI 6 from rfl, nI_mul, nI_add]
    rw [show inb (4 : Int32) (ln 64) = true from rfl, gd_tt, bnd_mk, hx, c0_2, bd_mk, show nI X + (0 : Int32) = nI (X + 0) from nI_add X 0, i64 (show X + 0 < 240 by omega), gd_tt, bnd_mk, nI_clamp (show X + 0 < 2 ^ 31 by omega), c1_2, bd_mk, show nI X + (1 : Int32) = nI (X + 1) from nI_add X 1, i64 (show X + 1 < 240 by omega), gd_tt, bnd_mk, nI_clamp (show X + 1 < 2 ^ 31 by omega), c2_2, bd_mk, show nI X + (2 : Int32) = nI (X + 2) from nI_add X 2, i64 (show X + 2 < 240 by omega), gd_tt, bnd_mk, nI_clamp (show X + 2 < 2 ^ 31 by omega), c3_2, bd_mk, show nI X + (3 : Int32) = nI (X + 3) from nI_add X 3, i64 (show X + 3 < 240 by omega), gd_tt, bnd_mk, nI_clamp (show X + 3 < 2 ^ 31 by omega), c4_2, bd_mk, show nI X + (4 : Int32) = nI (X + 4) from nI_add X 4, i64 (show X + 4 < 240 by omega), gd_tt, bnd_mk, nI_clamp (show X + 4 < 2 ^ 31 by omega), c5_2, bd_mk, show nI X + (5 : Int32) = nI (X + 5) from nI_add X 5, i64 (show X + 5 < 240 by omega), gd_tt, bnd_mk, nI_clamp (show X + 5 < 2 ^ 31 by omega), gd_tt, gd_tt, bnd_mk, show gr (sr u5 64 (X + 5) r5) 64 (4 : Int32).toNatClampNeg = nI k from g4, nI_1]
    rfl
  · obtain ⟨z1, z2, z3, z4, z5, z6, z7⟩ := hSZ
    exact ⟨by rw [(hFr.1 15 (by decide)).1]; exact z1, ⟨k + 1, by omega, s7⟩, by rw [(hFr.1 19 (by decide)).1]; exact z3, by rw [(hFr.1 21 (by decide)).1]; exact z4, by rw [(hFr.1 23 (by decide)).1]; exact z5, by rw [(hFr.1 25 (by decide)).1]; exact z6, by rw [(hFr.1 27 (by decide)).1]; exact z7⟩
  · exact ⟨⟨k + 1, by omega, by rw [gr_sr_s, if_pos rfl]⟩, by rw [hO 5 (by omega) (by omega)]; obtain ⟨q, q1, -, q3, -⟩ := hE; exact ⟨q, q1, q3⟩, by rw [hO 6 (by omega) (by omega)]; obtain ⟨q, q1, -, q3, -⟩ := hA; exact ⟨q, q1, q3⟩, by rw [hO 7 (by omega) (by omega)]; obtain ⟨q, q1, -, q3, -⟩ := hU; exact ⟨q, q1, q3⟩, by rw [hO 8 (by omega) (by omega)]; obtain ⟨q, q1, -, q3, -⟩ := hY; exact ⟨q, q1, q3⟩⟩
  · have o7 : ok σ7 := o
    have o6 : ok σ6 := (c5_4 o7).1
    have o5 : ok σ5 := (c4_4 o6).1
    have o4 : ok σ4 := (c3_4 o5).1
    have o3 : ok σ3 := (c2_4 o4).1
    have o2 : ok σ2 := (c1_4 o3).1
    have hH2 : HD σ7 15 (gr (sr (sr u5 64 (X + 5) r5) 64 4 (nI (k + 1))) 64) := hH.mv (fun j _ => by rw [(hFr.1 15 (by decide)).1]) (fun j _ => by rw [(hFr.1 16 (by decide)).2.1]) (fun j h1 h4 h5 h6 h7 h8 h9 => hO j (by omega) (by omega))
    have hT2 := hT.ad (σ' := σ7) (F' := gr (sr (sr u5 64 (X + 5) r5) 64 4 (nI (k + 1))) 64) hk1 hk (by decide) s7 (fun j hj => hOc j (by omega)) (by rw [gr_sr_s, if_pos rfl]) (fun j h1 h2 => hO j (by omega) (by omega)) (fun c hc => ?_)
    have hE2 := hE.mv (σ' := σ7) (F' := gr (sr (sr u5 64 (X + 5) r5) 64 4 (nI (k + 1))) 64) (by rw [(hFr.1 19 (by decide)).1]) (fun j _ => by rw [(hFr.1 20 (by decide)).2.1]) (hO 5 (by omega) (by omega)) (fun j h1 h2 => hO j (by omega) (by omega))
    have hA2 := hA.mv (σ' := σ7) (F' := gr (sr (sr u5 64 (X + 5) r5) 64 4 (nI (k + 1))) 64) (by rw [(hFr.1 21 (by decide)).1]) (fun j _ => by rw [(hFr.1 22 (by decide)).2.1]) (hO 6 (by omega) (by omega)) (fun j h1 h2 => hO j (by omega) (by omega))
    have hU2 := hU.mv (σ' := σ7) (F' := gr (sr (sr u5 64 (X + 5) r5) 64 4 (nI (k + 1))) 64) (by rw [(hFr.1 23 (by decide)).1]) (fun j _ => by rw [(hFr.1 24 (by decide)).2.1]) (hO 7 (by omega) (by omega)) (fun j h1 h2 => hO j (by omega) (by omega))
    have hY2 := hY.mv (σ' := σ7) (F' := gr (sr (sr u5 64 (X + 5) r5) 64 4 (nI (k + 1))) 64) (by rw [(hFr.1 25 (by decide)).1]) (fun j _ => by rw [(hFr.1 26 (by decide)).2.1]) (hO 8 (by omega) (by omega)) (fun j h1 h2 => hO j (by omega) (by omega))
    · refine ⟨hH2, hT2, hE2, hA2, hU2, hY2, ?_, ?_, ?_, CR.nil h10 hC (by rw [(hFr.1 27 (by decide)).1]) (hO 10 (by omega) (by omega))⟩
      · intro q q1 q2 i hi
        rw [hO 5 (by omega) (by omega)] at q1
        rw [hO _ (by omega) (by omega), hO _ (by omega) (by omega)]
        exact hS1 q q1 q2 i hi
      · intro q q1 q2 i hi
        rw [hO 7 (by omega) (by omega)] at q1
        rw [hO _ (by omega) (by omega), hO _ (by omega) (by omega)]
        exact hS2 q q1 q2 i hi
      · intro q m q1 q2 m1 m2 i hi
        rw [hO 8 (by omega) (by omega)] at q1
        rw [gr_sr_s, if_pos rfl] at m1
        obtain rfl : k + 1 = m := (nI_eq (by omega) (by omega)).mp m1
        rw [hO _ (by omega) (by omega)]
        have := hS3 q k q1 q2 hF4 (by omega) i hi
        have h2 : (2 : Int) ^ (k + 1) = 2 ^ k * 2 := Int.pow_succ 2 k
        have h3 : (0 : Int) < 2 ^ k := Int.pow_pos (by decide)
        omega
    · rcases (show c = 0 ∨ c = 1 ∨ c = 2 ∨ c = 3 ∨ c = 4 ∨ c = 5 by omega) with rfl | rfl | rfl | rfl | rfl | rfl
      · have hv := c0_10 o2
        have e1 : gr σ7 18 (k * 6 + 0) = gr σ2 18 (k * 6 + 0) := by rw [c5_8 _ (by omega), c4_8 _ (by omega), c3_8 _ (by omega), c2_8 _ (by omega), c1_8 _ (by omega)]
        have e2 : gr (sr (sr u5 64 (X + 5) r5) 64 4 (nI (k + 1))) 64 (13 + 6 * k + 0) = gr (sr u0 64 (X + 0) r0) 64 (X + 0) := by
          rw [← hX, gr_sr_s, if_neg (by omega), c5_9 _ (by omega), c4_9 _ (by omega), c3_9 _ (by omega), c2_9 _ (by omega), c1_9 _ (by omega)]
        rw [e1, e2]
        exact hv
      · have hv := c1_10 o3
        have e1 : gr σ7 18 (k * 6 + 1) = gr σ3 18 (k * 6 + 1) := by rw [c5_8 _ (by omega), c4_8 _ (by omega), c3_8 _ (by omega), c2_8 _ (by omega)]
        have e2 : gr (sr (sr u5 64 (X + 5) r5) 64 4 (nI (k + 1))) 64 (13 + 6 * k + 1) = gr (sr u1 64 (X + 1) r1) 64 (X + 1) := by
          rw [← hX, gr_sr_s, if_neg (by omega), c5_9 _ (by omega), c4_9 _ (by omega), c3_9 _ (by omega), c2_9 _ (by omega)]
        rw [e1, e2]
        exact hv
      · have hv := c2_10 o4
        have e1 : gr σ7 18 (k * 6 + 2) = gr σ4 18 (k * 6 + 2) := by rw [c5_8 _ (by omega), c4_8 _ (by omega), c3_8 _ (by omega)]
        have e2 : gr (sr (sr u5 64 (X + 5) r5) 64 4 (nI (k + 1))) 64 (13 + 6 * k + 2) = gr (sr u2 64 (X + 2) r2) 64 (X + 2) := by
          rw [← hX, gr_sr_s, if_neg (by omega), c5_9 _ (by omega), c4_9 _ (by omega), c3_9 _ (by omega)]
        rw [e1, e2]
        exact hv
      · have hv := c3_10 o5
        have e1 : gr σ7 18 (k * 6 + 3) = gr σ5 18 (k * 6 + 3) := by rw [c5_8 _ (by omega), c4_8 _ (by omega)]
        have e2 : gr (sr (sr u5 64 (X + 5) r5) 64 4 (nI (k + 1))) 64 (13 + 6 * k + 3) = gr (sr u3 64 (X + 3) r3) 64 (X + 3) := by
          rw [← hX, gr_sr_s, if_neg (by omega), c5_9 _ (by omega), c4_9 _ (by omega)]
        rw [e1, e2]
        exact hv
      · have hv := c4_10 o6
        have e1 : gr σ7 18 (k * 6 + 4) = gr σ6 18 (k * 6 + 4) := by rw [c5_8 _ (by omega)]
        have e2 : gr (sr (sr u5 64 (X + 5) r5) 64 4 (nI (k + 1))) 64 (13 + 6 * k + 4) = gr (sr u4 64 (X + 4) r4) 64 (X + 4) := by
          rw [← hX, gr_sr_s, if_neg (by omega), c5_9 _ (by omega)]
        rw [e1, e2]
        exact hv
      · have hv := c5_10 o7
        have e1 : gr σ7 18 (k * 6 + 5) = gr σ7 18 (k * 6 + 5) := by rfl
        have e2 : gr (sr (sr u5 64 (X + 5) r5) 64 4 (nI (k + 1))) 64 (13 + 6 * k + 5) = gr (sr u5 64 (X + 5) r5) 64 (X + 5) := by
          rw [← hX, gr_sr_s, if_neg (by omega)]
        rw [e1, e2]
        exact hv
  · rw [hO 10 (by omega) (by omega)]
    exact h10
theorem T_readTrain {σ τ : St} {n : Nat} (hk1 : gf σ 17 3 = nI 9) (hR : RP σ τ n) (hSZ : SZ σ 15) : ∃ σ' τ', f_X6_readTrain σ = some ((), σ') ∧ f_X12_errs (3 : Int32) τ = some ((), τ') ∧ RP σ' τ' n ∧ ¬ ok σ' ∧ SZ σ' 15 ∧ Fr RD σ σ' ∧ OM τ τ' := by
  obtain ⟨σ1, τ1, a1, a2, a3, a4, a5, a6⟩ := R_over tb17 hk1 hR
  have s1 : gf σ1 17 3 = nI (8 + 1) := by rw [(a5.1 17 (by decide)).1]; exact hk1
  obtain ⟨σ2, c0_1, c0_2, c0_3, c0_4, s2⟩ := T_cell (k := 8) (c := 0) tb17 (by decide) (by decide) (0 : Int32) (1 : Int32) s1 a3 a4
  obtain ⟨w1, σ3, c1_0, c1_1, c1_2, c1_3, c1_4, s3⟩ := T_wcell (k := 8) (c := 1) (z := 11) tb17 (by decide) (by decide) (by decide) (1 : Int32) (99 : Int32) s2 c0_2 c0_3
  obtain ⟨w2, σ4, c2_0, c2_1, c2_2, c2_3, c2_4, s4⟩ := T_wcell (k := 8) (c := 2) (z := 12) tb17 (by decide) (by decide) (by decide) (0 : Int32) (59 : Int32) s3 c1_2 c1_3
  obtain ⟨w3, σ5, c3_0, c3_1, c3_2, c3_3, c3_4, s5⟩ := T_wcell (k := 8) (c := 3) (z := 13) tb17 (by decide) (by decide) (by decide) (0 : Int32) (100 : Int32) s4 c2_2 c2_3
  obtain ⟨w4, σ6, c4_0, c4_1, c4_2, c4_3, c4_4, s6⟩ := T_wcell (k := 8) (c := 4) (z := 14) tb17 (by decide) (by decide) (by decide) (1 : Int32) (30 : Int32) s5 c3_2 c3_3
  obtain ⟨w5, σ7, c5_0, c5_1, c5_2, c5_3, c5_4, s7⟩ := T_wcell (k := 8) (c := 5) (z := 15) tb17 (by decide) (by decide) (by decide) (0 : Int32) (999 : Int32) s6 c4_2 c4_3
  have hFr : Fr [29, 18] σ σ7 := (((((((a5.mo (by simp) : Fr [29, 18] σ σ1).tr c0_4).tr c1_4).tr c2_4).tr c3_4).tr c4_4).tr c5_4)
  refine ⟨σ7, τ1, ?_, a2, ⟨c5_2, Or.inr c5_3⟩, c5_3.not, hSZ.mv hFr (by decide) (by decide) (by decide) (by decide) (by decide) (by decide) (by decide), hFr.mo (by simp), a6⟩
  unfold f_X6_readTrain
  rw [a1, bd_mk, show f_X6_cell 17 (0 : Int32) (0 : Int32) (1 : Int32) σ1 = some ((), σ2) from c0_1, bd_mk, c1_0, bd_mk, show f_X6_cell 17 (1 : Int32) (1 : Int32) (99 : Int32) w1 = some ((), σ3) from c1_1, bd_mk, c2_0, bd_mk, show f_X6_cell 17 (2 : Int32) (0 : Int32) (59 : Int32) w2 = some ((), σ4) from c2_1, bd_mk, c3_0, bd_mk, show f_X6_cell 17 (3 : Int32) (0 : Int32) (100 : Int32) w3 = some ((), σ5) from c3_1, bd_mk, c4_0, bd_mk, show f_X6_cell 17 (4 : Int32) (1 : Int32) (30 : Int32) w4 = some ((), σ6) from c4_1, bd_mk, c5_0, bd_mk, show f_X6_cell 17 (5 : Int32) (0 : Int32) (999 : Int32) w5 = some ((), σ7) from c5_1, bd_mk]
set_option maxHeartbeats 4000000 in
theorem R_readAsk {σ τ : St} {n k : Nat} (hk : k < 8) (hk1 : gf σ 21 3 = nI k) (hL : LX σ n) (hG : GD σ τ n) (hSZ : SZ σ 15) (hW : WR σ 15 (gr τ 64)) (h10 : gr τ 64 10 = nI 0) : ∃ σ' τ1 τ', f_X6_readAsk σ = some ((), σ') ∧ f_X12_advance τ = some ((), τ1) ∧ f_X12_readAsk τ1 = some ((), τ') ∧ DI σ' τ' n ∧ PG σ σ' ∧ Fr RD σ σ' ∧ OF τ τ' := by
  obtain ⟨hH, hT, hE, hA, hU, hY, hS1, hS2, hS3, hC⟩ := hW
  have hF4 : gr τ 64 6 = nI k := by
    obtain ⟨k', b1, b2', b3, -⟩ := hA
    obtain rfl : k = k' := (nI_eq (by omega) (by omega)).mp (hk1.symm.trans b2')
    exact b3
  obtain ⟨σ1, τ1, a1, a2, a3, a4, a5, a6, a6b, a7⟩ := R_begin tb21 hk hk1 hL hG
  have f1 : gr τ1 64 = gr τ 64 := a7.r64
  obtain ⟨X, hX⟩ : ∃ X, X = 75 + 4 * k := ⟨_, rfl⟩
  obtain ⟨r0, σ2, u0, c0_1, c0_2, c0_3, c0_4, c0_6, c0_7, c0_8, c0_9, c0_10, c0_11⟩ := R_col (c := 0) (X := X + 0) tb21 hk (by omega) (by omega) (0 : Int32) (1 : Int32) (by decide) (by decide) a5 a3
  have s2 : gf σ2 21 3 = nI (k + 1) := by rw [(c0_6.1 21 (by decide)).1]; exact a5
  obtain ⟨r1, w1, σ3, u1, c1_0, c1_1, c1_2, c1_3, c1_4, c1_5, c1_6, c1_7, c1_8, c1_9, c1_10, c1_11⟩ := R_wcol (c := 1) (X := X + 1) (z := 17) tb21 hk (by omega) (by omega) (by decide) (0 : Int32) (59 : Int32) (by decide) (by decide) s2 c0_3
  have s3 : gf σ3 21 3 = nI (k + 1) := by rw [(c1_6.1 21 (by decide)).1]; exact s2
  obtain ⟨r2, w2, σ4, u2, c2_0, c2_1, c2_2, c2_3, c2_4, c2_5, c2_6, c2_7, c2_8, c2_9, c2_10, c2_11⟩ := R_wcol (c := 2) (X := X + 2) (z := 18) tb21 hk (by omega) (by omega) (by decide) (1 : Int32) (20 : Int32) (by decide) (by decide) s3 c1_3
  have s4 : gf σ4 21 3 = nI (k + 1) := by rw [(c2_6.1 21 (by decide)).1]; exact s3
  obtain ⟨r3, w3, σ5, u3, c3_0, c3_1, c3_2, c3_3, c3_4, c3_5, c3_6, c3_7, c3_8, c3_9, c3_10, c3_11⟩ := R_wcol (c := 3) (X := X + 3) (z := 19) tb21 hk (by omega) (by omega) (by decide) (1 : Int32) (99 : Int32) (by decide) (by decide) s4 c2_3
  have s5 : gf σ5 21 3 = nI (k + 1) := by rw [(c3_6.1 21 (by decide)).1]; exact s4
  have g4 : gr (sr u3 64 (X + 3) r3) 64 6 = nI k := by rw [c3_9 6 (by omega), c2_9 6 (by omega), c1_9 6 (by omega), c0_9 6 (by omega), f1]; exact hF4
  have hFr : Fr [29, 21, 22] σ σ5 := (((((a6.mo (by simp) : Fr [29, 21, 22] σ σ1).tr (c0_6.mo (by simp))).tr (c1_6.mo (by simp))).tr (c2_6.mo (by simp))).tr (c3_6.mo (by simp)))
  have hPG : PG σ σ5 := ((((a4.tr c0_4).tr c1_4).tr c2_4).tr c3_4)
  have hOF : OF τ (sr (sr u3 64 (X + 3) r3) 64 6 (nI (k + 1))) := ((((a7.of.tr c0_7).tr c1_7).tr c2_7).tr c3_7).tr OF.s64
  have hRP : RP σ5 (sr (sr u3 64 (X + 3) r3) 64 6 (nI (k + 1))) n := RP.mv c3_3 (Fr.rf (l := [])) (Fr.c2 (l := [64]) (by simp)) (by simp) (by simp) (by simp) (by simp)
  have hO : ∀ j, j ≠ 6 → (j < X ∨ X + 4 ≤ j) → gr (sr (sr u3 64 (X + 3) r3) 64 6 (nI (k + 1))) 64 j = gr τ 64 j := fun j h1 h2 => by
    rw [gr_sr_s, if_neg h1, c3_9 j (by omega), c2_9 j (by omega), c1_9 j (by omega), c0_9 j (by omega), f1]
  have hOc : ∀ j, (j < k * 4 ∨ k * 4 + 4 ≤ j) → gr σ5 22 j = gr σ 22 j := fun j h1 => by
    rw [c3_8 j (by omega), c2_8 j (by omega), c1_8 j (by omega), c0_8 j (by omega), (a6.1 22 (by decide)).2.1]
  refine ⟨σ5, τ1, sr (sr u3 64 (X + 3) r3) 64 6 (nI (k + 1)), ?_, a2, ?_, ⟨hRP, ?_, ?_, fun o => ⟨?_, ?_⟩⟩, hPG, hFr.mo (by simp), hOF⟩
  · unfold f_X6_readAsk
    rw [a1, bd_mk, show f_X6_cell 21 (0 : Int32) (0 : Int32) (1 : Int32) σ1 = some ((), σ2) from c0_1, bd_mk, c1_0, bd_mk, show f_X6_cell 21 (1 : Int32) (0 : Int32) (59 : Int32) w1 = some ((), σ3) from c1_1, bd_mk, c2_0, bd_mk, show f_X6_cell 21 (2 : Int32) (1 : Int32) (20 : Int32) w2 = some ((), σ4) from c2_1, bd_mk, c3_0, bd_mk, show f_X6_cell 21 (3 : Int32) (1 : Int32) (99 : Int32) w3 = some ((), σ5) from c3_1, bd_mk]
  · unfold f_X12_readAsk
    have hx : (75 : Int32) + (4 : Int32) * gr τ1 64 (6 : Int32).toNatClampNeg = nI X := by
      have e : gr τ1 64 (6 : Int32).toNatClampNeg = nI k := by
        show gr τ1 64 6 = nI k
        rw [f1]
        exact hF4
      rw [e, hX, show (75 : Int32) = nI 75 from rfl, show (4 : Int32) = nI 4 from rfl, nI_mul, nI_add]
    have hX0 : nI X = nI (X + 0) := rfl
    rw [show inb (6 : Int32) (ln 64) = true from rfl, gd_tt, bnd_mk, hx, c0_2, bd_mk, show inb (nI X) (ln 64) = true from i64 (show X < 240 by omega), gd_tt, bnd_mk, show (nI X).toNatClampNeg = X + 0 from nI_clamp (show X < 2 ^ 31 by omega), c1_2, bd_mk, show nI X + (1 : Int32) = nI (X + 1) from nI_add X 1, i64 (show X + 1 < 240 by omega), gd_tt, bnd_mk, nI_clamp (show X + 1 < 2 ^ 31 by omega), c2_2, bd_mk, show nI X + (2 : Int32) = nI (X + 2) from nI_add X 2, i64 (show X + 2 < 240 by omega), gd_tt, bnd_mk, nI_clamp (show X + 2 < 2 ^ 31 by omega), c3_2, bd_mk, show nI X + (3 : Int32) = nI (X + 3) from nI_add X 3, i64 (show X + 3 < 240 by omega), gd_tt, bnd_mk, nI_clamp (show X + 3 < 2 ^ 31 by omega), gd_tt, gd_tt, bnd_mk, show gr (sr u3 64 (X + 3) r3) 64 (6 : Int32).toNatClampNeg = nI k from g4, nI_1]
    rfl
  · obtain ⟨z1, z2, z3, z4, z5, z6, z7⟩ := hSZ
    exact ⟨by rw [(hFr.1 15 (by decide)).1]; exact z1, by rw [(hFr.1 17 (by decide)).1]; exact z2, by rw [(hFr.1 19 (by decide)).1]; exact z3, ⟨k + 1, by omega, s5⟩, by rw [(hFr.1 23 (by decide)).1]; exact z5, by rw [(hFr.1 25 (by decide)).1]; exact z6, by rw [(hFr.1 27 (by decide)).1]; exact z7⟩
  · exact ⟨by rw [hO 4 (by omega) (by omega)]; obtain ⟨q, q1, -, q3, -⟩ := hT; exact ⟨q, q1, q3⟩, by rw [hO 5 (by omega) (by omega)]; obtain ⟨q, q1, -, q3, -⟩ := hE; exact ⟨q, q1, q3⟩, ⟨k + 1, by omega, by rw [gr_sr_s, if_pos rfl]⟩, by rw [hO 7 (by omega) (by omega)]; obtain ⟨q, q1, -, q3, -⟩ := hU; exact ⟨q, q1, q3⟩, by rw [hO 8 (by omega) (by omega)]; obtain ⟨q, q1, -, q3, -⟩ := hY; exact ⟨q, q1, q3⟩⟩
  · have o5 : ok σ5 := o
    have o4 : ok σ4 := (c3_4 o5).1
    have o3 : ok σ3 := (c2_4 o4).1
    have o2 : ok σ2 := (c1_4 o3).1
    have hH2 : HD σ5 15 (gr (sr (sr u3 64 (X + 3) r3) 64 6 (nI (k + 1))) 64) := hH.mv (fun j _ => by rw [(hFr.1 15 (by decide)).1]) (fun j _ => by rw [(hFr.1 16 (by decide)).2.1]) (fun j h1 h4 h5 h6 h7 h8 h9 => hO j (by omega) (by omega))
    have hT2 := hT.mv (σ' := σ5) (F' := gr (sr (sr u3 64 (X + 3) r3) 64 6 (nI (k + 1))) 64) (by rw [(hFr.1 17 (by decide)).1]) (fun j _ => by rw [(hFr.1 18 (by decide)).2.1]) (hO 4 (by omega) (by omega)) (fun j h1 h2 => hO j (by omega) (by omega))
    have hE2 := hE.mv (σ' := σ5) (F' := gr (sr (sr u3 64 (X + 3) r3) 64 6 (nI (k + 1))) 64) (by rw [(hFr.1 19 (by decide)).1]) (fun j _ => by rw [(hFr.1 20 (by decide)).2.1]) (hO 5 (by omega) (by omega)) (fun j h1 h2 => hO j (by omega) (by omega))
    have hA2 := hA.ad (σ' := σ5) (F' := gr (sr (sr u3 64 (X + 3) r3) 64 6 (nI (k + 1))) 64) hk1 hk (by decide) s5 (fun j hj => hOc j (by omega)) (by rw [gr_sr_s, if_pos rfl]) (fun j h1 h2 => hO j (by omega) (by omega)) (fun c hc => ?_)
    have hU2 := hU.mv (σ' := σ5) (F' := gr (sr (sr u3 64 (X + 3) r3) 64 6 (nI (k + 1))) 64) (by rw [(hFr.1 23 (by decide)).1]) (fun j _ => by rw [(hFr.1 24 (by decide)).2.1]) (hO 7 (by omega) (by omega)) (fun j h1 h2 => hO j (by omega) (by omega))
    have hY2 := hY.mv (σ' := σ5) (F' := gr (sr (sr u3 64 (X + 3) r3) 64 6 (nI (k + 1))) 64) (by rw [(hFr.1 25 (by decide)).1]) (fun j _ => by rw [(hFr.1 26 (by decide)).2.1]) (hO 8 (by omega) (by omega)) (fun j h1 h2 => hO j (by omega) (by omega))
    · refine ⟨hH2, hT2, hE2, hA2, hU2, hY2, ?_, ?_, ?_, CR.nil h10 hC (by rw [(hFr.1 27 (by decide)).1]) (hO 10 (by omega) (by omega))⟩
      · intro q q1 q2 i hi
        rw [hO 5 (by omega) (by omega)] at q1
        rw [hO _ (by omega) (by omega), hO _ (by omega) (by omega)]
        exact hS1 q q1 q2 i hi
      · intro q q1 q2 i hi
        rw [hO 7 (by omega) (by omega)] at q1
        rw [hO _ (by omega) (by omega), hO _ (by omega) (by omega)]
        exact hS2 q q1 q2 i hi
      · intro q m q1 q2 m1 m2 i hi
        rw [hO 8 (by omega) (by omega)] at q1
        rw [hO 4 (by omega) (by omega)] at m1
        rw [hO _ (by omega) (by omega)]
        exact hS3 q m q1 q2 m1 m2 i hi
    · rcases (show c = 0 ∨ c = 1 ∨ c = 2 ∨ c = 3 by omega) with rfl | rfl | rfl | rfl
      · have hv := c0_10 o2
        have e1 : gr σ5 22 (k * 4 + 0) = gr σ2 22 (k * 4 + 0) := by rw [c3_8 _ (by omega), c2_8 _ (by omega), c1_8 _ (by omega)]
        have e2 : gr (sr (sr u3 64 (X + 3) r3) 64 6 (nI (k + 1))) 64 (75 + 4 * k + 0) = gr (sr u0 64 (X + 0) r0) 64 (X + 0) := by
          rw [← hX, gr_sr_s, if_neg (by omega), c3_9 _ (by omega), c2_9 _ (by omega), c1_9 _ (by omega)]
        rw [e1, e2]
        exact hv
      · have hv := c1_10 o3
        have e1 : gr σ5 22 (k * 4 + 1) = gr σ3 22 (k * 4 + 1) := by rw [c3_8 _ (by omega), c2_8 _ (by omega)]
        have e2 : gr (sr (sr u3 64 (X + 3) r3) 64 6 (nI (k + 1))) 64 (75 + 4 * k + 1) = gr (sr u1 64 (X + 1) r1) 64 (X + 1) := by
          rw [← hX, gr_sr_s, if_neg (by omega), c3_9 _ (by omega), c2_9 _ (by omega)]
        rw [e1, e2]
        exact hv
      · have hv := c2_10 o4
        have e1 : gr σ5 22 (k * 4 + 2) = gr σ4 22 (k * 4 + 2) := by rw [c3_8 _ (by omega)]
        have e2 : gr (sr (sr u3 64 (X + 3) r3) 64 6 (nI (k + 1))) 64 (75 + 4 * k + 2) = gr (sr u2 64 (X + 2) r2) 64 (X + 2) := by
          rw [← hX, gr_sr_s, if_neg (by omega), c3_9 _ (by omega)]
        rw [e1, e2]
        exact hv
      · have hv := c3_10 o5
        have e1 : gr σ5 22 (k * 4 + 3) = gr σ5 22 (k * 4 + 3) := by rfl
        have e2 : gr (sr (sr u3 64 (X + 3) r3) 64 6 (nI (k + 1))) 64 (75 + 4 * k + 3) = gr (sr u3 64 (X + 3) r3) 64 (X + 3) := by
          rw [← hX, gr_sr_s, if_neg (by omega)]
        rw [e1, e2]
        exact hv
  · rw [hO 10 (by omega) (by omega)]
    exact h10
theorem T_readAsk {σ τ : St} {n : Nat} (hk1 : gf σ 21 3 = nI 8) (hR : RP σ τ n) (hSZ : SZ σ 15) : ∃ σ' τ', f_X6_readAsk σ = some ((), σ') ∧ f_X12_errs (3 : Int32) τ = some ((), τ') ∧ RP σ' τ' n ∧ ¬ ok σ' ∧ SZ σ' 15 ∧ Fr RD σ σ' ∧ OM τ τ' := by
  obtain ⟨σ1, τ1, a1, a2, a3, a4, a5, a6⟩ := R_over tb21 hk1 hR
  have s1 : gf σ1 21 3 = nI (7 + 1) := by rw [(a5.1 21 (by decide)).1]; exact hk1
  obtain ⟨σ2, c0_1, c0_2, c0_3, c0_4, s2⟩ := T_cell (k := 7) (c := 0) tb21 (by decide) (by decide) (0 : Int32) (1 : Int32) s1 a3 a4
  obtain ⟨w1, σ3, c1_0, c1_1, c1_2, c1_3, c1_4, s3⟩ := T_wcell (k := 7) (c := 1) (z := 17) tb21 (by decide) (by decide) (by decide) (0 : Int32) (59 : Int32) s2 c0_2 c0_3
  obtain ⟨w2, σ4, c2_0, c2_1, c2_2, c2_3, c2_4, s4⟩ := T_wcell (k := 7) (c := 2) (z := 18) tb21 (by decide) (by decide) (by decide) (1 : Int32) (20 : Int32) s3 c1_2 c1_3
  obtain ⟨w3, σ5, c3_0, c3_1, c3_2, c3_3, c3_4, s5⟩ := T_wcell (k := 7) (c := 3) (z := 19) tb21 (by decide) (by decide) (by decide) (1 : Int32) (99 : Int32) s4 c2_2 c2_3
  have hFr : Fr [29, 22] σ σ5 := (((((a5.mo (by simp) : Fr [29, 22] σ σ1).tr c0_4).tr c1_4).tr c2_4).tr c3_4)
  refine ⟨σ5, τ1, ?_, a2, ⟨c3_2, Or.inr c3_3⟩, c3_3.not, hSZ.mv hFr (by decide) (by decide) (by decide) (by decide) (by decide) (by decide) (by decide), hFr.mo (by simp), a6⟩
  unfold f_X6_readAsk
  rw [a1, bd_mk, show f_X6_cell 21 (0 : Int32) (0 : Int32) (1 : Int32) σ1 = some ((), σ2) from c0_1, bd_mk, c1_0, bd_mk, show f_X6_cell 21 (1 : Int32) (0 : Int32) (59 : Int32) w1 = some ((), σ3) from c1_1, bd_mk, c2_0, bd_mk, show f_X6_cell 21 (2 : Int32) (1 : Int32) (20 : Int32) w2 = some ((), σ4) from c2_1, bd_mk, c3_0, bd_mk, show f_X6_cell 21 (3 : Int32) (1 : Int32) (99 : Int32) w3 = some ((), σ5) from c3_1, bd_mk]
