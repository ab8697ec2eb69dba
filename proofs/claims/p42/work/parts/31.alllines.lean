/-! ===== a LINE with its sign; all LINES ===== -/
def LI (σ τ : St) (n l : Nat) : Prop := RP σ τ n ∧ SZ σ 15 ∧ SM (gr τ 64) ∧ (ok σ → WR σ 15 (gr τ 64) ∧ gr τ 64 10 = nI 0 ∧ gf σ 15 0 = nI l ∧ (l : Int) ≤ (gf σ 29 5).toInt)
abbrev RE : List Nat := 15 :: RD
/-- behind a LINE: its sign -/
theorem LE.sign {σ σ' τ' : St} {n : Nat} (h : LE σ σ' τ' n) : ∃ σ2 τ2, f_X6_sign σ' = some ((), σ2) ∧ f_X12_readLine_21 τ' = f_X12_readLine_52 τ2 ∧ RP σ2 τ2 n ∧ SZ σ2 15 ∧ SM (gr τ2 64) ∧ (ok σ2 → WR σ2 15 (gr τ2 64) ∧ gr τ2 64 10 = nI 0 ∧ ok σ' ∧ (gf σ 29 5).toInt < (gf σ2 29 5).toInt) ∧ Fr [29] σ' σ2 ∧ OM τ' τ2 := by
  rcases h with ⟨⟨hR, hSZ, hSM, hW⟩, hP⟩ | ⟨hP, hSZ, hSM⟩
  · obtain ⟨σ2, τ2, a1, a2, a3, a4, a5, a6⟩ := R_sign hR
    refine ⟨σ2, τ2, a1, a2, a3, hSZ.mv a5 (by decide) (by decide) (by decide) (by decide) (by decide) (by decide) (by decide), by rw [a6.r64]; exact hSM, fun o => ?_, a5, a6⟩
    obtain ⟨o1, o2⟩ := a4 o
    obtain ⟨w1, w2⟩ := hW o1
    have := (hP o1).2
    refine ⟨?_, by rw [a6.r64]; exact w2, o1, by omega⟩
    rw [a6.r64]
    obtain ⟨hH, hT, hE, hA, hU, hY, hS1, hS2, hS3, hC⟩ := w1
    refine TVs hT hE hA hU hY hS1 hS2 hS3 hC w2 (a5.mo (by simp)) (fun j _ _ _ _ => rfl) ?_
    exact hH.mv (fun j _ => by rw [(a5.1 15 (by decide)).1]) (fun j _ => by rw [(a5.1 16 (by decide)).2.1]) (fun j _ _ _ _ _ _ _ => rfl)
  · obtain ⟨hL, ho, h7, q, hq, h5, m1, m2⟩ := hP
    have hm : ¬ gf τ' 58 12 = 0 := by rw [m1]; decide
    have em : f_X12_readLine_21 τ' = f_X12_readLine_52 τ' := by
      unfold f_X12_readLine_21 f_X12_readLine_41
      simp only [S_good, bd_mk, b2_f hm, if_true]
    have hbl : f_X6_sign σ' = some ((), sf (sf σ' 29 2 1) 29 3 (nI q)) := by
      unfold f_X6_sign f_X6_blame f_X6_blame_20
      rw [if_neg h7, if_pos (show gf σ' 29 2 = 0 from ho)]
      simp only [bd_mk, bnd_mk]
      rw [show gf (sf σ' 29 2 1) 29 5 = gf σ' 29 5 from by rw [gf_sf_s, if_neg (by decide)], h5]
    have hF : Fr [29] σ' (sf (sf σ' 29 2 1) 29 3 (nI q)) := (Fr.c1 (by simp)).tr (Fr.c1 (by simp))
    have e2 : gf (sf (sf σ' 29 2 1) 29 3 (nI q)) 29 2 = 1 := by rw [gf_sf_s, if_neg (by decide), gf_sf_s, if_pos rfl]
    have hB : BD (sf (sf σ' 29 2 1) 29 3 (nI q)) τ' := ⟨1, q, by omega, by omega, hq, e2, m1, by rw [gf_sf_s, if_pos rfl], m2⟩
    have hL2 : LX (sf (sf σ' 29 2 1) 29 3 (nI q)) n := by
      obtain ⟨z1, z2, a, b, c, z3, z4, z5, z6, z7, z8⟩ := hL
      refine ⟨z1, ?_, a, b, c, z3, z4, z5, ?_, ?_, ?_⟩ <;> rw [gf_sf_s, if_neg (by decide), gf_sf_s, if_neg (by decide)] <;> assumption
    exact ⟨_, τ', hbl, em, ⟨hL2, Or.inr hB⟩, hSZ.mv hF (by decide) (by decide) (by decide) (by decide) (by decide) (by decide) (by decide), hSM, fun o => absurd o hB.not, hF, OM.rf⟩
theorem R_line {σ τ : St} {n l : Nat} (hI : LI σ τ n l) (ho : ok σ) (hl : l < 1200) : ∃ σ1 σ2 τ', f_X6_readLine σ = some ((), σ1) ∧ f_X6_sign σ1 = some ((), σ2) ∧ f_X12_readLine τ = some ((), τ') ∧ LI (sf σ2 15 0 (gf σ2 15 0 + 1)) τ' n (l + 1) ∧ Fr RE σ (sf σ2 15 0 (gf σ2 15 0 + 1)) ∧ OF τ τ' := by
  obtain ⟨hR, hSZ, hSM, hW⟩ := hI
  obtain ⟨hW1, h10, h15, hle⟩ := hW ho
  have hG : GD σ τ n := by
    rcases hR.2 with c | c
    · exact c
    · exact absurd ho c.not
  have h9 : gr τ 64 9 = nI l := by
    obtain ⟨l', m, a, p, r, d, e, y1, y2, y3, y4, y5, y6, y7, y8, u1, u2, -⟩ := hW1.1
    rw [u2, ← u1]; exact h15
  have hread : ∃ σ1 τ1, f_X6_readLine σ = some ((), σ1) ∧ f_X12_readLine τ = f_X12_readLine_21 τ1 ∧ LE σ σ1 τ1 n ∧ Fr RE σ σ1 ∧ OF τ τ1 ∧ gf σ1 15 0 = nI l ∧ (ok σ1 → MT σ1) := by
    by_cases l0 : l = 0
    · subst l0
      obtain ⟨σ1, τ1, a1, a2, a3, a4, a5, a6, a7, a8⟩ := R_first hR ho hSZ hW1 h10 h9
      refine ⟨σ1, τ1, ?_, ?_, Or.inl ⟨a3, a4⟩, a5, a6, a8.trans h15, a7⟩
      · unfold f_X6_readLine f_X6_readLine_132
        rw [if_pos (show gf σ 15 0 = 0 from h15), a1, bd_mk]
      · unfold f_X12_readLine
        rw [g64_9, gd_tt, c64_9, if_pos (show gr τ 64 9 = 0 from h9), a2, bd_mk]
    · have hne : ¬ nI l = 0 := fun c => l0 ((nI_eq (b := 0) (by omega) (by omega)).mp c)
      obtain ⟨σ1, τ1, a1, a2, a3, a4, a5⟩ := R_next hR.1 hG hSZ hW1 h10 (by rw [h15]; exact hne)
      refine ⟨σ1, τ1, a1, ?_, a3, a4.mo (by simp), a5, ?_, fun o => ?_⟩
      · unfold f_X12_readLine
        rw [g64_9, gd_tt, c64_9, h9, if_neg hne, a2, bd_mk]
      · rw [(a4.1 15 (by decide)).1]; exact h15
      · obtain ⟨l', m, a, p, r, d, e, y1, y2, y3, y4, y5, y6, y7, y8, u1, u2, u3, u4, u5, -⟩ := hW1.1
        obtain rfl : l' = l := (nI_eq (by omega) (by omega)).mp (u1.symm.trans h15)
        obtain ⟨v1, v2⟩ := y8 (by omega)
        exact ⟨m, a, by rw [(a4.1 15 (by decide)).1]; exact u3, by rw [(a4.1 15 (by decide)).1]; exact u5, v1, y2, v2⟩
  obtain ⟨σ1, τ1, a1, a2, a3, a4, a5, a6, a7⟩ := hread
  obtain ⟨σ2, τ2, b1, b2', b3, b4, b5, b6, b7, b8⟩ := a3.sign
  have e15 : gf σ2 15 0 = nI l := by rw [(b7.1 15 (by decide)).1]; exact a6
  have hF : Fr [15] σ2 (sf σ2 15 0 (gf σ2 15 0 + 1)) := Fr.c1 (by simp)
  have hFm : Fr [64] τ2 (sr τ2 64 9 (gr τ2 64 9 + 1)) := Fr.c2 (by simp)
  refine ⟨σ1, σ2, sr τ2 64 9 (gr τ2 64 9 + 1), a1, b1, ?_, ⟨RP.mv b3 hF hFm (by decide) (by decide) (by decide) (by decide), ?_, ?_, fun o => ?_⟩, (a4.tr (b7.mo (by simp))).tr (hF.mo (by simp)), (a5.tr b8.of).tr OF.s64⟩
  · rw [a2, b2']
    unfold f_X12_readLine_52
    rw [g64_9, gd_tt, gd_tt, c64_9, bnd_mk]
  · obtain ⟨s1, s2, s3, s4, s5, s6, s7⟩ := b4
    refine ⟨by rw [gf_sf_s, if_neg (by decide)]; exact s1, by rw [gf_sf_n _ _ _ _ (by decide)]; exact s2, by rw [gf_sf_n _ _ _ _ (by decide)]; exact s3, by rw [gf_sf_n _ _ _ _ (by decide)]; exact s4, by rw [gf_sf_n _ _ _ _ (by decide)]; exact s5, by rw [gf_sf_n _ _ _ _ (by decide)]; exact s6, by rw [gf_sf_n _ _ _ _ (by decide)]; exact s7⟩
  · exact b5.mv (by rw [gr_sr_s, if_neg (by decide)]) (by rw [gr_sr_s, if_neg (by decide)]) (by rw [gr_sr_s, if_neg (by decide)]) (by rw [gr_sr_s, if_neg (by decide)]) (by rw [gr_sr_s, if_neg (by decide)])
  · have o2 := (ok.mv hF (by decide)).mp o
    obtain ⟨w1, w2, w3, w4⟩ := b6 o2
    obtain ⟨m, a, m1, m2, m3, m4, m5⟩ := a7 w3
    have e9 : gr τ2 64 9 = nI l := by
      obtain ⟨l', mm, a, p, r, d, e, y1, y2, y3, y4, y5, y6, y7, y8, u1, u2, -⟩ := w1.1
      rw [u2, ← u1]; exact e15
    refine ⟨?_, by rw [gr_sr_s, if_neg (by decide)]; exact w2, by rw [gf_sf_s, if_pos rfl, e15, nI_1], by rw [gf_sf_n _ _ _ _ (by decide)]; omega⟩
    obtain ⟨hH, hT, hE, hA, hU, hY, hS1, hS2, hS3, hC⟩ := w1
    refine TVs hT hE hA hU hY hS1 hS2 hS3 hC w2 (hF.mo (by simp)) (fun j _ h9 _ _ => by rw [gr_sr_s, if_neg h9]) ?_
    obtain ⟨l', mm, aa, p, r, d, e, y1, y2, y3, y4, y5, y6, y7, y8, u1, u2, u3, u4, u5, u6, u7, u8, u9, u10, u11, u12, u13, u14⟩ := hH
    have q1 : gf σ2 15 1 = nI m := by rw [(b7.1 15 (by decide)).1]; exact m1
    have q2 : gf σ2 15 2 = nI a := by rw [(b7.1 15 (by decide)).1]; exact m2
    obtain rfl : mm = m := (nI_eq (by omega) (by omega)).mp (u3.symm.trans q1)
    obtain rfl : aa = a := (nI_eq (by omega) (by omega)).mp (u5.symm.trans q2)
    refine ⟨l + 1, mm, aa, p, r, d, e, by omega, y2, y3, y4, y5, y6, y7, fun _ => ⟨m3, m5⟩, ?_⟩
    refine ⟨by rw [gf_sf_s, if_pos rfl, e15, nI_1], by rw [gr_sr_s, if_pos rfl, e9, nI_1], ?_, ?_, ?_, ?_, ?_, ?_, ?_, ?_, ?_, ?_, ?_, ?_⟩
    all_goals first
      | (rw [gf_sf_s, if_neg (by decide)]; assumption)
      | (rw [gr_sr_s, if_neg (by decide)]; assumption)
      | assumption
theorem tk0 {K : Nat} (h1 : K ≠ 1) : tkK K = 0 ↔ K = 0 := by
  unfold tkK
  by_cases h : K = 0
  · rw [if_pos h]; exact ⟨fun _ => h, fun _ => rfl⟩
  · rw [if_neg h]; exact ⟨fun g => by omega, fun g => absurd g h⟩
/-- all LINES: both loops come out side by side -/
theorem R_lines {n : Nat} : ∀ (c l : Nat) (σ τ : St) (Q Q' : Nat), l + c = 1200 → c < Q → c < Q' → LI σ τ n l → ∃ l' σ' τ', itr g_X6_read_28 Q (nI l, σ) = some ((), σ') ∧ itr g_X12_war_54 Q' τ = f_X12_war_75 τ' ∧ LI σ' τ' n l' ∧ Fr RE σ σ' ∧ OF τ τ' ∧ l ≤ l' ∧ (l' = l → σ' = σ) := by
  intro c
  induction c with
  | zero =>
    intro l σ τ Q Q' hc hQ hQ' hI
    obtain ⟨R, rfl⟩ : ∃ R, Q = R + 1 := ⟨Q - 1, by omega⟩
    obtain ⟨R', rfl⟩ : ∃ R', Q' = R' + 1 := ⟨Q' - 1, by omega⟩
    obtain rfl : l = 1200 := by omega
    refine ⟨1200, σ, τ, ?_, ?_, hI, Fr.rf, OF.rf, Nat.le_refl _, fun _ => rfl⟩
    · rw [itr_succ]
      generalize itr g_X6_read_28 R = Z
      unfold g_X6_read_28 f_X6_read_76
      dsimp only
      rw [if_pos (show (1200 : Int32) ≤ nI 1200 from by decide)]
    · rw [itr_succ]
      generalize itr g_X12_war_54 R' = Z
      unfold g_X12_war_54
      dsimp only
      rw [S_good, bd_mk]
      by_cases g : gf τ 58 12 = 0
      · rw [b2_t g, if_neg n10]
        have ho : ok σ := by
          rcases hI.1.2 with w | w
          · exact w.okM.1
          · exact absurd g w.notM
        obtain ⟨-, -, -, hle⟩ := hI.2.2.2 ho
        have hG : GD σ τ n := by
          rcases hI.1.2 with w | w
          · exact w
          · exact absurd ho w.not
        have hn := hI.1.1.1
        obtain ⟨-, q, e, K, ⟨t1, t2, t3, t4, t5, t6, t7, t8, t9, t10, t11, t12⟩⟩ := hG
        rw [t6, nI_toInt (by omega)] at hle
        have hK : K = 0 := by
          by_cases k0 : K = 0
          · exact k0
          · have := t5 k0
            omega
        rw [if_pos (by rw [t11, (tk0 t4).mpr hK]; rfl)]
      · rw [b2_f g, if_pos rfl]
  | succ c ih =>
    intro l σ τ Q Q' hc hQ hQ' hI
    obtain ⟨R, rfl⟩ : ∃ R, Q = R + 1 := ⟨Q - 1, by omega⟩
    obtain ⟨R', rfl⟩ : ∃ R', Q' = R' + 1 := ⟨Q' - 1, by omega⟩
    have hlt : ¬ (1200 : Int32) ≤ nI l := by
      have : nI l < nI 1200 := nI_lt (by omega) (by omega)
      rw [lt_toInt] at this
      rw [le_toInt]
      exact fun z => absurd this (Int.not_lt.mpr z)
    by_cases ho : ok σ
    · have hG : GD σ τ n := by
        rcases hI.1.2 with w | w
        · exact w
        · exact absurd ho w.not
      have hn := hI.1.1.1
      have g2 := hG.okM.2
      obtain ⟨-, q, e, K, ⟨t1, t2, t3, t4, t5, t6, t7, t8, t9, t10, t11, t12⟩⟩ := hG
      by_cases k0 : K = 0
      · refine ⟨l, σ, τ, ?_, ?_, hI, Fr.rf, OF.rf, Nat.le_refl _, fun _ => rfl⟩
        · rw [itr_succ]
          generalize itr g_X6_read_28 R = Z
          unfold g_X6_read_28 f_X6_read_76
          dsimp only
          rw [if_neg hlt, if_pos (by rw [t8, k0]; rfl)]
        · rw [itr_succ]
          generalize itr g_X12_war_54 R' = Z
          unfold g_X12_war_54
          dsimp only
          rw [S_good, bd_mk, b2_t g2, if_neg n10, if_pos (by rw [t11, (tk0 t4).mpr k0]; rfl)]
      · obtain ⟨σ1, σ2, τ1, a1, a2, a3, a4, a5, a6⟩ := R_line hI ho (by omega)
        obtain ⟨l', σ', τ', b1, b2', b3, b4, b5, b6, -⟩ := ih (l + 1) _ _ R R' (by omega) (by omega) (by omega) a4
        have n7 : ¬ gf σ 29 7 = 0 := by
          rw [t8]
          exact fun z => k0 ((nI_eq (b := 0) (by omega) (by omega)).mp z)
        have m7 : ¬ gf τ 58 10 = 0 := by
          rw [t11]
          exact fun z => k0 ((tk0 t4).mp ((nI_eq (b := 0) (by unfold tkK; split <;> omega) (by omega)).mp z))
        refine ⟨l', σ', τ', ?_, ?_, b3, a5.tr b4, a6.tr b5, by omega, fun e => absurd e (by omega)⟩
        · rw [itr_succ]
          rw [← b1]
          generalize itr g_X6_read_28 R = Z
          unfold g_X6_read_28
          dsimp only
          rw [if_neg hlt, if_neg n7, if_pos (show gf σ 29 2 = 0 from ho), a1, bd_mk, a2, bd_mk, bnd_mk, bnd_mk, nI_1]
        · rw [itr_succ, ← b2']
          generalize itr g_X12_war_54 R' = Z
          unfold g_X12_war_54
          dsimp only
          rw [S_good, bd_mk, b2_t g2, if_neg n10, if_neg m7, a3, bd_mk]
    · have hB := hI.1.bad ho
      refine ⟨l, σ, τ, ?_, ?_, hI, Fr.rf, OF.rf, Nat.le_refl _, fun _ => rfl⟩
      · rw [itr_succ]
        generalize itr g_X6_read_28 R = Z
        unfold g_X6_read_28 f_X6_read_76
        dsimp only
        rw [if_neg hlt]
        by_cases c7 : gf σ 29 7 = 0
        · rw [if_pos c7]
        · rw [if_neg c7, if_neg (show ¬ gf σ 29 2 = 0 from ho)]
      · rw [itr_succ]
        generalize itr g_X12_war_54 R' = Z
        unfold g_X12_war_54
        dsimp only
        rw [S_good, bd_mk, b2_f hB.notM, if_pos rfl]
