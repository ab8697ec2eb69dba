/-! ===== which LINE it is; a LINE and its sign ===== -/
theorem iw_one : ∀ z, z < 6 → ∀ z', z' < 6 → sL z = sL z' → (∀ i, i < sL z → sB z i = sB z' i) → z = z' := by decide +kernel
theorem IW.one {b : Nat → Int32} {q e K z z' : Nat} (h : IW b q e K z) (h' : IW b q e K z') (hz : z < 6) (hz' : z' < 6) : z = z' := by
  obtain ⟨-, h1, h2⟩ := h
  obtain ⟨-, g1, g2⟩ := h'
  have hl : sL z = sL z' := by omega
  exact iw_one z hz z' hz' hl (fun i hi => (h2 i hi).symm.trans (g2 i (by omega)))
theorem N179_bad {τ : St} (h : ¬ gf τ 58 12 = 0) : f_X12_readNext_179 τ = some ((), τ) := by
  unfold f_X12_readNext_179
  rw [S_good, bd_mk, b2_f h, if_pos rfl]
theorem N154_bad {τ : St} (h : ¬ gf τ 58 12 = 0) : f_X12_readNext_154 τ = some ((), τ) := by
  unfold f_X12_readNext_154
  rw [S_isF (by decide) h, bd_mk, if_pos rfl, N179_bad h]
theorem N134_bad {τ : St} (h : ¬ gf τ 58 12 = 0) : f_X12_readNext_134 τ = some ((), τ) := by
  unfold f_X12_readNext_134
  rw [S_isF (by decide) h, bd_mk, if_pos rfl, N154_bad h]
theorem N108_bad {τ : St} (h : ¬ gf τ 58 12 = 0) : f_X12_readNext_108 τ = some ((), τ) := by
  unfold f_X12_readNext_108
  rw [S_isF (by decide) h, bd_mk, if_pos rfl, N134_bad h]
theorem N89_bad {τ : St} (h : ¬ gf τ 58 12 = 0) : f_X12_readNext_89 τ = some ((), τ) := by
  unfold f_X12_readNext_89
  rw [S_isF (by decide) h, bd_mk, if_pos rfl, N108_bad h]
theorem N69_bad {τ : St} (h : ¬ gf τ 58 12 = 0) : f_X12_readNext_69 τ = some ((), τ) := by
  unfold f_X12_readNext_69
  rw [S_isF (by decide) h, bd_mk, if_pos rfl, N89_bad h]
theorem RP.bad {σ τ : St} {n : Nat} (h : RP σ τ n) (ho : ¬ ok σ) : BD σ τ := by
  rcases h.2 with c | c
  · exact absurd c.okM.1 ho
  · exact c
theorem takesN {τ : St} {z : Nat} (hz : z < 21) (h : f_X12_is z τ = some (0, τ)) : f_X12_takes z τ = some (0, τ) := by
  unfold f_X12_takes f_X12_takes_14
  rw [isS_t hz, gd_tt, h, bd_mk, if_pos rfl, bz_0, gd_tt]
theorem takesY {τ τ1 : St} {z : Nat} (hz : z < 21) (h : f_X12_is z τ = some (1, τ)) (h1 : f_X12_advance τ = some ((), τ1)) : f_X12_takes z τ = some (1, τ1) := by
  unfold f_X12_takes f_X12_takes_14
  rw [isS_t hz, gd_tt, h, bd_mk, if_neg n10, h1, bd_mk, bz_1, gd_tt]
theorem c64_4 : (4 : Int32).toNatClampNeg = 4 := rfl
theorem c64_5 : (5 : Int32).toNatClampNeg = 5 := rfl
theorem c64_6 : (6 : Int32).toNatClampNeg = 6 := rfl
theorem c64_7 : (7 : Int32).toNatClampNeg = 7 := rfl
theorem c64_8 : (8 : Int32).toNatClampNeg = 8 := rfl
theorem c64_9 : (9 : Int32).toNatClampNeg = 9 := rfl
theorem g64_4 : inb (4 : Int32) (ln 64) = true := rfl
theorem g64_5 : inb (5 : Int32) (ln 64) = true := rfl
theorem g64_6 : inb (6 : Int32) (ln 64) = true := rfl
theorem g64_7 : inb (7 : Int32) (ln 64) = true := rfl
theorem g64_8 : inb (8 : Int32) (ln 64) = true := rfl
theorem g64_9 : inb (9 : Int32) (ln 64) = true := rfl
def LE (σ σ' τ' : St) (n : Nat) : Prop := (DI σ' τ' n ∧ PG σ σ') ∨ (PB σ' τ' n ∧ SZ σ' 15 ∧ SM (gr τ' 64))
set_option maxHeartbeats 4000000 in
theorem R_next {σ τ : St} {n : Nat} (hL : LX σ n) (hG : GD σ τ n) (hSZ : SZ σ 15) (hW : WR σ 15 (gr τ 64)) (h10 : gr τ 64 10 = nI 0) (hl : ¬ gf σ 15 0 = 0) : ∃ σ' τ', f_X6_readLine σ = some ((), σ') ∧ f_X12_readNext τ = some ((), τ') ∧ LE σ σ' τ' n ∧ Fr RD σ σ' ∧ OF τ τ' := by
  have hsm := hW.sm
  have hW0 := hW
  obtain ⟨hH, hT, hE, hA, hU, hY, hS1, hS2, hS3, hC⟩ := hW
  have hR : RP σ τ n := ⟨hL, Or.inl hG⟩
  have hL0 := hL
  have hG0 := hG
  obtain ⟨hn, hln, -⟩ := hL
  obtain ⟨⟨g1, g2, g3, g4, g5, g6⟩, q, e, K, ⟨t1, t2, t3, t4, t5, t6, t7, t8, t9, t10, t11, t12⟩⟩ := hG
  have hsee : ∀ z, z < 21 → f_X6_sees z σ = some (b2 (IW (gr σ 30) q e K z), σ) := fun z hz => S_sees hz hn ⟨t1, t2⟩ t3 t6 t7 t8
  have hiw : ∀ z, IW (gr τ 62) q e K z ↔ IW (gr σ 30) q e K z := fun z => ⟨fun w => ⟨w.1, w.2.1, fun i hi => by rw [(g6 (q + i) (by have := w.2.1; omega)).1]; exact w.2.2 i hi⟩, fun w => ⟨w.1, w.2.1, fun i hi => by rw [← (g6 (q + i) (by have := w.2.1; omega)).1]; exact w.2.2 i hi⟩⟩
  have his : ∀ z, z < 21 → f_X12_is z τ = some (b2 (IW (gr τ 62) q e K z), τ) := fun z hz => S_is hz hn ⟨t1, t2⟩ t3 g2 t9 t10 t11
  have sY : ∀ z, z < 6 → IW (gr σ 30) q e K z → f_X6_sees z σ = some (1, σ) ∧ f_X12_is z τ = some (1, τ) := fun z hz w => ⟨by rw [hsee z (by omega), b2_t w], by rw [his z (by omega), b2_t ((hiw z).mpr w)]⟩
  have sN : ∀ z, z < 6 → ¬ IW (gr σ 30) q e K z → f_X6_sees z σ = some (0, σ) ∧ f_X12_is z τ = some (0, τ) := fun z hz w => ⟨by rw [hsee z (by omega), b2_f w], by rw [his z (by omega), b2_f (fun c => w ((hiw z).mp c))]⟩
  have oth : ∀ z z', z < 6 → z' < 6 → z' ≠ z → IW (gr σ 30) q e K z → f_X6_sees z' σ = some (0, σ) ∧ f_X12_is z' τ = some (0, τ) := fun z z' hz hz' hne w => sN z' hz' (fun w' => hne (w'.one w hz' hz))
  have bm : ∀ {σ' τ' : St}, RP σ' τ' n → ¬ ok σ' → ¬ gf τ' 58 12 = 0 := fun h ho => (h.bad ho).notM
  have smO : ∀ {τ' : St}, OM τ τ' → SM (gr τ' 64) := fun h => by rw [h.r64]; exact hsm
  by_cases w0 : IW (gr σ 30) q e K 0
  · -- need
    obtain ⟨a0, b0⟩ := sY 0 (by decide) w0
    obtain ⟨a1, b1⟩ := oth 0 1 (by decide) (by decide) (by decide) w0
    obtain ⟨a2, b2'⟩ := oth 0 2 (by decide) (by decide) (by decide) w0
    obtain ⟨a3, b3⟩ := oth 0 3 (by decide) (by decide) (by decide) w0
    obtain ⟨a4, b4⟩ := oth 0 4 (by decide) (by decide) (by decide) w0
    obtain ⟨a5, b5⟩ := oth 0 5 (by decide) (by decide) (by decide) w0
    obtain ⟨σ', τ1, τ', r1, r2, r3, r4, r5, r6, r7⟩ := R_readNeed hL0 hG0 hSZ hW0 h10
    refine ⟨σ', τ', ?_, ?_, Or.inl ⟨r4, r5⟩, r6, r7⟩
    · unfold f_X6_readLine f_X6_readLine_132
      rw [if_neg hl, a0, bd_mk, if_neg n10, r1, bd_mk]
    · unfold f_X12_readNext f_X12_readNext_54 f_X12_readNext_59 f_X12_readNext_69 f_X12_readNext_89 f_X12_readNext_108 f_X12_readNext_134 f_X12_readNext_154 f_X12_readNext_179 f_X12_readNext_319
      simp only [b0, b1, b2', b3, b4, b5, bd_mk, n10, if_false, if_true, S_good, b2_t g2, takesY (by decide) b0 r2, r3]
  by_cases w1 : IW (gr σ 30) q e K 1
  · -- train
    obtain ⟨a0, b0⟩ := oth 1 0 (by decide) (by decide) (by decide) w1
    obtain ⟨a1, b1⟩ := sY 1 (by decide) w1
    obtain ⟨a2, b2'⟩ := oth 1 2 (by decide) (by decide) (by decide) w1
    obtain ⟨a3, b3⟩ := oth 1 3 (by decide) (by decide) (by decide) w1
    obtain ⟨a4, b4⟩ := oth 1 4 (by decide) (by decide) (by decide) w1
    obtain ⟨a5, b5⟩ := oth 1 5 (by decide) (by decide) (by decide) w1
    obtain ⟨k, k9, kk, kF, -⟩ := hT
    by_cases kz : k = 9
    · subst kz
      obtain ⟨σ', τ', r1, r2, r3, r4, r5, r6, r7⟩ := T_readTrain kk hR hSZ
      refine ⟨σ', τ', ?_, ?_, Or.inl ⟨⟨r3, r5, smO r7, fun o => absurd o r4⟩, fun o => absurd o r4⟩, r6, r7.of⟩
      · unfold f_X6_readLine f_X6_readLine_132
        rw [if_neg hl, a0, bd_mk, if_pos rfl, a1, bd_mk, if_neg n10, r1, bd_mk]
      · unfold f_X12_readNext f_X12_readNext_54 f_X12_readNext_59 f_X12_readNext_69 f_X12_readNext_129
        have hf : gr τ 64 4 = (9 : Int32) := kF
        simp only [b0, b1, bd_mk, n10, if_false, if_true, g64_4, gd_tt, c64_4, hf, r2, N134_bad (bm r3 r4)]
    · obtain ⟨σ', τ1, τ', r1, r2, r3, r4, r5, r6, r7⟩ := R_readTrain (by omega) kk hL0 hG0 hSZ hW0 h10
      refine ⟨σ', τ', ?_, ?_, Or.inl ⟨r4, r5⟩, r6, r7⟩
      · unfold f_X6_readLine f_X6_readLine_132
        rw [if_neg hl, a0, bd_mk, if_pos rfl, a1, bd_mk, if_neg n10, r1, bd_mk]
      · have hf : ¬ gr τ 64 4 = (9 : Int32) := fun c => kz ((nI_eq (a := k) (b := 9) (by omega) (by omega)).mp (kF.symm.trans c))
        unfold f_X12_readNext f_X12_readNext_54 f_X12_readNext_59 f_X12_readNext_69 f_X12_readNext_89 f_X12_readNext_108 f_X12_readNext_134 f_X12_readNext_154 f_X12_readNext_179 f_X12_readNext_319
        simp only [b0, b1, b2', b3, b4, b5, bd_mk, n10, if_false, if_true, g64_4, gd_tt, c64_4, hf, S_good, b2_t g2, takesN (by decide) b0, takesY (by decide) b1 r2, r3]
  by_cases w2 : IW (gr σ 30) q e K 2
  · -- tea
    obtain ⟨a0, b0⟩ := oth 2 0 (by decide) (by decide) (by decide) w2
    obtain ⟨a1, b1⟩ := oth 2 1 (by decide) (by decide) (by decide) w2
    obtain ⟨a2, b2'⟩ := sY 2 (by decide) w2
    obtain ⟨a3, b3⟩ := oth 2 3 (by decide) (by decide) (by decide) w2
    obtain ⟨a4, b4⟩ := oth 2 4 (by decide) (by decide) (by decide) w2
    obtain ⟨a5, b5⟩ := oth 2 5 (by decide) (by decide) (by decide) w2
    obtain ⟨k, k9, kk, kF, -⟩ := hE
    by_cases kz : k = 4
    · subst kz
      obtain ⟨σ', τ', r1, r2, r3, r4, r5, r6, r7⟩ := T_span19 kk hR hSZ
      refine ⟨σ', τ', ?_, ?_, Or.inl ⟨⟨r3, r5, smO r7, fun o => absurd o r4⟩, fun o => absurd o r4⟩, r6, r7.of⟩
      · unfold f_X6_readLine f_X6_readLine_132
        rw [if_neg hl, a0, bd_mk, if_pos rfl, a1, bd_mk, if_pos rfl, a2, bd_mk, if_neg n10, r1, bd_mk]
      · unfold f_X12_readNext f_X12_readNext_54 f_X12_readNext_59 f_X12_readNext_69 f_X12_readNext_89 f_X12_readNext_129
        have hf : gr τ 64 5 = (4 : Int32) := kF
        simp only [b0, b1, b2', bd_mk, n10, if_false, if_true, g64_5, gd_tt, c64_5, hf, r2, N134_bad (bm r3 r4)]
    · obtain ⟨σ', τ1, τ', r1, r2, r3, r3', r4, r5, r6, r7⟩ := R_span19 (k := k) (by omega) kk hL0 hG0 hSZ hW0 h10
      refine ⟨σ', _, ?_, ?_, Or.inl ⟨r4, r5⟩, r6, r7⟩
      · unfold f_X6_readLine f_X6_readLine_132
        rw [if_neg hl, a0, bd_mk, if_pos rfl, a1, bd_mk, if_pos rfl, a2, bd_mk, if_neg n10, r1, bd_mk]
      · have hf : ¬ gr τ 64 5 = (4 : Int32) := fun c => kz ((nI_eq (a := k) (b := 4) (by omega) (by omega)).mp (kF.symm.trans c))
        rw [c64_5] at r3
        unfold f_X12_readNext f_X12_readNext_54 f_X12_readNext_59 f_X12_readNext_69 f_X12_readNext_89 f_X12_readNext_108 f_X12_readNext_134 f_X12_readNext_154 f_X12_readNext_179 f_X12_readNext_319
        simp only [b0, b1, b2', b3, b4, b5, bd_mk, n10, if_false, if_true, g64_5, gd_tt, c64_5, hf, S_good, b2_t g2, takesN (by decide) b0, takesN (by decide) b1, takesY (by decide) b2' r2, r3, r3', bnd_mk, nI_1]
  by_cases w3 : IW (gr σ 30) q e K 3
  · -- cannon
    obtain ⟨a0, b0⟩ := oth 3 0 (by decide) (by decide) (by decide) w3
    obtain ⟨a1, b1⟩ := oth 3 1 (by decide) (by decide) (by decide) w3
    obtain ⟨a2, b2'⟩ := oth 3 2 (by decide) (by decide) (by decide) w3
    obtain ⟨a3, b3⟩ := sY 3 (by decide) w3
    obtain ⟨a4, b4⟩ := oth 3 4 (by decide) (by decide) (by decide) w3
    obtain ⟨a5, b5⟩ := oth 3 5 (by decide) (by decide) (by decide) w3
    obtain ⟨k, k9, kk, kF, -⟩ := hA
    by_cases kz : k = 8
    · subst kz
      obtain ⟨σ', τ', r1, r2, r3, r4, r5, r6, r7⟩ := T_readAsk kk hR hSZ
      refine ⟨σ', τ', ?_, ?_, Or.inl ⟨⟨r3, r5, smO r7, fun o => absurd o r4⟩, fun o => absurd o r4⟩, r6, r7.of⟩
      · unfold f_X6_readLine f_X6_readLine_132
        rw [if_neg hl, a0, bd_mk, if_pos rfl, a1, bd_mk, if_pos rfl, a2, bd_mk, if_pos rfl, a3, bd_mk, if_neg n10, r1, bd_mk]
      · unfold f_X12_readNext f_X12_readNext_54 f_X12_readNext_59 f_X12_readNext_69 f_X12_readNext_89 f_X12_readNext_108 f_X12_readNext_129
        have hf : gr τ 64 6 = (8 : Int32) := kF
        simp only [b0, b1, b2', b3, bd_mk, n10, if_false, if_true, g64_6, gd_tt, c64_6, hf, r2, N134_bad (bm r3 r4)]
    · obtain ⟨σ', τ1, τ', r1, r2, r3, r4, r5, r6, r7⟩ := R_readAsk (k := k) (by omega) kk hL0 hG0 hSZ hW0 h10
      refine ⟨σ', _, ?_, ?_, Or.inl ⟨r4, r5⟩, r6, r7⟩
      · unfold f_X6_readLine f_X6_readLine_132
        rw [if_neg hl, a0, bd_mk, if_pos rfl, a1, bd_mk, if_pos rfl, a2, bd_mk, if_pos rfl, a3, bd_mk, if_neg n10, r1, bd_mk]
      · have hf : ¬ gr τ 64 6 = (8 : Int32) := fun c => kz ((nI_eq (a := k) (b := 8) (by omega) (by omega)).mp (kF.symm.trans c))
        unfold f_X12_readNext f_X12_readNext_54 f_X12_readNext_59 f_X12_readNext_69 f_X12_readNext_89 f_X12_readNext_108 f_X12_readNext_134 f_X12_readNext_154 f_X12_readNext_179 f_X12_readNext_319
        simp only [b0, b1, b2', b3, b4, b5, bd_mk, n10, if_false, if_true, g64_6, gd_tt, c64_6, hf, S_good, b2_t g2, takesN (by decide) b0, takesN (by decide) b1, takesN (by decide) b2', takesY (by decide) b3 r2, r3]
  by_cases w4 : IW (gr σ 30) q e K 4
  · -- rule
    obtain ⟨a0, b0⟩ := oth 4 0 (by decide) (by decide) (by decide) w4
    obtain ⟨a1, b1⟩ := oth 4 1 (by decide) (by decide) (by decide) w4
    obtain ⟨a2, b2'⟩ := oth 4 2 (by decide) (by decide) (by decide) w4
    obtain ⟨a3, b3⟩ := oth 4 3 (by decide) (by decide) (by decide) w4
    obtain ⟨a4, b4⟩ := sY 4 (by decide) w4
    obtain ⟨a5, b5⟩ := oth 4 5 (by decide) (by decide) (by decide) w4
    obtain ⟨k, k9, kk, kF, -⟩ := hU
    by_cases kz : k = 4
    · subst kz
      obtain ⟨σ', τ', r1, r2, r3, r4, r5, r6, r7⟩ := T_span23 kk hR hSZ
      refine ⟨σ', τ', ?_, ?_, Or.inl ⟨⟨r3, r5, smO r7, fun o => absurd o r4⟩, fun o => absurd o r4⟩, r6, r7.of⟩
      · unfold f_X6_readLine f_X6_readLine_132
        rw [if_neg hl, a0, bd_mk, if_pos rfl, a1, bd_mk, if_pos rfl, a2, bd_mk, if_pos rfl, a3, bd_mk, if_pos rfl, a4, bd_mk, if_neg n10, r1, bd_mk]
      · unfold f_X12_readNext f_X12_readNext_54 f_X12_readNext_59 f_X12_readNext_69 f_X12_readNext_89 f_X12_readNext_108 f_X12_readNext_134 f_X12_readNext_174
        have hf : gr τ 64 7 = (4 : Int32) := kF
        simp only [b0, b1, b2', b3, b4, bd_mk, n10, if_false, if_true, g64_7, gd_tt, c64_7, hf, r2, N179_bad (bm r3 r4)]
    · obtain ⟨σ', τ1, τ', r1, r2, r3, r3', r4, r5, r6, r7⟩ := R_span23 (k := k) (by omega) kk hL0 hG0 hSZ hW0 h10
      refine ⟨σ', _, ?_, ?_, Or.inl ⟨r4, r5⟩, r6, r7⟩
      · unfold f_X6_readLine f_X6_readLine_132
        rw [if_neg hl, a0, bd_mk, if_pos rfl, a1, bd_mk, if_pos rfl, a2, bd_mk, if_pos rfl, a3, bd_mk, if_pos rfl, a4, bd_mk, if_neg n10, r1, bd_mk]
      · have hf : ¬ gr τ 64 7 = (4 : Int32) := fun c => kz ((nI_eq (a := k) (b := 4) (by omega) (by omega)).mp (kF.symm.trans c))
        rw [c64_7] at r3
        unfold f_X12_readNext f_X12_readNext_54 f_X12_readNext_59 f_X12_readNext_69 f_X12_readNext_89 f_X12_readNext_108 f_X12_readNext_134 f_X12_readNext_154 f_X12_readNext_179 f_X12_readNext_319
        simp only [b0, b1, b2', b3, b4, b5, bd_mk, n10, if_false, if_true, g64_7, gd_tt, c64_7, hf, S_good, b2_t g2, takesN (by decide) b0, takesN (by decide) b1, takesN (by decide) b2', takesN (by decide) b3, takesY (by decide) b4 r2, r3, r3', bnd_mk, nI_1]
  by_cases w5 : IW (gr σ 30) q e K 5
  · -- spy
    obtain ⟨a0, b0⟩ := sN 0 (by decide) w0
    obtain ⟨a1, b1⟩ := sN 1 (by decide) w1
    obtain ⟨a2, b2'⟩ := sN 2 (by decide) w2
    obtain ⟨a3, b3⟩ := sN 3 (by decide) w3
    obtain ⟨a4, b4⟩ := sN 4 (by decide) w4
    obtain ⟨a5, b5⟩ := sY 5 (by decide) w5
    obtain ⟨k, k9, kk, kF, -⟩ := hY
    by_cases kz : k = 5
    · subst kz
      obtain ⟨σ', τ', r1, r2, r3, r4, r5, r6, r7⟩ := T_readSpy kk hR hSZ
      refine ⟨σ', τ', ?_, ?_, Or.inl ⟨⟨r3, r5, smO r7, fun o => absurd o r4⟩, fun o => absurd o r4⟩, r6, r7.of⟩
      · unfold f_X6_readLine f_X6_readLine_132
        rw [if_neg hl, a0, bd_mk, if_pos rfl, a1, bd_mk, if_pos rfl, a2, bd_mk, if_pos rfl, a3, bd_mk, if_pos rfl, a4, bd_mk, if_pos rfl, a5, bd_mk, if_neg n10, r1, bd_mk]
      · unfold f_X12_readNext f_X12_readNext_54 f_X12_readNext_59 f_X12_readNext_69 f_X12_readNext_89 f_X12_readNext_108 f_X12_readNext_134 f_X12_readNext_154 f_X12_readNext_174
        have hf : gr τ 64 8 = (5 : Int32) := kF
        simp only [b0, b1, b2', b3, b4, b5, bd_mk, n10, if_false, if_true, g64_8, gd_tt, c64_8, hf, r2, N179_bad (bm r3 r4)]
    · obtain ⟨σ', τ1, τ', r1, r2, r3, r4, r5, r6, r7⟩ := R_readSpy (k := k) (by omega) kk hL0 hG0 hSZ hW0 h10
      refine ⟨σ', _, ?_, ?_, ?_, r6, r7⟩
      · unfold f_X6_readLine f_X6_readLine_132
        rw [if_neg hl, a0, bd_mk, if_pos rfl, a1, bd_mk, if_pos rfl, a2, bd_mk, if_pos rfl, a3, bd_mk, if_pos rfl, a4, bd_mk, if_pos rfl, a5, bd_mk, if_neg n10, r1, bd_mk]
      · have hf : ¬ gr τ 64 8 = (5 : Int32) := fun c => kz ((nI_eq (a := k) (b := 5) (by omega) (by omega)).mp (kF.symm.trans c))
        unfold f_X12_readNext f_X12_readNext_54 f_X12_readNext_59 f_X12_readNext_69 f_X12_readNext_89 f_X12_readNext_108 f_X12_readNext_134 f_X12_readNext_154 f_X12_readNext_179 f_X12_readNext_319
        simp only [b0, b1, b2', b3, b4, b5, bd_mk, n10, if_false, if_true, g64_8, gd_tt, c64_8, hf, S_good, b2_t g2, takesN (by decide) b0, takesN (by decide) b1, takesN (by decide) b2', takesN (by decide) b3, takesN (by decide) b4, r2, r3]
      · rcases r4 with d | d
        · rcases r5 with c | c
          · exact Or.inl ⟨d, c⟩
          · exact Or.inr ⟨c, d.2.1, d.2.2.1⟩
        · exact Or.inr d
  · -- none
    obtain ⟨a0, b0⟩ := sN 0 (by decide) w0
    obtain ⟨a1, b1⟩ := sN 1 (by decide) w1
    obtain ⟨a2, b2'⟩ := sN 2 (by decide) w2
    obtain ⟨a3, b3⟩ := sN 3 (by decide) w3
    obtain ⟨a4, b4⟩ := sN 4 (by decide) w4
    obtain ⟨a5, b5⟩ := sN 5 (by decide) w5
    obtain ⟨σ', τ', r1, r2, r3, r4, r5, r6⟩ := R_blame 1 ⟨by omega, by omega⟩ hR
    have r1' : f_X6_blame 1 σ = some ((), σ') := r1
    have r2' : f_X12_errs 1 τ = some ((), τ') := r2
    refine ⟨σ', τ', ?_, ?_, Or.inl ⟨⟨r3, hSZ.mv r5 (by decide) (by decide) (by decide) (by decide) (by decide) (by decide) (by decide), smO r6, fun o => absurd o r4⟩, fun o => absurd o r4⟩, r5.mo (by simp), r6.of⟩
    · unfold f_X6_readLine f_X6_readLine_132
      rw [if_neg hl, a0, bd_mk, if_pos rfl, a1, bd_mk, if_pos rfl, a2, bd_mk, if_pos rfl, a3, bd_mk, if_pos rfl, a4, bd_mk, if_pos rfl, a5, bd_mk, if_pos rfl, r1', bd_mk]
    · unfold f_X12_readNext f_X12_readNext_59
      simp only [b0, b1, b2', b3, b4, b5, bd_mk, n10, if_false, if_true, r2', N69_bad (bm r3 r4)]
