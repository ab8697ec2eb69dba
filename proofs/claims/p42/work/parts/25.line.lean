/-! ===== a WAR of both: the class's block w, the reference's row F ===== -/
/-- rows of a table, with the bounds of each column -/
def TV (σ : St) (t : Nat) (F : Nat → Int32) (ix base wd room : Nat) (lo hi : List Int) : Prop := ∃ k, k ≤ room ∧ gf σ t 3 = nI k ∧ F ix = nI k ∧ ∀ i, i < k → ∀ c, c < wd → gr σ (t + 1) (i * wd + c) = F (base + wd * i + c) ∧ lo.getD c 0 ≤ (F (base + wd * i + c)).toInt ∧ (F (base + wd * i + c)).toInt ≤ hi.getD c 0
/-- both ends of a span in order -/
def SP (F : Nat → Int32) (ix base : Nat) : Prop := ∀ k, F ix = nI k → k ≤ 4 → ∀ i, i < k → (F (base + 2 * i)).toInt ≤ (F (base + 2 * i + 1)).toInt
/-- SPIES know TRAINS that there are -/
def SPY (F : Nat → Int32) : Prop := ∀ k m, F 8 = nI k → k ≤ 5 → F 4 = nI m → m ≤ 9 → ∀ i, i < k → (F (115 + i)).toInt < 2 ^ m
def HD (σ : St) (w : Nat) (F : Nat → Int32) : Prop := ∃ l m a p r d e : Nat, l ≤ 1200 ∧ m ≤ 60 ∧ a ≤ 59 ∧ p ≤ 60 ∧ r ≤ 100 ∧ d ≤ 999 ∧ e ≤ 999 ∧ (1 ≤ l → 1 ≤ m ∧ a < m) ∧ gf σ w 0 = nI l ∧ F 9 = nI l ∧ gf σ w 1 = nI m ∧ F 0 = nI m ∧ gf σ w 2 = nI a ∧ F 1 = nI a ∧ gf σ w 3 = nI p ∧ F 2 = nI p ∧ gf σ w 4 = nI r ∧ F 3 = nI r ∧ gr σ (w + 1) 0 = nI d ∧ F 11 = nI d ∧ gr σ (w + 1) 1 = nI e ∧ F 12 = nI e
/-- a change that is not taken back, as both have it -/
def CE (σ : St) (w : Nat) (F : Nat → Int32) (j : Nat) : Prop := ∃ row what old m : Nat, F 4 = nI m ∧ m ≤ 9 ∧ gr σ (w + 13) (3 * j) = nI row ∧ gr σ (w + 13) (3 * j + 1) = nI what ∧ gr σ (w + 13) (3 * j + 2) = nI old ∧ F (121 + 2 * j) = nI old ∧
  ((what = 0 ∧ row < m ∧ F (120 + 2 * j) = nI (13 + 6 * row + 2) ∧ old ≤ 59) ∨ (what = 1 ∧ row < m ∧ F (120 + 2 * j) = nI (13 + 6 * row + 3) ∧ old ≤ 100) ∨ (what = 2 ∧ row < m ∧ F (120 + 2 * j) = nI (13 + 6 * row + 5) ∧ old ≤ 999) ∨ (what = 3 ∧ row < 2 ∧ F (120 + 2 * j) = nI (11 + row) ∧ old ≤ 999))
def CR (σ : St) (w : Nat) (F : Nat → Int32) : Prop := ∃ k, k ≤ 60 ∧ gf σ (w + 12) 3 = nI k ∧ F 10 = nI k ∧ ∀ j, j < k → CE σ w F j
def WR (σ : St) (w : Nat) (F : Nat → Int32) : Prop := HD σ w F ∧ TV σ (w + 2) F 4 13 6 9 [0, 1, 0, 0, 1, 0] [1, 99, 59, 100, 30, 999] ∧ TV σ (w + 4) F 5 67 2 4 [0, 0] [59, 59] ∧ TV σ (w + 6) F 6 75 4 8 [0, 0, 1, 1] [1, 59, 20, 99] ∧ TV σ (w + 8) F 7 107 2 4 [0, 0] [59, 59] ∧ TV σ (w + 10) F 8 115 1 5 [0] [511] ∧ SP F 5 67 ∧ SP F 7 107 ∧ SPY F ∧ CR σ w F
/-- the class's block in its bounds, whatever was read -/
def SZ (σ : St) (w : Nat) : Prop := (∃ k, k ≤ 60 ∧ gf σ w 1 = nI k) ∧ (∃ k, k ≤ 9 ∧ gf σ (w + 2) 3 = nI k) ∧ (∃ k, k ≤ 4 ∧ gf σ (w + 4) 3 = nI k) ∧ (∃ k, k ≤ 8 ∧ gf σ (w + 6) 3 = nI k) ∧ (∃ k, k ≤ 4 ∧ gf σ (w + 8) 3 = nI k) ∧ (∃ k, k ≤ 5 ∧ gf σ (w + 10) 3 = nI k) ∧ (∃ k, k ≤ 60 ∧ gf σ (w + 12) 3 = nI k)
/-- the reference's row in its bounds -/
def SM (F : Nat → Int32) : Prop := (∃ k, k ≤ 9 ∧ F 4 = nI k) ∧ (∃ k, k ≤ 4 ∧ F 5 = nI k) ∧ (∃ k, k ≤ 8 ∧ F 6 = nI k) ∧ (∃ k, k ≤ 4 ∧ F 7 = nI k) ∧ (∃ k, k ≤ 5 ∧ F 8 = nI k)
theorem TV.mv {σ σ' : St} {t : Nat} {F F' : Nat → Int32} {ix base wd room : Nat} {lo hi : List Int} (h : TV σ t F ix base wd room lo hi) (h1 : gf σ' t 3 = gf σ t 3) (h2 : ∀ j, j < wd * room → gr σ' (t + 1) j = gr σ (t + 1) j) (h3 : F' ix = F ix) (h4 : ∀ j, base ≤ j → j < base + wd * room → F' j = F j) : TV σ' t F' ix base wd room lo hi := by
  obtain ⟨k, a1, a2, a3, a4⟩ := h
  refine ⟨k, a1, h1.trans a2, h3.trans a3, fun i hi' c hc => ?_⟩
  have hb : wd * i + c < wd * room := by
    have : wd * (i + 1) ≤ wd * room := Nat.mul_le_mul_left _ (by omega)
    rw [Nat.mul_add] at this
    omega
  rw [h2 _ (by rw [Nat.mul_comm i wd]; exact hb), h4 _ (by omega) (by omega)]
  exact a4 i hi' c hc
/-- a row more -/
theorem TV.ad {σ σ' : St} {t : Nat} {F F' : Nat → Int32} {ix base wd room k : Nat} {lo hi : List Int} (h : TV σ t F ix base wd room lo hi) (hk : gf σ t 3 = nI k) (hkr : k < room) (hr : room ≤ 60) (h1 : gf σ' t 3 = nI (k + 1)) (h2 : ∀ j, j < wd * k → gr σ' (t + 1) j = gr σ (t + 1) j) (h3 : F' ix = nI (k + 1)) (h4 : ∀ j, base ≤ j → j < base + wd * k → F' j = F j) (h5 : ∀ c, c < wd → gr σ' (t + 1) (k * wd + c) = F' (base + wd * k + c) ∧ lo.getD c 0 ≤ (F' (base + wd * k + c)).toInt ∧ (F' (base + wd * k + c)).toInt ≤ hi.getD c 0) : TV σ' t F' ix base wd room lo hi := by
  obtain ⟨k', a1, a2, a3, a4⟩ := h
  obtain rfl : k = k' := (nI_eq (by omega) (by omega)).mp (hk.symm.trans a2)
  refine ⟨k + 1, by omega, h1, h3, fun i hi' c hc => ?_⟩
  by_cases e : i = k
  · subst e
    exact h5 c hc
  · have hb : wd * i + c < wd * k := by
      have : wd * (i + 1) ≤ wd * k := Nat.mul_le_mul_left _ (by omega)
      rw [Nat.mul_add] at this
      omega
    rw [h2 _ (by rw [Nat.mul_comm i wd]; exact hb), h4 _ (by omega) (by omega)]
    exact a4 i (by omega) c hc
theorem HD.mv {σ σ' : St} {w : Nat} {F F' : Nat → Int32} (h : HD σ w F) (h1 : ∀ k, k < 5 → gf σ' w k = gf σ w k) (h2 : ∀ s, s < 2 → gr σ' (w + 1) s = gr σ (w + 1) s) (h3 : ∀ j, j < 13 → j ≠ 4 → j ≠ 5 → j ≠ 6 → j ≠ 7 → j ≠ 8 → j ≠ 10 → F' j = F j) : HD σ' w F' := by
  unfold HD at *
  rw [h1 0 (by omega), h1 1 (by omega), h1 2 (by omega), h1 3 (by omega), h1 4 (by omega), h2 0 (by omega), h2 1 (by omega), h3 9 (by omega) (by omega) (by omega) (by omega) (by omega) (by omega) (by omega), h3 0 (by omega) (by omega) (by omega) (by omega) (by omega) (by omega) (by omega), h3 1 (by omega) (by omega) (by omega) (by omega) (by omega) (by omega) (by omega), h3 2 (by omega) (by omega) (by omega) (by omega) (by omega) (by omega) (by omega), h3 3 (by omega) (by omega) (by omega) (by omega) (by omega) (by omega) (by omega), h3 11 (by omega) (by omega) (by omega) (by omega) (by omega) (by omega) (by omega), h3 12 (by omega) (by omega) (by omega) (by omega) (by omega) (by omega) (by omega)]
  exact h
/-- without changes -/
theorem CR.nil {σ σ' : St} {w : Nat} {F F' : Nat → Int32} (h : F 10 = nI 0) (hc : CR σ w F) (h1 : gf σ' (w + 12) 3 = gf σ (w + 12) 3) (h2 : F' 10 = F 10) : CR σ' w F' := by
  obtain ⟨k, a1, a2, a3, a4⟩ := hc
  obtain rfl : k = 0 := (nI_eq (by omega) (by omega)).mp (a3.symm.trans h)
  exact ⟨0, by omega, h1.trans a2, h2.trans a3, fun j hj => absurd hj (by omega)⟩
/-! tables of the draft -/
theorem tb17 : TB4 17 6 9 := by unfold TB4; decide
theorem tb19 : TB4 19 2 4 := by unfold TB4; decide
theorem tb21 : TB4 21 4 8 := by unfold TB4; decide
theorem tb23 : TB4 23 2 4 := by unfold TB4; decide
theorem tb25 : TB4 25 1 5 := by unfold TB4; decide
/-! ===== behind a FAULT ===== -/
theorem is0_bad {τ : St} {z : Nat} (hz : z < 21) (h : ¬ gf τ 58 12 = 0) : f_X12_takes z τ = some (0, τ) := by
  unfold f_X12_takes f_X12_takes_14
  rw [isS_t hz, gd_tt, S_isF hz h, bd_mk, if_pos rfl, bz_0, gd_tt]
theorem needs_bad {τ : St} {z : Nat} (hz : z < 21) (h : ¬ gf τ 58 12 = 0) : f_X12_needs z τ = some ((), τ) := by
  unfold f_X12_needs f_X12_needs_13
  rw [isS_t hz, gd_tt, is0_bad hz h, bd_mk, if_pos rfl, errs_bad _ h, bd_mk]
theorem told_bad {τ : St} {z : Nat} (lo hi : Int32) (hz : z < 21) (h : ¬ gf τ 58 12 = 0) : f_X12_told z lo hi τ = some (0, τ) := by
  unfold f_X12_told
  rw [isS_t hz, gd_tt, needs_bad hz h, bd_mk, num_bad lo hi h, bd_mk]
theorem T_word {σ τ : St} {n z : Nat} (hz : z < 21) (hL : LX σ n) (hB : BD σ τ) : ∃ σ', f_X6_word z σ = some ((), σ') ∧ LX σ' n ∧ BD σ' τ ∧ Fr [29] σ σ' := by
  obtain ⟨σ', τ', a1, a2, a3, a4, a5, a6⟩ := R_word (τ := τ) hz ⟨hL, Or.inr hB⟩
  rw [needs_bad hz hB.notM] at a2
  cases a2
  rcases a3.2 with c | c
  · exact absurd c.okM.2 hB.notM
  · exact ⟨σ', a1, a3.1, c, a5⟩
theorem BD.mv {σ σ' τ : St} {l : List Nat} (h : BD σ τ) (hf : Fr l σ σ') (a : 29 ∉ l) : BD σ' τ := by
  unfold BD at *
  rw [(hf.1 29 a).1]
  exact h
theorem LX.mv {σ σ' : St} {n : Nat} {l : List Nat} (h : LX σ n) (hf : Fr l σ σ') (a : 29 ∉ l) : LX σ' n := by
  unfold LX at *
  rw [(hf.1 29 a).1]
  exact h
theorem T_cell {t wd room k c n : Nat} {σ τ : St} (hT : TB4 t wd room) (hk : k < room) (hc : c < wd) (lo hi : Int32) (h : gf σ t 3 = nI (k + 1)) (hL : LX σ n) (hB : BD σ τ) : ∃ σ', f_X6_cell t (nI c) lo hi σ = some ((), σ') ∧ LX σ' n ∧ BD σ' τ ∧ Fr [29, t + 1] σ σ' ∧ gf σ' t 3 = nI (k + 1) := by
  have hne0 : t ≠ 29 := hT.2.2.2.2.2.2.2.2.2.2.1
  have hne : t + 1 ≠ 29 := hT.2.2.2.2.2.2.2.2.2.2.2.1
  obtain ⟨r, s2, a1, a2, a3, a4, -⟩ := T_num (τ := τ) lo hi hL hB
  have h2 : gf s2 t 3 = nI (k + 1) := by rw [(a4.1 t (by simp; omega)).1]; exact h
  have hF : Fr [t + 1] s2 (sr s2 (t + 1) (k * wd + c) r) := Fr.c2 (by simp)
  refine ⟨sr s2 (t + 1) (k * wd + c) r, ?_, a2.mv hF (by simp; omega), a3.mv hF (by simp; omega), (a4.mo (by simp)).tr (hF.mo (by simp)), h2⟩
  unfold f_X6_cell
  rw [hT.isT σ, gd_tt, a1, bd_mk, h, S_set hT hk hc r h2, bd_mk]
theorem T_wcell {t wd room k c n z : Nat} {σ τ : St} (hT : TB4 t wd room) (hk : k < room) (hc : c < wd) (hz : z < 21) (lo hi : Int32) (h : gf σ t 3 = nI (k + 1)) (hL : LX σ n) (hB : BD σ τ) : ∃ σ1 σ', f_X6_word z σ = some ((), σ1) ∧ f_X6_cell t (nI c) lo hi σ1 = some ((), σ') ∧ LX σ' n ∧ BD σ' τ ∧ Fr [29, t + 1] σ σ' ∧ gf σ' t 3 = nI (k + 1) := by
  have hne0 : t ≠ 29 := hT.2.2.2.2.2.2.2.2.2.2.1
  obtain ⟨σ1, a1, a2, a3, a4⟩ := T_word hz hL hB
  obtain ⟨σ', b1, b2', b3, b4, b5⟩ := T_cell hT hk hc lo hi (by rw [(a4.1 t (by simp; omega)).1]; exact h) a2 a3
  exact ⟨σ1, σ', a1, b1, b2', b3, (a4.mo (by simp)).tr b4, b5⟩
/-- a table's beginning when it is full: a FAULT of both -/
theorem R_over {t wd room n : Nat} {σ τ : St} (hT : TB4 t wd room) (h : gf σ t 3 = nI room) (hR : RP σ τ n) : ∃ σ' τ', f_X6_begin t σ = some ((), σ') ∧ f_X12_errs (3 : Int32) τ = some ((), τ') ∧ LX σ' n ∧ BD σ' τ' ∧ Fr [29] σ σ' ∧ OM τ τ' := by
  obtain ⟨σ', τ', a1, a2, a3, a4, a5, a6⟩ := R_blame 3 ⟨by omega, by omega⟩ hR
  refine ⟨σ', τ', ?_, a2, a3.1, ?_, a5, a6⟩
  · unfold f_X6_begin
    rw [hT.isT σ, gd_tt, S_full hT (Nat.le_refl _) h, bd_mk, b2_t rfl, if_neg n10, show f_X6_blame (3 : Int32) σ = some ((), σ') from a1, bd_mk]
  · rcases a3.2 with c | c
    · exact absurd c.okM.1 a4
    · exact c
/-- a told number whose bounds are the same without a FAULT -/
theorem R_told2 {σ τ : St} {n z : Nat} (lo hi lo' hi' : Int32) (hz : z < 21) (hs : ok σ → lo = lo' ∧ hi = hi' ∧ 0 ≤ lo.toInt ∧ hi.toInt ≤ 999) (h : RP σ τ n) : ∃ r r' σ1 σ' τ', f_X6_word z σ = some ((), σ1) ∧ f_X6_number lo hi σ1 = some (r, σ') ∧ f_X12_told z lo' hi' τ = some (r', τ') ∧ RP σ' τ' n ∧ PG σ σ' ∧ Fr [29] σ σ1 ∧ Fr [29] σ σ' ∧ OM τ τ' ∧ (ok σ' → r = r' ∧ lo.toInt ≤ r.toInt ∧ r.toInt ≤ hi.toInt) ∧ (r = 0 ∨ (lo.toInt ≤ r.toInt ∧ r.toInt ≤ hi.toInt)) := by
  rcases h.2 with hG | hB
  · obtain ⟨rfl, rfl, h1, h2⟩ := hs hG.okM.1
    obtain ⟨r, r', σ1, σ', τ', a1, a2, a3, a4, a5, a6, a7, a8, a9, a10, a11⟩ := R_told lo hi hz h1 h2 h
    exact ⟨r, r', σ1, σ', τ', a1, a2, a3, a4, a5, a6, a7, a8, a9, a10⟩
  · obtain ⟨σ1, a1, a2, a3, a4⟩ := T_word hz h.1 hB
    obtain ⟨r, σ', b1, b2', b3, b4, b5⟩ := T_num (τ := τ) lo hi a2 a3
    exact ⟨r, 0, σ1, σ', τ, a1, b1, told_bad lo' hi' hz hB.notM, ⟨b2', Or.inr b3⟩, fun o => absurd o b3.not, a4, a4.tr b4, OM.rf, fun o => absurd o b3.not, b5⟩
