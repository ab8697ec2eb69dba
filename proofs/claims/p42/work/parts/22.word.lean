/-! ===== words ===== -/
theorem sl_sh : ∀ z, z < 21 → nI (sL z) >>> ((0 : Int32) &&& 31) = nI (sL z) := by decide +kernel
theorem sb_ch : ∀ z, z < 21 → ∀ i, i < sL z → (((sB z i) &&& (255 : Int32)).toUInt32 % 65536).toInt32 = sB z i ∧ nch (sB z i) = true := by decide +kernel
theorem sl_bd : ∀ z, z < 21 → sL z ≤ 7 ∧ 1 ≤ sL z := by decide +kernel
theorem isS_t {σ : St} {z : Nat} (h : z < 21) : isS σ z = true := by
  unfold isS
  exact decide_eq_true h
theorem S_len {σ : St} {z : Nat} (h : z < 21) : f_J0_length_8abf5 z σ = some (nI (sL z), σ) := by
  unfold f_J0_length_8abf5 f_J0_coder_7d493 f_J0_coder_7d493_14
  rw [isS_t h, gd_tt, gd_tt, if_neg n10, show nby (0 : Int32) = true from rfl, gd_tt, bd_mk, sl_sh z h]
theorem S_chr {σ : St} {z i : Nat} (h : z < 21) (hi : i < sL z) : f_J0_charAt_5068e z (nI i) σ = some (sB z i, σ) := by
  have hb := sl_bd z h
  unfold f_J0_charAt_5068e f_J0_isLatin1_aae02 f_J0_isLatin1_aae02_18 f_J1_charAt_3b067 f_J0_checkIndex_df160 f_J3_checkIndex_8e157
  rw [isS_t h, gd_tt, gd_tt, if_neg n10, if_pos rfl, bz_1, gd_tt, bd_mk, if_neg n10, isS_t h, gd_tt, gd_tt, if_neg (nI_pos (by omega)), if_pos (nI_lt hi (by omega)), bd_mk, bd_mk, isS_t h, gd_tt, inb_nI hi (by omega), gd_tt, nI_clamp (by omega), (sb_ch z h i hi).1, (sb_ch z h i hi).2, gd_tt, bd_mk, (sb_ch z h i hi).2, gd_tt]
/-- a TOKEN is the word z -/
abbrev IW (b : Nat → Int32) (q e K z : Nat) : Prop := K = 2 ∧ e = q + sL z ∧ ∀ i, i < sL z → b (q + i) = sB z i
theorem sees_loop {σ : St} {z q : Nat} (hz : z < 21) (hq : q + sL z ≤ 1200) (h5 : gf σ 29 5 = nI q) : ∀ (c i Q : Nat), i + c = sL z → c < Q → (∀ j, j < i → gr σ 30 (q + j) = sB z j) → itr (g_X6_sees_28 z) Q (nI i, σ) = some (b2 (∀ j, j < sL z → gr σ 30 (q + j) = sB z j), σ) := by
  have hb := sl_bd z hz
  intro c
  induction c with
  | zero =>
    intro i Q h hQ hm
    obtain ⟨Q, rfl⟩ : ∃ r, Q = r + 1 := ⟨Q - 1, by omega⟩
    rw [itr_succ]
    generalize itr (g_X6_sees_28 z) Q = R
    unfold g_X6_sees_28
    dsimp only
    rw [S_len hz, bd_mk, if_pos (nI_le (by omega) (by omega)), bz_1, gd_tt, b2_t (fun j hj => hm j (by omega))]
  | succ c ih =>
    intro i Q h hQ hm
    obtain ⟨Q, rfl⟩ : ∃ r, Q = r + 1 := ⟨Q - 1, by omega⟩
    rw [itr_succ]
    generalize hR : itr (g_X6_sees_28 z) Q = R
    unfold g_X6_sees_28
    dsimp only
    rw [S_len hz, bd_mk, if_neg (nI_ge (by omega) (by omega)), h5, nI_add, S_byteAt (by omega), bd_mk, S_chr hz (by omega), bd_mk]
    by_cases g : gr σ 30 (q + i) = sB z i
    · rw [if_pos g, bnd_mk, nI_1, ← hR]
      exact ih (i + 1) Q (by omega) (by omega) (fun j hj => by
        by_cases ej : j = i
        · rw [ej]; exact g
        · exact hm j (by omega))
    · rw [if_neg g, bz_0, gd_tt, b2_f (fun w => g (w i (by omega)))]
theorem S_sees {σ : St} {z q e K n : Nat} (hz : z < 21) (hn : n ≤ 1200) (he : q ≤ e ∧ e ≤ n) (hK : K ≤ 5) (h5 : gf σ 29 5 = nI q) (h6 : gf σ 29 6 = nI e) (h7 : gf σ 29 7 = nI K) : f_X6_sees z σ = some (b2 (IW (gr σ 30) q e K z), σ) := by
  have hb := sl_bd z hz
  unfold f_X6_sees f_X6_sees_24
  rw [isS_t hz, gd_tt, h7, h6, h5, bz_0, gd_tt]
  by_cases k2 : K = 2
  · rw [if_pos (by rw [k2]; rfl), S_len hz, bd_mk]
    have es : nI e - nI q = nI (e - q) := by
      apply i32_eq
      rw [i32_sub, nI_toInt (by omega), nI_toInt (by omega), nI_toInt (by omega)]
      · omega
      · rw [nI_toInt (by omega), nI_toInt (by omega)]
        omega
    rw [es]
    by_cases el : e = q + sL z
    · rw [if_pos (by rw [el, Nat.add_sub_cancel_left]), show (0 : Int32) = nI 0 from rfl, sees_loop hz (by omega) h5 (sL z) 0 FU (by omega) (by unfold FU; omega) (fun j hj => absurd hj (by omega))]
      by_cases w : ∀ j, j < sL z → gr σ 30 (q + j) = sB z j
      · rw [b2_t w, b2_t ⟨k2, el, w⟩]
      · rw [b2_f w, b2_f (fun g => w g.2.2)]
    · have : ¬ nI (e - q) = nI (sL z) := fun g => el (by
        have := (nI_eq (by omega) (by omega)).mp g
        omega)
      rw [if_neg this, b2_f (fun g => el g.2.1), gd_tt]
  · have : ¬ nI K = (2 : Int32) := fun g => k2 ((nI_eq (a := K) (b := 2) (by omega) (by omega)).mp g)
    rw [if_neg this, b2_f (fun g => k2 g.1)]
theorem is_loop {τ : St} {z q : Nat} (hz : z < 21) (hq : q + sL z ≤ 1200) (h9 : gf τ 58 9 = nI q) : ∀ (c i Q : Nat), i + c = sL z → c < Q → (∀ j, j < i → gr τ 62 (q + j) = sB z j) → itr (g_X12_is_39 z) (Q + 1) (1, nI i, τ) = some (b2 (∀ j, j < sL z → gr τ 62 (q + j) = sB z j), τ) := by
  have hb := sl_bd z hz
  intro c
  induction c with
  | zero =>
    intro i Q h hQ hm
    rw [itr_succ]
    generalize itr (g_X12_is_39 z) Q = R
    unfold g_X12_is_39 f_X12_is_82
    dsimp only
    rw [S_len hz, bd_mk, if_pos (nI_le (by omega) (by omega)), bz_1, gd_tt, b2_t (fun j hj => hm j (by omega))]
  | succ c ih =>
    intro i Q h hQ hm
    obtain ⟨Q, rfl⟩ : ∃ r, Q = r + 1 := ⟨Q - 1, by omega⟩
    rw [itr_succ]
    generalize hR : itr (g_X12_is_39 z) (Q + 1) = R
    unfold g_X12_is_39 f_X12_is_75
    dsimp only
    rw [S_len hz, bd_mk, if_neg (nI_ge (by omega) (by omega)), if_neg n10, h9, nI_add, show ln 62 = 1200 from rfl, inb_nI (by omega) (by decide), gd_tt, S_chr hz (by omega), bd_mk, bnd_mk, bnd_mk, nI_1, nI_clamp (by omega)]
    by_cases g : gr τ 62 (q + i) = sB z i
    · rw [if_pos g, ← hR]
      exact ih (i + 1) Q (by omega) (by omega) (fun j hj => by
        by_cases ej : j = i
        · rw [ej]; exact g
        · exact hm j (by omega))
    · rw [if_neg g, ← hR, itr_succ]
      unfold g_X12_is_39 f_X12_is_82
      dsimp only
      rw [S_len hz, bd_mk, bz_0, gd_tt, b2_f (fun w => g (w i (by omega)))]
      split
      · rfl
      · rfl
theorem S_good (τ : St) : f_X12_good τ = some (b2 (gf τ 58 12 = 0), τ) := by
  unfold f_X12_good f_X12_good_12
  by_cases c : gf τ 58 12 = 0
  · rw [if_pos c, b2_t c]
    rfl
  · rw [if_neg c, b2_f c]
    rfl
theorem is_no {τ : St} {z : Nat} (hz : z < 21) : f_X12_is_35 z τ = some (0, τ) := by
  have hb := sl_bd z hz
  unfold f_X12_is_35 f_X12_is_36
  rw [show FU = 4999 + 1 from rfl, itr_succ]
  generalize itr (g_X12_is_39 z) 4999 = R
  unfold g_X12_is_39 f_X12_is_82
  dsimp only
  rw [S_len hz, bd_mk, bz_0, gd_tt]
  split
  · rfl
  · rfl
theorem S_is {τ : St} {z q e K n : Nat} (hz : z < 21) (hn : n ≤ 1200) (he : q ≤ e ∧ e ≤ n) (hK : K ≤ 5) (hg : gf τ 58 12 = 0) (h9 : gf τ 58 9 = nI q) (h8 : gf τ 58 8 = nI e) (h10 : gf τ 58 10 = nI (tkK K)) : f_X12_is z τ = some (b2 (IW (gr τ 62) q e K z), τ) := by
  have hb := sl_bd z hz
  have ht : tkK K ≤ 5 := by
    unfold tkK
    split <;> omega
  unfold f_X12_is
  rw [isS_t hz, gd_tt, S_good, bd_mk, b2_t hg, if_neg n10, h10, h9, h8]
  by_cases k2 : K = 2
  · rw [if_pos (by rw [k2]; rfl), S_len hz, bd_mk]
    have es : nI e - nI q = nI (e - q) := by
      apply i32_eq
      rw [i32_sub, nI_toInt (by omega), nI_toInt (by omega), nI_toInt (by omega)]
      · omega
      · rw [nI_toInt (by omega), nI_toInt (by omega)]
        omega
    rw [es]
    by_cases el : e = q + sL z
    · rw [if_pos (by rw [el, Nat.add_sub_cancel_left])]
      unfold f_X12_is_36
      rw [show (0 : Int32) = nI 0 from rfl, show FU = 4999 + 1 from rfl, is_loop hz (by omega) h9 (sL z) 0 4999 (by omega) (by omega) (fun j hj => absurd hj (by omega))]
      by_cases w : ∀ j, j < sL z → gr τ 62 (q + j) = sB z j
      · rw [b2_t w, b2_t ⟨k2, el, w⟩]
      · rw [b2_f w, b2_f (fun g => w g.2.2)]
    · have : ¬ nI (e - q) = nI (sL z) := fun g => el (by
        have := (nI_eq (by omega) (by omega)).mp g
        omega)
      rw [if_neg this, is_no hz, b2_f (fun g => el g.2.1)]
  · have : ¬ nI (tkK K) = (1 : Int32) := fun g => by
      have := (nI_eq (a := tkK K) (b := 1) (by omega) (by omega)).mp g
      unfold tkK at this
      split at this <;> omega
    rw [if_neg this, is_no hz, b2_f (fun g => k2 g.1)]
theorem S_isF {τ : St} {z : Nat} (hz : z < 21) (hg : ¬ gf τ 58 12 = 0) : f_X12_is z τ = some (0, τ) := by
  unfold f_X12_is
  rw [isS_t hz, gd_tt, S_good, bd_mk, b2_f hg, if_pos rfl, is_no hz]
