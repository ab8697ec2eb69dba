/-! ===== tables of the draft, the reference's fresh row ===== -/
def OF (τ τ' : St) : Prop := Fr [58, 64] τ τ' ∧ ∀ k, k < 8 ∨ 13 < k → gf τ' 58 k = gf τ 58 k
theorem OF.rf {τ : St} : OF τ τ := ⟨Fr.rf, fun _ _ => rfl⟩
theorem OF.tr {τ τ' τ'' : St} (h : OF τ τ') (g : OF τ' τ'') : OF τ τ'' := ⟨h.1.tr g.1, fun k hk => (g.2 k hk).trans (h.2 k hk)⟩
theorem OM.of {τ τ' : St} (h : OM τ τ') : OF τ τ' := ⟨h.1.mo (by simp), h.2⟩
theorem OF.s64 {τ : St} {k : Nat} {v : Int32} : OF τ (sr τ 64 k v) := ⟨Fr.c2 (by simp), fun _ _ => rfl⟩
theorem OM.r64 {τ τ' : St} (h : OM τ τ') : gr τ' 64 = gr τ 64 := (h.1.1 64 (by simp)).2.1
/-- a table by its number: width, room, rows that fit -/
def TB4 (t wd room : Nat) : Prop := tw t = nI wd ∧ tm t = nI room ∧ ln (t + 1) = room * wd ∧ kd t = 8 ∧ kd (t + 1) = 13 ∧ t + 1 < 75 ∧ 1 ≤ wd ∧ wd ≤ 6 ∧ 1 ≤ room ∧ room ≤ 60 ∧ t ≠ 29 ∧ t + 1 ≠ 29 ∧ t ≠ 30 ∧ t + 1 ≠ 30
theorem TB4.isT {t wd room : Nat} (h : TB4 t wd room) (σ : St) : isT σ t = true := isT_lit ⟨h.2.2.2.1, h.2.2.2.2.1, h.2.2.2.2.2.1⟩
theorem S_full {t wd room k : Nat} {σ : St} (hT : TB4 t wd room) (hk : k ≤ room) (h : gf σ t 3 = nI k) : f_X9_isFull t σ = some (b2 (k = room), σ) := by
  have hi := hT.isT σ
  obtain ⟨h1, h2, h3, h4, h5, h6, h7, h8, h9, h10, -⟩ := hT
  unfold f_X9_isFull f_X9_isFull_16
  rw [hi, gd_tt, h, h2]
  by_cases c : k = room
  · rw [if_neg (nI_nlt (by omega) (by omega)), b2_t c, bz_1, gd_tt]
  · rw [if_pos (nI_lt (by omega) (by omega)), b2_f c, bz_0, gd_tt]
theorem S_add {t wd room k : Nat} {σ : St} (hT : TB4 t wd room) (hk : k < room) (h : gf σ t 3 = nI k) : f_X9_add t σ = some ((), sf σ t 3 (nI (k + 1))) := by
  have hi := hT.isT σ
  have hr : room ≤ 60 := hT.2.2.2.2.2.2.2.2.2.1
  unfold f_X9_add f_X9_add_17
  rw [hi, gd_tt, S_full hT (by omega) h, bd_mk, b2_f (by omega), if_pos rfl, hi, gd_tt, bnd_mk, h, nI_1]
theorem S_set {t wd room k c : Nat} {σ : St} (hT : TB4 t wd room) (hk : k < room) (hc : c < wd) (r : Int32) (h : gf σ t 3 = nI (k + 1)) : f_X9_set t (nI (k + 1) - 1) (nI c) r σ = some ((), sr σ (t + 1) (k * wd + c) r) := by
  have hi := hT.isT σ
  obtain ⟨h1, h2, h3, h4, h5, h6, h7, h8, h9, h10, -⟩ := hT
  have hb : k * wd + c < room * wd := by
    have : (k + 1) * wd ≤ room * wd := Nat.mul_le_mul_right _ hk
    rw [Nat.add_mul, Nat.one_mul] at this
    omega
  have hb2 : room * wd ≤ 360 := by
    calc room * wd ≤ 60 * 6 := Nat.mul_le_mul h10 h8
      _ = 360 := rfl
  unfold f_X9_set f_X9_set_38
  rw [hi, gd_tt, h, h1, nI_pred, if_neg (nI_pos (by omega)), if_neg (nI_ge (by omega) (by omega)), if_neg (nI_pos (by omega)), if_neg (nI_ge (by omega) (by omega)), h3, nI_mul, nI_add, inb_nI hb (by omega), gd_tt, bnd_mk, nI_clamp (by omega)]
theorem S_getc {t wd room k i c : Nat} {σ : St} (hT : TB4 t wd room) (hk : k ≤ room) (hi' : i < k) (hc : c < wd) (h : gf σ t 3 = nI k) : f_X9_cell t (nI i) (nI c) σ = some (gr σ (t + 1) (i * wd + c), σ) := by
  have hi := hT.isT σ
  obtain ⟨h1, h2, h3, h4, h5, h6, h7, h8, h9, h10, -⟩ := hT
  have hb : i * wd + c < room * wd := by
    have : (i + 1) * wd ≤ room * wd := Nat.mul_le_mul_right _ (by omega)
    rw [Nat.add_mul, Nat.one_mul] at this
    omega
  have hb2 : room * wd ≤ 360 := by
    calc room * wd ≤ 60 * 6 := Nat.mul_le_mul h10 h8
      _ = 360 := rfl
  unfold f_X9_cell f_X9_cell_24
  rw [hi, gd_tt, h, h1, if_neg (nI_pos (by omega)), if_neg (nI_ge (by omega) (by omega)), if_neg (nI_pos (by omega)), if_pos (nI_lt (by omega) (by omega)), h3, nI_mul, nI_add, inb_nI hb (by omega), gd_tt, nI_clamp (by omega)]
/-- a table's beginning when it isn't full -/
theorem R_begin {t wd room k n : Nat} {σ τ : St} (hT : TB4 t wd room) (hk : k < room) (h : gf σ t 3 = nI k) (hL : LX σ n) (hG : GD σ τ n) : ∃ σ' τ', f_X6_begin t σ = some ((), σ') ∧ f_X12_advance τ = some ((), τ') ∧ RP σ' τ' n ∧ PG σ σ' ∧ gf σ' t 3 = nI (k + 1) ∧ Fr [29, t] σ σ' ∧ (∀ j, j ≠ 3 → gf σ' t j = gf σ t j) ∧ OM τ τ' := by
  have hi := hT.isT σ
  have hne : 29 ≠ t := fun z => hT.2.2.2.2.2.2.2.2.2.2.1 z.symm
  have hne30 : 30 ≠ t := fun z => hT.2.2.2.2.2.2.2.2.2.2.2.2.1 z.symm
  have hF : Fr [t] σ (sf σ t 3 (nI (k + 1))) := Fr.c1 (by simp)
  have hR : RP (sf σ t 3 (nI (k + 1))) τ n := RP.mv (σ := σ) (τ := τ) ⟨hL, Or.inl hG⟩ hF (Fr.rf (l := [])) (by simp; exact hne) (by simp; exact hne30) (by simp) (by simp)
  have hG' : GD (sf σ t 3 (nI (k + 1))) τ n := by
    rcases hR.2 with c | c
    · exact c
    · exact absurd ((ok.mv hF (by simp; exact hne)).mpr hG.okM.1) c.not
  obtain ⟨σ', τ', a1, a2, a3, a4, a5, a6, a7⟩ := R_adv hR.1 hG'
  have hst : gf σ' t = gf (sf σ t 3 (nI (k + 1))) t := (a6.1 t (by simp; exact fun z => hne z.symm)).1
  refine ⟨σ', τ', ?_, a2, ⟨a3, Or.inl a4⟩, fun o => ⟨hG.okM.1, ?_⟩, ?_, (hF.mo (by simp)).tr (a6.mo (by simp)), fun j hj => ?_, a7⟩
  · unfold f_X6_begin
    rw [hi, gd_tt, S_full hT (by omega) h, bd_mk, b2_f (by omega), if_pos rfl, S_add hT hk h, bd_mk, a1, bd_mk]
  · have h1 := (GD.le hR.1 hG').1
    rw [(hF.1 29 (by simp; exact hne)).1] at h1 a5
    omega
  · rw [hst, gf_sf_s, if_pos rfl]
  · rw [hst, gf_sf_s, if_neg hj]
/-- a column of a table's last row: a number of both -/
theorem R_col {t wd room k c X n : Nat} {σ τ : St} (hT : TB4 t wd room) (hk : k < room) (hc : c < wd) (hX : X < 240) (lo hi : Int32) (hlo : 0 ≤ lo.toInt) (hhi : hi.toInt ≤ 999) (h : gf σ t 3 = nI (k + 1)) (hR : RP σ τ n) : ∃ r' σ' τ1, f_X6_cell t (nI c) lo hi σ = some ((), σ') ∧ f_X12_number lo hi τ = some (r', τ1) ∧ RP σ' (sr τ1 64 X r') n ∧ PG σ σ' ∧ Fr [29, t + 1] σ σ' ∧ OF τ (sr τ1 64 X r') ∧ (∀ j, j ≠ k * wd + c → gr σ' (t + 1) j = gr σ (t + 1) j) ∧ (∀ j, j ≠ X → gr (sr τ1 64 X r') 64 j = gr τ 64 j) ∧ (ok σ' → gr σ' (t + 1) (k * wd + c) = gr (sr τ1 64 X r') 64 X ∧ lo.toInt ≤ (gr (sr τ1 64 X r') 64 X).toInt ∧ (gr (sr τ1 64 X r') 64 X).toInt ≤ hi.toInt) ∧ gr τ1 64 = gr τ 64 := by
  have hi' := hT.isT σ
  have hne : 29 ≠ t + 1 := fun z => hT.2.2.2.2.2.2.2.2.2.2.2.1 z.symm
  have hne0 : t ≠ 29 := hT.2.2.2.2.2.2.2.2.2.2.1
  have hne30 : 30 ≠ t + 1 := fun z => hT.2.2.2.2.2.2.2.2.2.2.2.2.2 z.symm
  obtain ⟨r, r', s2, τ1, a1, a2, a3, a4, a5, a6, a7, a8, a9⟩ := R_num lo hi hlo hhi hR
  have h2 : gf s2 t 3 = nI (k + 1) := by rw [(a5.1 t (by simp; exact hne0)).1]; exact h
  have hF : Fr [t + 1] s2 (sr s2 (t + 1) (k * wd + c) r) := Fr.c2 (by simp)
  have hR2 : RP (sr s2 (t + 1) (k * wd + c) r) (sr τ1 64 X r') n := RP.mv a3 hF (Fr.c2 (l := [64]) (by simp)) (by simp; omega) (by simp; omega) (by simp) (by simp)
  have e64 : gr τ1 64 = gr τ 64 := a6.r64
  have e29 : gr s2 (t + 1) = gr σ (t + 1) := (a5.1 (t + 1) (by simp; omega)).2.1
  refine ⟨r', sr s2 (t + 1) (k * wd + c) r, τ1, ?_, a2, hR2, a4.tr (PG.mv hF (by simp; omega)), (a5.mo (by simp)).tr (hF.mo (by simp)), a6.of.tr OF.s64, fun j hj => ?_, fun j hj => ?_, fun o => ?_, e64⟩
  · unfold f_X6_cell
    rw [hi', gd_tt, a1, bd_mk, h, S_set hT hk hc r h2, bd_mk]
  · rw [gr_sr_s, if_neg hj, e29]
  · rw [gr_sr_s, if_neg hj, e64]
  · have o2 := (ok.mv hF (by simp; omega)).mp o
    obtain ⟨b1, b2', b3⟩ := a7 o2
    rw [gr_sr_s, if_pos rfl, gr_sr_s, if_pos rfl, ← b1]
    exact ⟨rfl, b2', b3⟩
/-- the same behind a word -/
theorem R_wcol {t wd room k c X n z : Nat} {σ τ : St} (hT : TB4 t wd room) (hk : k < room) (hc : c < wd) (hX : X < 240) (hz : z < 21) (lo hi : Int32) (hlo : 0 ≤ lo.toInt) (hhi : hi.toInt ≤ 999) (h : gf σ t 3 = nI (k + 1)) (hR : RP σ τ n) : ∃ r' σ1 σ' τ1, f_X6_word z σ = some ((), σ1) ∧ f_X6_cell t (nI c) lo hi σ1 = some ((), σ') ∧ f_X12_told z lo hi τ = some (r', τ1) ∧ RP σ' (sr τ1 64 X r') n ∧ PG σ σ' ∧ Fr [29] σ σ1 ∧ Fr [29, t + 1] σ σ' ∧ OF τ (sr τ1 64 X r') ∧ (∀ j, j ≠ k * wd + c → gr σ' (t + 1) j = gr σ (t + 1) j) ∧ (∀ j, j ≠ X → gr (sr τ1 64 X r') 64 j = gr τ 64 j) ∧ (ok σ' → gr σ' (t + 1) (k * wd + c) = gr (sr τ1 64 X r') 64 X ∧ lo.toInt ≤ (gr (sr τ1 64 X r') 64 X).toInt ∧ (gr (sr τ1 64 X r') 64 X).toInt ≤ hi.toInt) ∧ gr τ1 64 = gr τ 64 := by
  have hne0 : t ≠ 29 := hT.2.2.2.2.2.2.2.2.2.2.1
  have hne : 29 ≠ t + 1 := fun z => hT.2.2.2.2.2.2.2.2.2.2.2.1 z.symm
  obtain ⟨σ1, τ0, a1, a2, a3, a4, a5, a6⟩ := R_word hz hR
  have h1 : gf σ1 t 3 = nI (k + 1) := by rw [(a5.1 t (by simp; exact hne0)).1]; exact h
  obtain ⟨r', σ', τ1, b1, b2', b3, b4, b5, b6, b7, b8, b9, b10⟩ := R_col (X := X) hT hk hc hX lo hi hlo hhi h1 a3
  have e1 : gr σ1 (t + 1) = gr σ (t + 1) := (a5.1 (t + 1) (by simp; omega)).2.1
  refine ⟨r', σ1, σ', τ1, a1, b1, ?_, b3, a4.tr b4, a5, (a5.mo (by simp)).tr b5, a6.of.tr b6, fun j hj => (b7 j hj).trans (by rw [e1]), fun j hj => (b8 j hj).trans (by rw [a6.r64]), b9, b10.trans a6.r64⟩
  unfold f_X12_told
  rw [isS_t hz, gd_tt, a2, bd_mk, b2', bd_mk]
