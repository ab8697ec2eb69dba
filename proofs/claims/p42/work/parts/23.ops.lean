/-! ===== both readers side by side: σ has the class's, τ the reference's ===== -/
def ok (σ : St) : Prop := gf σ 29 2 = 0
def LX (σ : St) (n : Nat) : Prop := n ≤ 1200 ∧ gf σ 29 1 = nI n ∧ ∃ q e K : Nat, q ≤ e ∧ e ≤ n ∧ K ≤ 5 ∧ gf σ 29 5 = nI q ∧ gf σ 29 6 = nI e ∧ gf σ 29 7 = nI K
def GDt (σ τ : St) (n q e K : Nat) : Prop := q ≤ e ∧ e ≤ n ∧ K ≤ 5 ∧ K ≠ 1 ∧ (K ≠ 0 → q < e) ∧ gf σ 29 5 = nI q ∧ gf σ 29 6 = nI e ∧ gf σ 29 7 = nI K ∧ gf τ 58 9 = nI q ∧ gf τ 58 8 = nI e ∧ gf τ 58 10 = nI (tkK K) ∧ (K = 3 → ∃ x y : Nat, gf σ 29 8 = nI x ∧ gf τ 58 11 = nI y ∧ VR x y)
def GDb (σ τ : St) (n : Nat) : Prop := gf σ 29 2 = 0 ∧ gf τ 58 12 = 0 ∧ gf σ 29 3 = -1 ∧ gf τ 58 13 = -1 ∧ gf τ 58 7 = nI n ∧ ∀ j, j < n → gr σ 30 j = gr τ 62 j ∧ by8 (gr σ 30 j)
def GD (σ τ : St) (n : Nat) : Prop := GDb σ τ n ∧ ∃ q e K, GDt σ τ n q e K
def BD (σ τ : St) : Prop := ∃ f p : Nat, 1 ≤ f ∧ f ≤ 3 ∧ p ≤ 1200 ∧ gf σ 29 2 = nI f ∧ gf τ 58 12 = nI f ∧ gf σ 29 3 = nI p ∧ gf τ 58 13 = nI p
/-- without a FAULT they see the same TOKEN; with one it is the same one -/
def RP (σ τ : St) (n : Nat) : Prop := LX σ n ∧ (GD σ τ n ∨ BD σ τ)
/-- what a reading changes of the reference -/
def OM (τ τ' : St) : Prop := Fr [58] τ τ' ∧ ∀ k, k < 8 ∨ 13 < k → gf τ' 58 k = gf τ 58 k
theorem OM.rf {τ : St} : OM τ τ := ⟨Fr.rf, fun _ _ => rfl⟩
theorem OM.tr {τ τ' τ'' : St} (h : OM τ τ') (g : OM τ' τ'') : OM τ τ'' := ⟨h.1.tr g.1, fun k hk => (g.2 k hk).trans (h.2 k hk)⟩
def PG (σ σ' : St) : Prop := ok σ' → ok σ ∧ (gf σ 29 5).toInt ≤ (gf σ' 29 5).toInt
theorem PG.rf {σ : St} : PG σ σ := fun h => ⟨h, Int.le_refl _⟩
theorem PG.tr {σ σ' σ'' : St} (h : PG σ σ') (g : PG σ' σ'') : PG σ σ'' := fun o => ⟨(h (g o).1).1, Int.le_trans (h (g o).1).2 (g o).2⟩
theorem BD.not {σ τ : St} (h : BD σ τ) : ¬ ok σ := by
  obtain ⟨f, p, h1, h2, h3, h4, -⟩ := h
  unfold ok
  rw [h4]
  exact nI_ne0 (by omega) (by omega)
theorem BD.notM {σ τ : St} (h : BD σ τ) : ¬ gf τ 58 12 = 0 := by
  obtain ⟨f, p, h1, h2, h3, h4, h5, -⟩ := h
  rw [h5]
  exact nI_ne0 (by omega) (by omega)
/-- other objects change: nothing of the relation does -/
theorem RP.mv {σ τ σ' τ' : St} {n : Nat} {l l' : List Nat} (h : RP σ τ n) (hf : Fr l σ σ') (hg : Fr l' τ τ') (a : 29 ∉ l) (b : 30 ∉ l) (c : 58 ∉ l') (d : 62 ∉ l') : RP σ' τ' n := by
  unfold RP LX GD GDb GDt BD at *
  rw [(hf.1 29 a).1, (hf.1 30 b).2.1, (hg.1 58 c).1, (hg.1 62 d).2.1]
  exact h
theorem ok.mv {σ σ' : St} {l : List Nat} (hf : Fr l σ σ') (a : 29 ∉ l) : ok σ' ↔ ok σ := by
  unfold ok
  rw [(hf.1 29 a).1]
theorem PG.mv {σ σ' : St} {l : List Nat} (hf : Fr l σ σ') (a : 29 ∉ l) : PG σ σ' := fun o => ⟨(ok.mv hf a).mp o, by rw [(hf.1 29 a).1]; exact Int.le_refl _⟩
/-! ===== a FAULT ===== -/
theorem R_blame {σ τ : St} {n : Nat} (f : Nat) (hf : 1 ≤ f ∧ f ≤ 3) (h : RP σ τ n) : ∃ σ' τ', f_X6_blame (nI f) σ = some ((), σ') ∧ f_X12_errs (nI f) τ = some ((), τ') ∧ RP σ' τ' n ∧ ¬ ok σ' ∧ Fr [29] σ σ' ∧ OM τ τ' := by
  obtain ⟨⟨hn, hl, q, e, K, hqe, hen, hK, h5, h6, h7⟩, hG⟩ := h
  unfold f_X6_blame f_X6_blame_20 f_X12_errs
  rw [S_good, bd_mk]
  rcases hG with ⟨⟨g1, g2, g3, g4, g5, g6⟩, q', e', K', ⟨t1, t2, t3, t4, t5, t6, t7, t8, t9, t10, t11, t12⟩⟩ | hB
  · rw [if_pos g1, b2_t g2, if_neg n10, bnd_mk, bnd_mk, bnd_mk, bnd_mk]
    have e5 : gf (sf σ 29 2 (nI f)) 29 5 = nI q' := by rw [gf_sf_s, if_neg (by decide)]; exact t6
    have e9 : gf (sf τ 58 12 (nI f)) 58 9 = nI q' := by rw [gf_sf_s, if_neg (by decide)]; exact t9
    rw [e5, e9]
    have hF : Fr [29] σ (sf (sf σ 29 2 (nI f)) 29 3 (nI q')) := (Fr.c1 (by simp)).tr (Fr.c1 (by simp))
    have w : ∀ k, k ≠ 2 → k ≠ 3 → gf (sf (sf σ 29 2 (nI f)) 29 3 (nI q')) 29 k = gf σ 29 k := fun k a b => by rw [gf_sf_s, if_neg b, gf_sf_s, if_neg a]
    have w2 : gf (sf (sf σ 29 2 (nI f)) 29 3 (nI q')) 29 2 = nI f := by rw [gf_sf_s, if_neg (by decide), gf_sf_s, if_pos rfl]
    have w3 : gf (sf (sf σ 29 2 (nI f)) 29 3 (nI q')) 29 3 = nI q' := by rw [gf_sf_s, if_pos rfl]
    have v2 : gf (sf (sf τ 58 12 (nI f)) 58 13 (nI q')) 58 12 = nI f := by rw [gf_sf_s, if_neg (by decide), gf_sf_s, if_pos rfl]
    have v3 : gf (sf (sf τ 58 12 (nI f)) 58 13 (nI q')) 58 13 = nI q' := by rw [gf_sf_s, if_pos rfl]
    have hBD : BD (sf (sf σ 29 2 (nI f)) 29 3 (nI q')) (sf (sf τ 58 12 (nI f)) 58 13 (nI q')) := ⟨f, q', hf.1, hf.2, by omega, w2, v2, w3, v3⟩
    refine ⟨_, _, rfl, rfl, ⟨⟨hn, ?_, q, e, K, hqe, hen, hK, ?_, ?_, ?_⟩, Or.inr hBD⟩, hBD.not, hF, ⟨(Fr.c1 (by simp)).tr (Fr.c1 (by simp)), fun k hk => ?_⟩⟩
    · rw [w 1 (by decide) (by decide)]; exact hl
    · rw [w 5 (by decide) (by decide)]; exact h5
    · rw [w 6 (by decide) (by decide)]; exact h6
    · rw [w 7 (by decide) (by decide)]; exact h7
    · rw [gf_sf_s, if_neg (by omega), gf_sf_s, if_neg (by omega)]
  · rw [if_neg (show ¬ gf σ 29 2 = 0 from hB.not), b2_f hB.notM, if_pos rfl]
    exact ⟨σ, τ, rfl, rfl, ⟨⟨hn, hl, q, e, K, hqe, hen, hK, h5, h6, h7⟩, Or.inr hB⟩, hB.not, Fr.rf, OM.rf⟩
/-! ===== the next TOKEN ===== -/
theorem C4_LX {σ : St} {n p q e K : Nat} {v : Int32} (hn : n ≤ 1200) (hl : gf σ 29 1 = nI n) (h : Tk (gr σ 30) n p q e K) : LX (C4 σ (nI q) (nI K) v (nI e)) n := by
  obtain ⟨h1, h2, h3, h4, h5, h6, h7, h8, h9, h10⟩ := h
  refine ⟨hn, by rw [C4_1]; exact hl, q, e, K, h6, h7, by rw [← h4]; exact kn_bd _ _ _, C4_5 _ _ _ _ _, C4_6 _ _ _ _ _, C4_7 _ _ _ _ _⟩
theorem C4_2 (σ : St) (a k v e : Int32) : gf (C4 σ a k v e) 29 2 = gf σ 29 2 := by unfold C4; rw [gf_sF, if_pos rfl]; rfl
theorem C4_3 (σ : St) (a k v e : Int32) : gf (C4 σ a k v e) 29 3 = gf σ 29 3 := by unfold C4; rw [gf_sF, if_pos rfl]; rfl
theorem D4_o (τ : St) (a p t v : Int32) (k : Nat) (hk : k < 8 ∨ 11 < k) : gf (D4 τ a p t v) 58 k = gf τ 58 k := by
  unfold D4
  rw [gf_sF, if_pos rfl]
  unfold M4l
  rw [if_neg (by omega), if_neg (by omega), if_neg (by omega), if_neg (by omega)]
/-- the class's advance, whatever has been -/
theorem T_adv {σ : St} {n : Nat} (h : LX σ n) : ∃ σ', f_X6_advance σ = some ((), σ') ∧ LX σ' n ∧ Fr [29] σ σ' ∧ gf σ' 29 2 = gf σ 29 2 ∧ gf σ' 29 3 = gf σ 29 3 := by
  obtain ⟨hn, hl, q, e, K, hqe, hen, hK, h5, h6, h7⟩ := h
  obtain ⟨q', e', K', v, a1, -, a3⟩ := S_adv hn hl h6 hen
  exact ⟨_, a3, C4_LX hn hl a1, C4_fr _ _ _ _ _, C4_2 _ _ _ _ _, C4_3 _ _ _ _ _⟩
/-- both advance -/
theorem R_adv {σ τ : St} {n : Nat} (hL : LX σ n) (h : GD σ τ n) : ∃ σ' τ', f_X6_advance σ = some ((), σ') ∧ f_X12_advance τ = some ((), τ') ∧ LX σ' n ∧ GD σ' τ' n ∧ (gf σ 29 6).toInt ≤ (gf σ' 29 5).toInt ∧ Fr [29] σ σ' ∧ OM τ τ' := by
  obtain ⟨hn, hl, -⟩ := hL
  obtain ⟨⟨g1, g2, g3, g4, g5, g6⟩, q, e, K, ⟨t1, t2, t3, t4, t5, t6, t7, t8, t9, t10, t11, t12⟩⟩ := h
  obtain ⟨q', e', K', v, a1, a2, a3⟩ := S_adv hn hl t7 t2
  obtain ⟨q2, e2, K2, w, b1, b2', b3⟩ := S_advM (τ := τ) hn g5 (fun j hj => by rw [← (g6 j hj).1]; exact (g6 j hj).2) t10 t2
  obtain ⟨rfl, rfl, rfl⟩ := Tk_u a1 (Tk_c (fun j hj => (g6 j hj).1.symm) b1)
  have a1' := a1
  obtain ⟨h1, h2, h3, h4, h5, h6, h7, h8, h9, h10⟩ := a1
  have hK5 : K' ≤ 5 := by rw [← h4]; exact kn_bd _ _ _
  refine ⟨_, _, a3, b3, C4_LX hn hl a1', ⟨⟨?_, ?_, ?_, ?_, ?_, ?_⟩, q', e', K', ⟨h6, h7, hK5, h5, fun hz => ?_, C4_5 _ _ _ _ _, C4_6 _ _ _ _ _, C4_7 _ _ _ _ _, D4_9 _ _ _ _ _, D4_8 _ _ _ _ _, D4_10 _ _ _ _ _, fun k3 => ?_⟩⟩, ?_, C4_fr _ _ _ _ _, ⟨D4_fr _ _ _ _ _, fun k hk => D4_o _ _ _ _ _ k (by omega)⟩⟩
  · rw [C4_2]; exact g1
  · rw [D4_o _ _ _ _ _ _ (by omega)]; exact g2
  · rw [C4_3]; exact g3
  · rw [D4_o _ _ _ _ _ _ (by omega)]; exact g4
  · rw [D4_7]; exact g5
  · exact g6
  · rcases (show (K' = 4 ∨ K' = 5) ∨ (K' = 2 ∨ K' = 3) by omega) with c | c
    · have := h9 c
      omega
    · exact (h10 c).1
  · refine ⟨_, _, (C4_8 _ _ _ _ _).trans (a2 k3), (D4_11 _ _ _ _ _).trans (b2' k3), ?_⟩
    rw [dcv_c (b := gr τ 62) (b' := gr σ 30) (e' - q') (fun j c1 c2 => (g6 j (by omega)).1.symm)]
    exact dcv_VR _ _ _
  · rw [t7, C4_5, nI_toInt (by omega), nI_toInt (by omega)]
    omega
theorem GD.okM {σ τ : St} {n : Nat} (h : GD σ τ n) : ok σ ∧ gf τ 58 12 = 0 := ⟨h.1.1, h.1.2.1⟩
theorem GD.le {σ τ : St} {n : Nat} (hL : LX σ n) (h : GD σ τ n) : (gf σ 29 5).toInt ≤ (gf σ 29 6).toInt ∧ (¬ gf σ 29 7 = 0 → (gf σ 29 5).toInt < (gf σ 29 6).toInt) := by
  obtain ⟨hn, -⟩ := hL
  obtain ⟨-, q, e, K, ⟨t1, t2, t3, t4, t5, t6, t7, t8, t9, t10, t11, t12⟩⟩ := h
  rw [t6, t7, nI_toInt (by omega), nI_toInt (by omega)]
  refine ⟨by omega, fun hz => ?_⟩
  have : K ≠ 0 := fun z => hz (by rw [t8, z]; rfl)
  have := t5 this
  omega
/-! ===== a word that must stand ===== -/
theorem R_word {σ τ : St} {n z : Nat} (hz : z < 21) (h : RP σ τ n) : ∃ σ' τ', f_X6_word z σ = some ((), σ') ∧ f_X12_needs z τ = some ((), τ') ∧ RP σ' τ' n ∧ PG σ σ' ∧ Fr [29] σ σ' ∧ OM τ τ' := by
  have h0 := h
  obtain ⟨hL, hG⟩ := h
  have hL0 := hL
  obtain ⟨hn, hl, q, e, K, hqe, hen, hK, h5, h6, h7⟩ := hL
  unfold f_X6_word f_X12_needs f_X12_needs_13 f_X12_takes f_X12_takes_14
  rw [isS_t hz, gd_tt, isS_t hz, gd_tt, gd_tt, S_sees hz hn ⟨hqe, hen⟩ hK h5 h6 h7, bd_mk]
  rcases hG with hG | hB
  · have hG0 := hG
    obtain ⟨⟨g1, g2, g3, g4, g5, g6⟩, q', e', K', ⟨t1, t2, t3, t4, t5, t6, t7, t8, t9, t10, t11, t12⟩⟩ := hG
    obtain rfl : q = q' := (nI_eq (by omega) (by omega)).mp (h5.symm.trans t6)
    obtain rfl : e = e' := (nI_eq (by omega) (by omega)).mp (h6.symm.trans t7)
    obtain rfl : K = K' := (nI_eq (by omega) (by omega)).mp (h7.symm.trans t8)
    rw [S_is hz hn ⟨hqe, hen⟩ hK g2 t9 t10 t11, bd_mk]
    by_cases w : IW (gr σ 30) q e K z
    · have w' : IW (gr τ 62) q e K z := ⟨w.1, w.2.1, fun i hi => by rw [← (g6 (q + i) (by have := w.2.1; omega)).1]; exact w.2.2 i hi⟩
      obtain ⟨σ', τ', a1, a2, a3, a4, a5, a6, a7⟩ := R_adv hL0 hG0
      refine ⟨σ', τ', ?_, ?_, ⟨a3, Or.inl a4⟩, fun _ => ⟨g1, ?_⟩, a6, a7⟩
      · rw [b2_t w, if_neg n10, a1, bd_mk]
      · rw [b2_t w', if_neg n10, a2, bd_mk, bz_1, gd_tt, bd_mk, if_neg n10]
      · have := (GD.le hL0 hG0).1
        omega
    · have w' : ¬ IW (gr τ 62) q e K z := fun g => w ⟨g.1, g.2.1, fun i hi => by rw [(g6 (q + i) (by have := g.2.1; omega)).1]; exact g.2.2 i hi⟩
      obtain ⟨σ', τ', a1, a2, a3, a4, a5, a6⟩ := R_blame 1 ⟨by omega, by omega⟩ h0
      refine ⟨σ', τ', ?_, ?_, a3, fun o => absurd o a4, a5, a6⟩
      · rw [b2_f w, if_pos rfl, show (1 : Int32) = nI 1 from rfl, a1, bd_mk]
      · rw [b2_f w', if_pos rfl, bz_0, gd_tt, bd_mk, if_pos rfl, show (1 : Int32) = nI 1 from rfl, a2, bd_mk]
  · rw [S_isF hz hB.notM, bd_mk, if_pos rfl, bz_0, gd_tt, bd_mk, if_pos rfl]
    obtain ⟨σ', τ', a1, a2, a3, a4, a5, a6⟩ := R_blame 1 ⟨by omega, by omega⟩ h0
    by_cases w : IW (gr σ 30) q e K z
    · obtain ⟨σ2, b1, b2', b3, b4, b5⟩ := T_adv hL0
      obtain ⟨f, p, c1, c2, c3, c4, c5, c6, c7⟩ := hB
      have hB2 : BD σ2 τ := ⟨f, p, c1, c2, c3, b4.trans c4, c5, b5.trans c6, c7⟩
      have e0 : f_X12_errs (1 : Int32) τ = some ((), τ) := by
        unfold f_X12_errs
        rw [S_good, bd_mk, b2_f hB2.notM, if_pos rfl]
      refine ⟨σ2, τ, ?_, ?_, ⟨b2', Or.inr hB2⟩, fun o => absurd o hB2.not, b3, OM.rf⟩
      · rw [b2_t w, if_neg n10, b1, bd_mk]
      · rw [e0, bd_mk]
    · refine ⟨σ', τ', ?_, ?_, a3, fun o => absurd o a4, a5, a6⟩
      · rw [b2_f w, if_pos rfl, show (1 : Int32) = nI 1 from rfl, a1, bd_mk]
      · rw [show (1 : Int32) = nI 1 from rfl, a2, bd_mk]
theorem errs_bad {τ : St} (f : Int32) (h : ¬ gf τ 58 12 = 0) : f_X12_errs f τ = some ((), τ) := by
  unfold f_X12_errs
  rw [S_good, bd_mk, b2_f h, if_pos rfl]
theorem num_bad {τ : St} (lo hi : Int32) (h : ¬ gf τ 58 12 = 0) : f_X12_number lo hi τ = some (0, τ) := by
  unfold f_X12_number f_X12_number_20 f_X12_number_47
  simp only [S_good, bd_mk, b2_f h, if_true]
/-- the class's number behind a FAULT -/
theorem T_num {σ τ : St} {n : Nat} (lo hi : Int32) (hL : LX σ n) (hB : BD σ τ) : ∃ r σ', f_X6_number lo hi σ = some (r, σ') ∧ LX σ' n ∧ BD σ' τ ∧ Fr [29] σ σ' ∧ (r = 0 ∨ (lo.toInt ≤ r.toInt ∧ r.toInt ≤ hi.toInt)) := by
  have bl : ∀ f : Int32, f_X6_blame f σ = some ((), σ) := fun f => by
    unfold f_X6_blame f_X6_blame_20
    rw [if_neg (show ¬ gf σ 29 2 = 0 from hB.not)]
  unfold f_X6_number f_X6_number_30
  simp only [bl, bd_mk, bnd_mk]
  by_cases k : gf σ 29 7 = 3
  · rw [if_pos k]
    by_cases c1 : gf σ 29 8 < lo
    · rw [if_pos c1]
      exact ⟨0, σ, rfl, hL, hB, Fr.rf, Or.inl rfl⟩
    · rw [if_neg c1]
      by_cases c2 : gf σ 29 8 ≤ hi
      · obtain ⟨σ2, b1, b2', b3, b4, b5⟩ := T_adv hL
        obtain ⟨f, p, d1, d2, d3, d4, d5, d6, d7⟩ := hB
        rw [if_pos c2, b1, bd_mk]
        rw [lt_toInt] at c1
        rw [le_toInt] at c2
        exact ⟨_, σ2, rfl, b2', ⟨f, p, d1, d2, d3, b4.trans d4, d5, b5.trans d6, d7⟩, b3, Or.inr ⟨by omega, c2⟩⟩
      · rw [if_neg c2]
        exact ⟨0, σ, rfl, hL, hB, Fr.rf, Or.inl rfl⟩
  · rw [if_neg k]
    exact ⟨0, σ, rfl, hL, hB, Fr.rf, Or.inl rfl⟩
/-- a number: the same one, in its bounds, or a FAULT -/
theorem R_num {σ τ : St} {n : Nat} (lo hi : Int32) (hlo : 0 ≤ lo.toInt) (hhi : hi.toInt ≤ 999) (h : RP σ τ n) : ∃ r r' σ' τ', f_X6_number lo hi σ = some (r, σ') ∧ f_X12_number lo hi τ = some (r', τ') ∧ RP σ' τ' n ∧ PG σ σ' ∧ Fr [29] σ σ' ∧ OM τ τ' ∧ (ok σ' → r = r' ∧ lo.toInt ≤ r.toInt ∧ r.toInt ≤ hi.toInt) ∧ (r = 0 ∨ (lo.toInt ≤ r.toInt ∧ r.toInt ≤ hi.toInt)) ∧ (r' = 0 ∨ (lo.toInt ≤ r'.toInt ∧ r'.toInt ≤ hi.toInt)) := by
  have h0 := h
  obtain ⟨hL, hG⟩ := h
  rcases hG with hG | hB
  · have hG0 := hG
    obtain ⟨⟨g1, g2, g3, g4, g5, g6⟩, q, e, K, ⟨t1, t2, t3, t4, t5, t6, t7, t8, t9, t10, t11, t12⟩⟩ := hG
    have e1 : ∀ f : Nat, 1 ≤ f ∧ f ≤ 3 → ∃ σ' τ', f_X6_blame (nI f) σ = some ((), σ') ∧ f_X12_errs (nI f) τ = some ((), τ') ∧ RP σ' τ' n ∧ ¬ ok σ' ∧ Fr [29] σ σ' ∧ OM τ τ' := fun f hf => R_blame f hf h0
    have bad : ∀ (f : Nat) (σ' τ' : St), 1 ≤ f ∧ f ≤ 3 → f_X12_errs (nI f) τ = some ((), τ') → RP σ' τ' n → ¬ ok σ' → ¬ gf τ' 58 12 = 0 := fun f σ' τ' _ _ hr ho => by
      rcases hr.2 with c | c
      · exact absurd c.okM.1 ho
      · exact c.notM
    by_cases k3 : K = 3
    · obtain ⟨x, y, x1, y1, hv⟩ := t12 k3
      have hxy : x ≤ 100000 ∧ y ≤ 99999 := by unfold VR at hv; omega
      have tk : gf τ 58 10 = 2 := by rw [t11, k3]; rfl
      have kk : gf σ 29 7 = 3 := by rw [t8, k3]; rfl
      by_cases hin : lo.toInt ≤ y ∧ (y : Int) ≤ hi.toInt
      · have hxe : x = y := by unfold VR at hv; omega
        subst hxe
        obtain ⟨σ', τ', a1, a2, a3, a4, a5, a6, a7⟩ := R_adv hL hG0
        refine ⟨nI x, nI x, σ', τ', ?_, ?_, ⟨a3, Or.inl a4⟩, fun _ => ⟨g1, ?_⟩, a6, a7, fun _ => ⟨rfl, ?_⟩, Or.inr ?_, Or.inr ?_⟩
        · unfold f_X6_number
          rw [if_pos kk, bnd_mk, x1, if_neg (by rw [lt_toInt, nI_toInt (by omega)]; omega), if_pos (by rw [le_toInt, nI_toInt (by omega)]; omega), a1, bd_mk]
        · unfold f_X12_number f_X12_number_20 f_X12_number_47
          simp only [S_good, bd_mk, b2_t g2, if_neg n10, S_in, bnd_mk]
          rw [if_pos tk, y1, b2_t (by rw [Int32.toInt_toInt64, Int32.toInt_toInt64, Int32.toInt_toInt64, nI_toInt (by omega)]; exact hin), if_neg n10, a2, bd_mk]
        · have := (GD.le hL hG0).1
          omega
        · rw [nI_toInt (by omega)]; exact hin
        · rw [nI_toInt (by omega)]; exact hin
        · rw [nI_toInt (by omega)]; exact hin
      · obtain ⟨σ', τ', a1, a2, a3, a4, a5, a6⟩ := e1 2 ⟨by omega, by omega⟩
        have hbm := bad 2 σ' τ' ⟨by omega, by omega⟩ a2 a3 a4
        refine ⟨0, 0, σ', τ', ?_, ?_, a3, fun o => absurd o a4, a5, a6, fun o => absurd o a4, Or.inl rfl, Or.inl rfl⟩
        · unfold f_X6_number f_X6_number_30
          rw [if_pos kk, bnd_mk, x1, show (2 : Int32) = nI 2 from rfl, a1, bd_mk]
          by_cases c1 : nI x < lo
          · rw [if_pos c1]
          · have c2 : ¬ nI x ≤ hi := by
              rw [lt_toInt, nI_toInt (by omega)] at c1
              rw [le_toInt, nI_toInt (by omega)]
              unfold VR at hv
              omega
            rw [if_neg c1, if_neg c2]
        · unfold f_X12_number f_X12_number_20 f_X12_number_47
          simp only [S_good, bd_mk, b2_t g2, if_neg n10, S_in, bnd_mk]
          rw [if_pos tk, y1, b2_f (by rw [Int32.toInt_toInt64, Int32.toInt_toInt64, Int32.toInt_toInt64, nI_toInt (by omega)]; exact hin), if_pos rfl, show (2 : Int32) = nI 2 from rfl, a2, bd_mk, b2_f hbm, if_pos rfl]
    · have kk : ¬ gf σ 29 7 = 3 := fun z => k3 ((nI_eq (a := K) (b := 3) (by omega) (by omega)).mp (t8.symm.trans z))
      have tk : ¬ gf τ 58 10 = 2 := fun z => by
        have := (nI_eq (a := tkK K) (b := 2) (by unfold tkK; split <;> omega) (by omega)).mp (t11.symm.trans z)
        unfold tkK at this
        split at this <;> omega
      obtain ⟨σ', τ', a1, a2, a3, a4, a5, a6⟩ := e1 1 ⟨by omega, by omega⟩
      have hbm := bad 1 σ' τ' ⟨by omega, by omega⟩ a2 a3 a4
      refine ⟨0, 0, σ', τ', ?_, ?_, a3, fun o => absurd o a4, a5, a6, fun o => absurd o a4, Or.inl rfl, Or.inl rfl⟩
      · unfold f_X6_number
        rw [if_neg kk, show (1 : Int32) = nI 1 from rfl, a1, bd_mk]
      · unfold f_X12_number f_X12_number_20 f_X12_number_47
        rw [S_good, bd_mk, b2_t g2, if_neg n10, if_neg tk, show f_X12_errs (1 : Int32) τ = some ((), τ') from a2, bd_mk]
        simp only [S_good, bd_mk, b2_f hbm, if_true]
  · obtain ⟨r, σ', a1, a2, a3, a4, a5⟩ := T_num lo hi hL hB
    exact ⟨r, 0, σ', τ, a1, num_bad lo hi hB.notM, ⟨a2, Or.inr a3⟩, fun o => absurd o a3.not, a4, OM.rf, fun o => absurd o a3.not, a5, Or.inl rfl⟩
/-- a word, then a number -/
theorem R_told {σ τ : St} {n z : Nat} (lo hi : Int32) (hz : z < 21) (hlo : 0 ≤ lo.toInt) (hhi : hi.toInt ≤ 999) (h : RP σ τ n) : ∃ r r' σ1 σ' τ', f_X6_word z σ = some ((), σ1) ∧ f_X6_number lo hi σ1 = some (r, σ') ∧ f_X12_told z lo hi τ = some (r', τ') ∧ RP σ' τ' n ∧ PG σ σ' ∧ Fr [29] σ σ1 ∧ Fr [29] σ σ' ∧ OM τ τ' ∧ (ok σ' → r = r' ∧ lo.toInt ≤ r.toInt ∧ r.toInt ≤ hi.toInt) ∧ (r = 0 ∨ (lo.toInt ≤ r.toInt ∧ r.toInt ≤ hi.toInt)) ∧ (r' = 0 ∨ (lo.toInt ≤ r'.toInt ∧ r'.toInt ≤ hi.toInt)) := by
  obtain ⟨σ1, τ1, a1, a2, a3, a4, a5, a6⟩ := R_word hz h
  obtain ⟨r, r', σ', τ', b1, b2', b3, b4, b5, b6, b7, b8, b9⟩ := R_num lo hi hlo hhi a3
  refine ⟨r, r', σ1, σ', τ', a1, b1, ?_, b3, a4.tr b4, a5, a5.tr b5, a6.tr b6, b7, b8, b9⟩
  unfold f_X12_told
  rw [isS_t hz, gd_tt, a2, bd_mk, b2', bd_mk]
/-- the sign at a LINE's end -/
theorem R_sign {σ τ : St} {n : Nat} (h : RP σ τ n) : ∃ σ' τ', f_X6_sign σ = some ((), σ') ∧ f_X12_readLine_21 τ = f_X12_readLine_52 τ' ∧ RP σ' τ' n ∧ (ok σ' → ok σ ∧ (gf σ 29 5).toInt < (gf σ' 29 5).toInt) ∧ Fr [29] σ σ' ∧ OM τ τ' := by
  have h0 := h
  obtain ⟨hL, hG⟩ := h
  rcases hG with hG | hB
  · have hG0 := hG
    obtain ⟨⟨g1, g2, g3, g4, g5, g6⟩, q, e, K, ⟨t1, t2, t3, t4, t5, t6, t7, t8, t9, t10, t11, t12⟩⟩ := hG
    unfold f_X6_sign f_X12_readLine_21 f_X12_readLine_41
    by_cases k4 : K = 4
    · have kk : gf σ 29 7 = 4 := by rw [t8, k4]; rfl
      have tk : gf τ 58 10 = 3 := by rw [t11, k4]; rfl
      obtain ⟨σ', τ', a1, a2, a3, a4, a5, a6, a7⟩ := R_adv hL hG0
      refine ⟨σ', τ', ?_, ?_, ⟨a3, Or.inl a4⟩, fun _ => ⟨g1, ?_⟩, a6, a7⟩
      · rw [if_pos kk, a1, bd_mk]
      · simp only [S_good, bd_mk, b2_t g2, if_neg n10]
        rw [if_pos tk, a2, bd_mk]
      · have := (GD.le hL hG0).2 (by rw [kk]; decide)
        omega
    · have kk : ¬ gf σ 29 7 = 4 := fun z => k4 ((nI_eq (a := K) (b := 4) (by omega) (by omega)).mp (t8.symm.trans z))
      have tk : ¬ gf τ 58 10 = 3 := fun z => by
        have := (nI_eq (a := tkK K) (b := 3) (by unfold tkK; split <;> omega) (by omega)).mp (t11.symm.trans z)
        unfold tkK at this
        split at this <;> omega
      obtain ⟨σ', τ', a1, a2, a3, a4, a5, a6⟩ := R_blame 1 ⟨by omega, by omega⟩ h0
      have hbm : ¬ gf τ' 58 12 = 0 := by
        rcases a3.2 with c | c
        · exact absurd c.okM.1 a4
        · exact c.notM
      refine ⟨σ', τ', ?_, ?_, a3, fun o => absurd o a4, a5, a6⟩
      · rw [if_neg kk, show (1 : Int32) = nI 1 from rfl, a1, bd_mk]
      · rw [S_good, bd_mk, b2_t g2, if_neg n10, if_neg tk, show f_X12_errs (1 : Int32) τ = some ((), τ') from a2, bd_mk]
        simp only [S_good, bd_mk, b2_f hbm, if_true]
  · have hm := hB.notM
    have em : f_X12_readLine_21 τ = f_X12_readLine_52 τ := by
      unfold f_X12_readLine_21 f_X12_readLine_41
      simp only [S_good, bd_mk, b2_f hm, if_true]
    unfold f_X6_sign
    by_cases kk : gf σ 29 7 = 4
    · obtain ⟨σ2, b1, b2', b3, b4, b5⟩ := T_adv hL
      obtain ⟨f, p, d1, d2, d3, d4, d5, d6, d7⟩ := hB
      have hB2 : BD σ2 τ := ⟨f, p, d1, d2, d3, b4.trans d4, d5, b5.trans d6, d7⟩
      refine ⟨σ2, τ, ?_, em, ⟨b2', Or.inr hB2⟩, fun o => absurd o hB2.not, b3, OM.rf⟩
      rw [if_pos kk, b1, bd_mk]
    · refine ⟨σ, τ, ?_, em, h0, fun o => absurd o hB.not, Fr.rf, OM.rf⟩
      rw [if_neg kk]
      unfold f_X6_blame f_X6_blame_20
      rw [if_neg (show ¬ gf σ 29 2 = 0 from hB.not), bd_mk]
