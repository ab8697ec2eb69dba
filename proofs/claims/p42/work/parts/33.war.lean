/-! ===== war() ===== -/
theorem R_adv0 {σ τ : St} {n p : Nat} (hn : n ≤ 1200) (hl : gf σ 29 1 = nI n) (hp : gf σ 29 6 = nI p) (hpM : gf τ 58 8 = nI p) (hpn : p ≤ n) (hb : GDb σ τ n) : ∃ σ' τ', f_X6_advance σ = some ((), σ') ∧ f_X12_advance τ = some ((), τ') ∧ LX σ' n ∧ GD σ' τ' n ∧ Fr [29] σ σ' ∧ OM τ τ' := by
  obtain ⟨g1, g2, g3, g4, g5, g6⟩ := hb
  obtain ⟨q', e', K', v, a1, a2, a3⟩ := S_adv hn hl hp hpn
  obtain ⟨q2, e2, K2, w, b1, b2', b3⟩ := S_advM (τ := τ) hn g5 (fun j hj => by rw [← (g6 j hj).1]; exact (g6 j hj).2) hpM hpn
  obtain ⟨rfl, rfl, rfl⟩ := Tk_u a1 (Tk_c (fun j hj => (g6 j hj).1.symm) b1)
  have a1' := a1
  obtain ⟨h1, h2, h3, h4, h5, h6, h7, h8, h9, h10⟩ := a1
  have hK5 : K' ≤ 5 := by rw [← h4]; exact kn_bd _ _ _
  refine ⟨_, _, a3, b3, C4_LX hn hl a1', ⟨⟨?_, ?_, ?_, ?_, ?_, ?_⟩, q', e', K', ⟨h6, h7, hK5, h5, fun hz => ?_, C4_5 _ _ _ _ _, C4_6 _ _ _ _ _, C4_7 _ _ _ _ _, D4_9 _ _ _ _ _, D4_8 _ _ _ _ _, D4_10 _ _ _ _ _, fun k3 => ?_⟩⟩, C4_fr _ _ _ _ _, ⟨D4_fr _ _ _ _ _, fun k hk => D4_o _ _ _ _ _ k (by omega)⟩⟩
  · rw [C4_2]; exact g1
  · rw [D4_o _ _ _ _ _ _ (by omega)]; exact g2
  · rw [C4_3]; exact g3
  · rw [D4_o _ _ _ _ _ _ (by omega)]; exact g4
  · rw [D4_7]; exact g5
  · exact g6
  · rcases (show (K' = 4 ∨ K' = 5) ∨ (K' = 2 ∨ K' = 3) by omega) with c | c
    · have := h9 c
      omega
    · exact (h10 c).1
  · refine ⟨_, _, (C4_8 _ _ _ _ _).trans (a2 k3), (D4_11 _ _ _ _ _).trans (b2' k3), ?_⟩
    rw [dcv_c (b := gr τ 62) (b' := gr σ 30) (e' - q') (fun j c1 c2 => (g6 j (by omega)).1.symm)]
    exact dcv_VR _ _ _
/-- the draft is cleared -/
theorem S_clear (σ : St) : ∃ σ', f_X10_clear 15 σ = some ((), σ') ∧ (∀ k, k < 5 → gf σ' 15 k = 0) ∧ (∀ j, j < 2 → gr σ' 16 j = 0) ∧ (∀ t, (t = 17 ∨ t = 19 ∨ t = 21 ∨ t = 23 ∨ t = 25 ∨ t = 27) → gf σ' t 3 = 0) ∧ Fr [15, 16, 17, 19, 21, 23, 25, 27] σ σ' := by
  unfold f_X10_clear
  rw [isW_lit (by omega), gd_tt]
  simp only [bnd_mk, show inb (0 : Int32) (ln (15 + 1)) = true from rfl, show inb (1 : Int32) (ln (15 + 1)) = true from rfl, gd_tt, show (0 : Int32).toNatClampNeg = 0 from rfl, show (1 : Int32).toNatClampNeg = 1 from rfl]
  refine ⟨_, rfl, fun k hk => ?_, fun j hj => ?_, fun t ht => ?_, ?_⟩
  · rcases (show k = 0 ∨ k = 1 ∨ k = 2 ∨ k = 3 ∨ k = 4 by omega) with rfl | rfl | rfl | rfl | rfl <;> rfl
  · rcases (show j = 0 ∨ j = 1 by omega) with rfl | rfl <;> rfl
  · rcases ht with rfl | rfl | rfl | rfl | rfl | rfl <;> rfl
  · exact (((((((((((((Fr.c1 (by simp)).tr (Fr.c1 (by simp))).tr (Fr.c1 (by simp))).tr (Fr.c1 (by simp))).tr (Fr.c1 (by simp))).tr (Fr.c2 (by simp))).tr (Fr.c2 (by simp))).tr (Fr.c1 (by simp))).tr (Fr.c1 (by simp))).tr (Fr.c1 (by simp))).tr (Fr.c1 (by simp))).tr (Fr.c1 (by simp))).tr (Fr.c1 (by simp)))
theorem clearM : ∀ (c i Q : Nat) (τ : St), i + c = 240 → c < Q → (∀ j, j < i → gr τ 64 j = 0) → ∃ τ', itr g_X12_war_30 Q (nI i, τ) = (bd (f_X12_advance τ') fun _ s2 => itr g_X12_war_54 FU s2) ∧ (∀ j, j < 240 → gr τ' 64 j = 0) ∧ Fr [64] τ τ' := by
  intro c
  induction c with
  | zero =>
    intro i Q τ hc hQ h
    obtain ⟨R, rfl⟩ : ∃ R, Q = R + 1 := ⟨Q - 1, by omega⟩
    obtain rfl : i = 240 := by omega
    refine ⟨τ, ?_, h, Fr.rf⟩
    rw [itr_succ]
    generalize itr g_X12_war_30 R = Z
    unfold g_X12_war_30
    dsimp only
    rw [if_pos (show (240 : Int32) ≤ nI 240 from by decide)]
  | succ c ih =>
    intro i Q τ hc hQ h
    obtain ⟨R, rfl⟩ : ∃ R, Q = R + 1 := ⟨Q - 1, by omega⟩
    obtain ⟨τ', a1, a2, a3⟩ := ih (i + 1) R (sr τ 64 i 0) (by omega) (by omega) (fun j hj => by
      rw [gr_sr_s]
      by_cases e : j = i
      · rw [if_pos e]
      · rw [if_neg e]; exact h j (by omega))
    refine ⟨τ', ?_, a2, (Fr.c2 (by simp)).tr a3⟩
    rw [itr_succ, ← a1]
    generalize itr g_X12_war_30 R = Z
    unfold g_X12_war_30
    dsimp only
    rw [if_neg (show ¬ (240 : Int32) ≤ nI i from nI_ge (a := i) (b := 240) (by omega) (by omega)), i64 (by omega), gd_tt, bnd_mk, bnd_mk, nI_clamp (by omega), nI_1]
theorem copyM : ∀ (c i Q : Nat) (τ : St), i + c = 240 → c < Q → (∀ j, j < i → gr τ 59 j = gr τ 64 j) → ∃ τ', itr g_X12_war_87 Q (nI i, τ) = some (gr τ 64 9, τ') ∧ (∀ j, j < 240 → gr τ' 59 j = gr τ 64 j) ∧ Fr [59] τ τ' := by
  intro c
  induction c with
  | zero =>
    intro i Q τ hc hQ h
    obtain ⟨R, rfl⟩ : ∃ R, Q = R + 1 := ⟨Q - 1, by omega⟩
    obtain rfl : i = 240 := by omega
    refine ⟨τ, ?_, h, Fr.rf⟩
    rw [itr_succ]
    generalize itr g_X12_war_87 R = Z
    unfold g_X12_war_87
    dsimp only
    rw [if_pos (show (240 : Int32) ≤ nI 240 from by decide), show inb (9 : Int32) (ln 59) = true from rfl, gd_tt, c64_9, h 9 (by omega)]
  | succ c ih =>
    intro i Q τ hc hQ h
    obtain ⟨R, rfl⟩ : ∃ R, Q = R + 1 := ⟨Q - 1, by omega⟩
    obtain ⟨τ', a1, a2, a3⟩ := ih (i + 1) R (sr τ 59 i (gr τ 64 i)) (by omega) (by omega) (fun j hj => by
      rw [gr_sr_s, gr_sr_n _ _ _ _ (show 64 ≠ 59 by decide)]
      by_cases e : j = i
      · rw [if_pos e, e]
      · rw [if_neg e]; exact h j (by omega))
    refine ⟨τ', ?_, fun j hj => ?_, (Fr.c2 (by simp)).tr a3⟩
    · rw [itr_succ]
      rw [gr_sr_n _ _ _ _ (show 64 ≠ 59 by decide)] at a1
      rw [← a1]
      generalize itr g_X12_war_87 R = Z
      unfold g_X12_war_87
      dsimp only
      rw [if_neg (show ¬ (240 : Int32) ≤ nI i from nI_ge (a := i) (b := 240) (by omega) (by omega)), i64 (by omega), gd_tt, show inb (nI i) (ln 59) = true from inb_nI (show i < ln 59 by show i < 240; omega) (by decide), gd_tt, bnd_mk, bnd_mk, nI_clamp (by omega), nI_1]
    · rw [a2 j hj, gr_sr_n _ _ _ _ (show 64 ≠ 59 by decide)]
theorem WR.zero {σ : St} {F : Nat → Int32} (h1 : ∀ k, k < 5 → gf σ 15 k = 0) (h2 : ∀ j, j < 2 → gr σ 16 j = 0) (h3 : ∀ t, (t = 17 ∨ t = 19 ∨ t = 21 ∨ t = 23 ∨ t = 25 ∨ t = 27) → gf σ t 3 = 0) (h4 : ∀ j, j < 240 → F j = 0) : WR σ 15 F := by
  have tv : ∀ (t ix base wd room : Nat) (lo hi : List Int), gf σ t 3 = 0 → F ix = 0 → TV σ t F ix base wd room lo hi := fun t ix base wd room lo hi a b => ⟨0, by omega, a, b, fun i hi => absurd hi (by omega)⟩
  refine ⟨⟨0, 0, 0, 0, 0, 0, 0, by omega, by omega, by omega, by omega, by omega, by omega, by omega, by omega, h1 0 (by omega), h4 9 (by omega), h1 1 (by omega), h4 0 (by omega), h1 2 (by omega), h4 1 (by omega), h1 3 (by omega), h4 2 (by omega), h1 4 (by omega), h4 3 (by omega), h2 0 (by omega), h4 11 (by omega), h2 1 (by omega), h4 12 (by omega)⟩, tv _ _ _ _ _ _ _ (h3 17 (by simp)) (h4 4 (by omega)), tv _ _ _ _ _ _ _ (h3 19 (by simp)) (h4 5 (by omega)), tv _ _ _ _ _ _ _ (h3 21 (by simp)) (h4 6 (by omega)), tv _ _ _ _ _ _ _ (h3 23 (by simp)) (h4 7 (by omega)), tv _ _ _ _ _ _ _ (h3 25 (by simp)) (h4 8 (by omega)), ?_, ?_, ?_, 0, by omega, h3 27 (by simp), h4 10 (by omega), fun j hj => absurd hj (by omega)⟩
  · intro k q1 q2 i hi
    have := (nI_eq (a := 0) (b := k) (by omega) (by omega)).mp ((h4 5 (by omega)).symm.trans q1)
    omega
  · intro k q1 q2 i hi
    have := (nI_eq (a := 0) (b := k) (by omega) (by omega)).mp ((h4 7 (by omega)).symm.trans q1)
    omega
  · intro k m q1 q2 m1 m2 i hi
    have := (nI_eq (a := 0) (b := k) (by omega) (by omega)).mp ((h4 8 (by omega)).symm.trans q1)
    omega
/-- both read the TAPE side by side, from any reference that has the same TAPE -/
theorem R_read {σ τ : St} {n : Nat} (hn : n ≤ 1200) (hl : gf σ 29 1 = nI n) (hm : gf τ 58 5 = nI n) (ht : ∀ j, j < n → gr σ 30 j = gr τ 62 j ∧ by8 (gr σ 30 j)) : ∃ l σ' τ', f_X6_read σ = some ((), σ') ∧ f_X12_war τ = f_X12_war_75 τ' ∧ LI σ' τ' n l ∧ Fr RE σ σ' ∧ Fr [58, 64] τ τ' ∧ gf τ' 58 5 = 0 ∧ (∀ k, k < 5 ∨ k = 6 ∨ 13 < k → gf τ' 58 k = gf τ 58 k) ∧ (l = 0 → gf σ' 17 3 = 0) := by
  obtain ⟨s2, c1, c2, c3, c4, c5⟩ := S_clear σ
  have F6 : Fr [29] s2 (sf (sf (sf s2 29 2 0) 29 3 (-1)) 29 6 0) := ((Fr.c1 (by simp)).tr (Fr.c1 (by simp))).tr (Fr.c1 (by simp))
  have x1 : gf (sf (sf (sf s2 29 2 0) 29 3 (-1)) 29 6 0) 29 1 = nI n := by
    rw [gf_sf_s, if_neg (by decide), gf_sf_s, if_neg (by decide), gf_sf_s, if_neg (by decide), (c5.1 29 (by decide)).1]; exact hl
  have x2 : gf (sf (sf (sf s2 29 2 0) 29 3 (-1)) 29 6 0) 29 2 = 0 := by
    rw [gf_sf_s, if_neg (by decide), gf_sf_s, if_neg (by decide), gf_sf_s, if_pos rfl]
  have x3 : gf (sf (sf (sf s2 29 2 0) 29 3 (-1)) 29 6 0) 29 3 = -1 := by
    rw [gf_sf_s, if_neg (by decide), gf_sf_s, if_pos rfl]
  have x6 : gf (sf (sf (sf s2 29 2 0) 29 3 (-1)) 29 6 0) 29 6 = nI 0 := by
    rw [gf_sf_s, if_pos rfl]; rfl
  have x30 : gr (sf (sf (sf s2 29 2 0) 29 3 (-1)) 29 6 0) 30 = gr σ 30 := (c5.1 30 (by decide)).2.1
  have hrd : f_X6_read σ = bd (f_X6_advance (sf (sf (sf s2 29 2 0) 29 3 (-1)) 29 6 0)) fun _ s8 => itr g_X6_read_28 FU ((0 : Int32), s8) := by
    unfold f_X6_read
    rw [c1, bd_mk, bnd_mk, bnd_mk, bnd_mk]
  generalize sf (sf (sf s2 29 2 0) 29 3 (-1)) 29 6 0 = σ6 at F6 x1 x2 x3 x6 x30 hrd
  have G5 : Fr [58] τ (sf (sf (sf (sf (sf τ 58 7 (gf τ 58 5)) 58 5 0) 58 8 0) 58 12 0) 58 13 (-1)) := ((((Fr.c1 (by simp)).tr (Fr.c1 (by simp))).tr (Fr.c1 (by simp))).tr (Fr.c1 (by simp))).tr (Fr.c1 (by simp))
  have y7 : gf (sf (sf (sf (sf (sf τ 58 7 (gf τ 58 5)) 58 5 0) 58 8 0) 58 12 0) 58 13 (-1)) 58 7 = nI n := by
    rw [gf_sf_s, if_neg (by decide), gf_sf_s, if_neg (by decide), gf_sf_s, if_neg (by decide), gf_sf_s, if_neg (by decide), gf_sf_s, if_pos rfl]; exact hm
  have y5 : gf (sf (sf (sf (sf (sf τ 58 7 (gf τ 58 5)) 58 5 0) 58 8 0) 58 12 0) 58 13 (-1)) 58 5 = 0 := by
    rw [gf_sf_s, if_neg (by decide), gf_sf_s, if_neg (by decide), gf_sf_s, if_neg (by decide), gf_sf_s, if_pos rfl]
  have y8 : gf (sf (sf (sf (sf (sf τ 58 7 (gf τ 58 5)) 58 5 0) 58 8 0) 58 12 0) 58 13 (-1)) 58 8 = nI 0 := by
    rw [gf_sf_s, if_neg (by decide), gf_sf_s, if_neg (by decide), gf_sf_s, if_pos rfl]; rfl
  have y12 : gf (sf (sf (sf (sf (sf τ 58 7 (gf τ 58 5)) 58 5 0) 58 8 0) 58 12 0) 58 13 (-1)) 58 12 = 0 := by
    rw [gf_sf_s, if_neg (by decide), gf_sf_s, if_pos rfl]
  have y13 : gf (sf (sf (sf (sf (sf τ 58 7 (gf τ 58 5)) 58 5 0) 58 8 0) 58 12 0) 58 13 (-1)) 58 13 = -1 := by
    rw [gf_sf_s, if_pos rfl]
  have yo : ∀ k, k < 5 ∨ k = 6 ∨ 13 < k → gf (sf (sf (sf (sf (sf τ 58 7 (gf τ 58 5)) 58 5 0) 58 8 0) 58 12 0) 58 13 (-1)) 58 k = gf τ 58 k := fun k hk => by
    rw [gf_sf_s, if_neg (by omega), gf_sf_s, if_neg (by omega), gf_sf_s, if_neg (by omega), gf_sf_s, if_neg (by omega), gf_sf_s, if_neg (by omega)]
  have hrm : f_X12_war τ = itr g_X12_war_30 FU ((0 : Int32), sf (sf (sf (sf (sf τ 58 7 (gf τ 58 5)) 58 5 0) 58 8 0) 58 12 0) 58 13 (-1)) := by
    unfold f_X12_war
    rw [bnd_mk, bnd_mk, bnd_mk, bnd_mk, bnd_mk]
  generalize sf (sf (sf (sf (sf τ 58 7 (gf τ 58 5)) 58 5 0) 58 8 0) 58 12 0) 58 13 (-1) = τ5 at G5 y7 y5 y8 y12 y13 yo hrm
  obtain ⟨τ6, d1, d2, d3⟩ := clearM 240 0 FU τ5 (by omega) (by unfold FU; omega) (fun j hj => absurd hj (by omega))
  have z58 : gf τ6 58 = gf τ5 58 := (d3.1 58 (by decide)).1
  have z62 : gr τ6 62 = gr τ 62 := (d3.1 62 (by decide)).2.1.trans (G5.1 62 (by decide)).2.1
  have hb : GDb σ6 τ6 n := ⟨x2, by rw [z58]; exact y12, x3, by rw [z58]; exact y13, by rw [z58]; exact y7, fun j hj => by rw [x30, z62]; exact ht j hj⟩
  obtain ⟨σ7, τ7, e1, e2, e3, e4, e5, e6⟩ := R_adv0 hn x1 x6 (by rw [z58]; exact y8) (by omega) hb
  have f7 : Fr [29] s2 σ7 := F6.tr e5
  have t7 : gr τ7 64 = gr τ6 64 := e6.r64
  have hW : WR σ7 15 (gr τ7 64) := WR.zero (fun k hk => by rw [(f7.1 15 (by decide)).1]; exact c2 k hk) (fun j hj => by rw [(f7.1 16 (by decide)).2.1]; exact c3 j hj) (fun t ht => by rw [(f7.1 t (by rcases ht with rfl | rfl | rfl | rfl | rfl | rfl <;> decide)).1]; exact c4 t ht) (fun j hj => by rw [t7]; exact d2 j hj)
  have hsz : SZ σ7 15 := by
    have q : ∀ t, (t = 17 ∨ t = 19 ∨ t = 21 ∨ t = 23 ∨ t = 25 ∨ t = 27) → gf σ7 t 3 = nI 0 := fun t ht => by rw [(f7.1 t (by rcases ht with rfl | rfl | rfl | rfl | rfl | rfl <;> decide)).1]; exact c4 t ht
    exact ⟨⟨0, by omega, by rw [(f7.1 15 (by decide)).1]; exact c2 1 (by omega)⟩, ⟨0, by omega, q 17 (by simp)⟩, ⟨0, by omega, q 19 (by simp)⟩, ⟨0, by omega, q 21 (by simp)⟩, ⟨0, by omega, q 23 (by simp)⟩, ⟨0, by omega, q 25 (by simp)⟩, ⟨0, by omega, q 27 (by simp)⟩⟩
  have hI : LI σ7 τ7 n 0 := by
    refine ⟨⟨e3, Or.inl e4⟩, hsz, hW.sm, fun _ => ⟨hW, by rw [t7]; exact d2 10 (by omega), by rw [(f7.1 15 (by decide)).1]; exact c2 0 (by omega), ?_⟩⟩
    obtain ⟨-, q, e, K, u1, u2, u3, u4, u5, u6, -⟩ := e4
    rw [u6, nI_toInt (by omega)]
    omega
  obtain ⟨l, σ', τ', g1, g2, g3, g4, g5, -, g7⟩ := R_lines 1200 0 σ7 τ7 FU FU (by omega) (by unfold FU; omega) (by unfold FU; omega) hI
  refine ⟨l, σ', τ', ?_, ?_, g3, ((c5.mo (by simp)).tr (f7.mo (by simp))).tr g4, (((G5.mo (by simp)).tr (d3.mo (by simp))).tr (e6.1.mo (by simp))).tr g5.1, ?_, fun k hk => ?_, fun e => ?_⟩
  · rw [hrd, e1, bd_mk]
    exact g1
  · rw [hrm, show (0 : Int32) = nI 0 from rfl, d1, e2, bd_mk, g2]
  · rw [g5.2 5 (by omega), e6.2 5 (by omega), z58]; exact y5
  · rw [g5.2 k (by omega), e6.2 k (by omega), z58]; exact yo k hk
  · rw [g7 e, (f7.1 17 (by decide)).1]; exact c4 17 (by simp)
/-- the fields that tell the FAULT are the same -/
def FE (σ : St) : Prop := gf σ 29 2 = gf σ 58 12 ∧ gf σ 29 3 = gf σ 58 13
abbrev RW : List Nat := [1, 2, 3, 4, 5, 6, 7, 8, 9, 10, 11, 12, 13, 14, 15, 16, 17, 18, 19, 20, 21, 22, 23, 24, 25, 26, 27, 28, 29, 31, 58, 59, 64]
abbrev RF : List Nat := [15, 16, 17, 18, 19, 20, 21, 22, 23, 24, 25, 26, 27, 28, 29, 58, 64]
theorem Fb.fr {σ σ' : St} (h : Fb 1 σ σ') : Fr [1, 2, 3, 4, 5, 6, 7, 8, 9, 10, 11, 12, 13, 14] σ σ' := ⟨fun i hi => h.1 i (by simp at hi; omega), h.2⟩
theorem WR.row {σ : St} {w : Nat} {F G : Nat → Int32} (h : WR σ w F) (hg : ∀ j, j < 240 → G j = F j) : WR σ w G := by
  obtain ⟨hH, hT, hE, hA, hU, hY, hS1, hS2, hS3, hC⟩ := h
  refine ⟨hH.mv (fun _ _ => rfl) (fun _ _ => rfl) (fun j _ _ _ _ _ _ _ => hg j (by omega)), hT.mv rfl (fun _ _ => rfl) (hg _ (by omega)) (fun j _ _ => hg j (by omega)), hE.mv rfl (fun _ _ => rfl) (hg _ (by omega)) (fun j _ _ => hg j (by omega)), hA.mv rfl (fun _ _ => rfl) (hg _ (by omega)) (fun j _ _ => hg j (by omega)), hU.mv rfl (fun _ _ => rfl) (hg _ (by omega)) (fun j _ _ => hg j (by omega)), hY.mv rfl (fun _ _ => rfl) (hg _ (by omega)) (fun j _ _ => hg j (by omega)), ?_, ?_, ?_, ?_⟩
  · intro k q1 q2 i hi
    rw [hg _ (by omega)] at q1
    rw [hg _ (by omega), hg _ (by omega)]
    exact hS1 k q1 q2 i hi
  · intro k q1 q2 i hi
    rw [hg _ (by omega)] at q1
    rw [hg _ (by omega), hg _ (by omega)]
    exact hS2 k q1 q2 i hi
  · intro k m q1 q2 m1 m2 i hi
    rw [hg _ (by omega)] at q1 m1
    rw [hg _ (by omega)]
    exact hS3 k m q1 q2 m1 m2 i hi
  · obtain ⟨k, k1, k2, k3, k4⟩ := hC
    refine ⟨k, k1, k2, by rw [hg _ (by omega)]; exact k3, fun j hj => ?_⟩
    have := k4 j hj
    unfold CE at *
    rw [hg 4 (by omega), hg (121 + 2 * j) (by omega), hg (120 + 2 * j) (by omega)]
    exact this
theorem R_war (σ : St) (hT : TP σ) : ∃ r s1 s2, f_X11_war σ = some (r, s1) ∧ f_X12_war s1 = some (r, s2) ∧ TP s2 ∧ FE s2 ∧ (∀ k, k < 5 ∨ k = 6 ∨ 13 < k → gf s2 58 k = gf σ 58 k) ∧ (Fr RF σ s2 ∨ (WR s2 1 (gr s2 59) ∧ Fr RW σ s2 ∧ (∀ k, k ≠ 5 → gf s2 31 k = gf σ 31 k) ∧ gf s2 31 5 = 0 ∧ gr s2 31 = gr σ 31 ∧ (gf s2 1 0 = nI 0 → gf s2 3 3 = nI 0))) := by
  obtain ⟨n, hn, h1, h2, h3, h4⟩ := hT
  obtain ⟨l0, σ', τ0, a1, -, a3, a4, -⟩ := R_read (τ := σ) hn h1 h2 (fun j hj => ⟨h3 j hj, h4 j hj⟩)
  have hL : LX σ' n := a3.1.1
  have hcut : f_X6_cut 0 σ' = some (1, sf σ' 29 1 0) := by
    unfold f_X6_cut
    rw [if_neg (by decide), hL.2.1, if_pos (show (0 : Int32) ≤ nI n from by rw [le_toInt, nI_toInt (by omega)]; show (0 : Int) ≤ n; omega), bnd_mk, bz_1, gd_tt]
  have k2 : gf (sf σ' 29 1 0) 29 2 = gf σ' 29 2 := by rw [gf_sf_s, if_neg (by decide)]
  have Fc : Fr RE σ (sf σ' 29 1 0) := a4.tr (Fr.c1 (by simp))
  by_cases ho : ok σ'
  · obtain ⟨s8, b1, b2', b3⟩ := S_bec (σ := sf σ' 29 1 0) (w := 1) (u := 15) (isW_lit (by omega)) (isW_lit (by omega)) (by omega)
    have F8 := b3.fr
    have Fs : Fr (31 :: 1 :: 2 :: 3 :: 4 :: 5 :: 6 :: 7 :: 8 :: 9 :: 10 :: 11 :: 12 :: 13 :: 14 :: RE) σ (sf s8 31 5 0) := ((Fc.mo (by simp)).tr (F8.mo (by simp))).tr (Fr.c1 (by simp))
    have F31 : Fr [31] s8 (sf s8 31 5 0) := Fr.c1 (by simp)
    have hcl : f_X11_war σ = some (gf (sf s8 31 5 0) 1 0, sf s8 31 5 0) := by
      unfold f_X11_war f_X2_forget
      rw [a1, bd_mk, hcut, bd_mk, if_pos (k2.trans ho), b1, bd_mk, bz_0, gd_tt, bnd_mk, bd_mk]
    obtain ⟨l, σ2, τ', e1, e2, e3, e4, e5, e6, e7, e8⟩ := R_read (σ := σ) (τ := sf s8 31 5 0) hn h1 (by rw [(Fs.1 58 (by decide)).1]; exact h2) (fun j hj => by rw [(Fs.1 62 (by decide)).2.1]; exact ⟨h3 j hj, h4 j hj⟩)
    obtain rfl : σ' = σ2 := by
      have := a1.symm.trans e1
      simpa using this
    obtain ⟨w1, w2, w3, w4⟩ := e3.2.2.2 ho
    have hG : GD σ' τ' n := by
      rcases e3.1.2 with c | c
      · exact c
      · exact absurd ho c.not
    obtain ⟨s2, f1, f2, f3⟩ := copyM 240 0 FU τ' (by omega) (by unfold FU; omega) (fun j hj => absurd hj (by omega))
    have hm : f_X12_war (sf s8 31 5 0) = some (gr τ' 64 9, s2) := by
      rw [e2]
      unfold f_X12_war_75
      rw [S_good, bd_mk, b2_t hG.okM.2, if_neg n10]
      exact f1
    have Fm : Fr [58, 59, 64] (sf s8 31 5 0) s2 := (e5.mo (by simp)).tr (f3.mo (by simp))
    have h9 : gr τ' 64 9 = nI l := by
      obtain ⟨l', mm, a, p, r, d, e, y1, y2, y3, y4, y5, y6, y7, y8, u1, u2, -⟩ := w1.1
      rw [u2, ← u1]; exact w3
    have hr : gf (sf s8 31 5 0) 1 0 = gr τ' 64 9 := by
      rw [(F31.1 1 (by decide)).1, b2'.1 0 (by omega), h9, ← w3]
      exact gf_sf_n _ _ _ _ (by decide)
    have g29 : gf s2 29 = gf (sf σ' 29 1 0) 29 := by
      rw [(Fm.1 29 (by decide)).1, (F31.1 29 (by decide)).1, (F8.1 29 (by decide)).1]
    have g58 : gf s2 58 = gf τ' 58 := (f3.1 58 (by decide)).1
    refine ⟨_, _, s2, hcl, by rw [hr]; exact hm, ⟨0, by omega, ?_, ?_, fun j hj => absurd hj (by omega), fun j hj => absurd hj (by omega)⟩, ⟨?_, ?_⟩, fun k hk => ?_, Or.inr ⟨?_, (Fs.mo (by simp)).tr (Fm.mo (by simp)), fun k hk => ?_, ?_, ?_, fun hz => ?_⟩⟩
    · rw [g29, gf_sf_s, if_pos rfl]; rfl
    · rw [g58]; exact e6
    · rw [g29, g58, k2, hG.1.1, hG.1.2.1]
    · rw [g29, g58, gf_sf_s, if_neg (by decide), hG.1.2.2.1, hG.1.2.2.2.1]
    · rw [g58, e7 k hk, (Fs.1 58 (by decide)).1]
    · have hW0 : WR (sf σ' 29 1 0) 15 (gr τ' 64) := by
        refine WR.be (w := 15) (u := 15) w1 ⟨fun k _ => gf_sf_n _ _ _ _ (by decide), fun j _ => rfl, fun t ht => ⟨gf_sf_n _ _ _ _ (by omega), fun j _ => rfl⟩⟩
      have hW1 : WR s8 1 (gr τ' 64) := hW0.be b2'
      have hfr : Fr [31, 58, 59, 64] s8 s2 := (F31.mo (by simp)).tr (Fm.mo (by simp))
      have hW2 : WR s2 1 (gr τ' 64) := by
        refine WR.be (w := 1) (u := 1) hW1 ⟨fun k _ => by rw [(hfr.1 1 (by decide)).1], fun j _ => by rw [(hfr.1 (1 + 1) (by decide)).2.1], fun t ht => ⟨by rw [(hfr.1 (1 + t) (by simp; omega)).1], fun j _ => by rw [(hfr.1 (1 + t + 1) (by simp; omega)).2.1]⟩⟩
      exact hW2.row f2
    · rw [(Fm.1 31 (by decide)).1, gf_sf_s, if_neg hk, (F8.1 31 (by decide)).1, (Fc.1 31 (by decide)).1]
    · rw [(Fm.1 31 (by decide)).1, gf_sf_s, if_pos rfl]
    · rw [(Fm.1 31 (by decide)).2.1, show gr (sf s8 31 5 0) 31 = gr s8 31 from rfl, (F8.1 31 (by decide)).2.1, (Fc.1 31 (by decide)).2.1]
    · have hl1 : l < 2 ^ 31 := by
        have := (gf σ' 29 5).toInt_lt
        omega
      have hl0 : l = 0 := by
        rw [(Fm.1 1 (by decide)).1, hr, h9] at hz
        exact (nI_eq hl1 (by omega)).mp hz
      rw [(Fm.1 3 (by decide)).1, (F31.1 3 (by decide)).1, (b2'.2.2 2 (by simp)).1]
      show gf (sf σ' 29 1 0) 17 3 = _
      rw [gf_sf_n _ _ _ _ (by decide)]
      exact e8 hl0
  · have hcl : f_X11_war σ = some (-4, sf σ' 29 1 0) := by
      unfold f_X11_war
      rw [a1, bd_mk, hcut, bd_mk, if_neg (fun z => ho (k2.symm.trans z))]
    obtain ⟨l, σ2, τ', e1, e2, e3, e4, e5, e6, e7, -⟩ := R_read (σ := σ) (τ := sf σ' 29 1 0) hn h1 (by rw [(Fc.1 58 (by decide)).1]; exact h2) (fun j hj => by rw [(Fc.1 62 (by decide)).2.1]; exact ⟨h3 j hj, h4 j hj⟩)
    obtain rfl : σ' = σ2 := by
      have := a1.symm.trans e1
      simpa using this
    have hB : BD σ' τ' := e3.1.bad ho
    have hm : f_X12_war (sf σ' 29 1 0) = some (-4, τ') := by
      rw [e2]
      unfold f_X12_war_75
      rw [S_good, bd_mk, b2_f hB.notM, if_pos rfl]
    have g29 : gf τ' 29 = gf (sf σ' 29 1 0) 29 := (e5.1 29 (by decide)).1
    obtain ⟨f, p, u1, u2, u3, u4, u5, u6, u7⟩ := hB
    refine ⟨_, _, τ', hcl, hm, ⟨0, by omega, ?_, e6, fun j hj => absurd hj (by omega), fun j hj => absurd hj (by omega)⟩, ⟨?_, ?_⟩, fun k hk => ?_, Or.inl ((Fc.mo (by simp)).tr (e5.mo (by simp)))⟩
    · rw [g29, gf_sf_s, if_pos rfl]; rfl
    · rw [g29, k2, u4, u5]
    · rw [g29, gf_sf_s, if_neg (by decide), u6, u7]
    · rw [e7 k hk, (Fc.1 58 (by decide)).1]
theorem R_fault (p : Int32) (σ : St) (hF : FE σ) : ∃ r, f_X11_fault p σ = some (r, σ) ∧ f_X12_fault p σ = some (r, σ) := by
  unfold f_X11_fault f_X12_fault f_X12_fault_24
  by_cases c0 : p = 0
  · rw [if_pos c0, if_pos c0, hF.1]; exact ⟨_, rfl, rfl⟩
  · rw [if_neg c0, if_neg c0]
    by_cases c1 : p = 1
    · rw [if_pos c1, if_pos c1, hF.2]; exact ⟨_, rfl, rfl⟩
    · rw [if_neg c1, if_neg c1]; exact ⟨_, rfl, rfl⟩
