/-! ===== LINES of need, the first one ===== -/
theorem S_setNeed {σ : St} {s : Nat} (hs : s < 2) (v : Int32) : f_X10_setNeed 15 (nI s) v σ = some ((), sr σ 16 s v) := by
  unfold f_X10_setNeed f_X10_setNeed_9 f_X10_setNeed_16
  rw [isW_lit (Or.inr rfl), gd_tt, gd_tt]
  rcases (show s = 0 ∨ s = 1 by omega) with rfl | rfl
  · rw [if_pos (show nI 0 = (0 : Int32) from rfl)]
    rfl
  · rw [if_neg (show ¬ nI 1 = (0 : Int32) by decide), if_pos (show nI 1 = (1 : Int32) from rfl)]
    rfl
theorem TVs {σ σ' : St} {F F' : Nat → Int32} (hT : TV σ 17 F 4 13 6 9 [0, 1, 0, 0, 1, 0] [1, 99, 59, 100, 30, 999]) (hE : TV σ 19 F 5 67 2 4 [0, 0] [59, 59]) (hA : TV σ 21 F 6 75 4 8 [0, 0, 1, 1] [1, 59, 20, 99]) (hU : TV σ 23 F 7 107 2 4 [0, 0] [59, 59]) (hY : TV σ 25 F 8 115 1 5 [0] [511]) (hS1 : SP F 5 67) (hS2 : SP F 7 107) (hS3 : SPY F) (hC : CR σ 15 F) (h10 : F 10 = nI 0) (hf : Fr [15, 16, 29] σ σ') (hO : ∀ j, 4 ≤ j → j ≠ 9 → j ≠ 11 → j ≠ 12 → F' j = F j) (hH : HD σ' 15 F') : WR σ' 15 F' := by
  refine ⟨hH, hT.mv (by rw [(hf.1 17 (by decide)).1]) (fun j _ => by rw [(hf.1 18 (by decide)).2.1]) (hO 4 (by omega) (by omega) (by omega) (by omega)) (fun j h1 h2 => hO j (by omega) (by omega) (by omega) (by omega)), hE.mv (by rw [(hf.1 19 (by decide)).1]) (fun j _ => by rw [(hf.1 20 (by decide)).2.1]) (hO 5 (by omega) (by omega) (by omega) (by omega)) (fun j h1 h2 => hO j (by omega) (by omega) (by omega) (by omega)), hA.mv (by rw [(hf.1 21 (by decide)).1]) (fun j _ => by rw [(hf.1 22 (by decide)).2.1]) (hO 6 (by omega) (by omega) (by omega) (by omega)) (fun j h1 h2 => hO j (by omega) (by omega) (by omega) (by omega)), hU.mv (by rw [(hf.1 23 (by decide)).1]) (fun j _ => by rw [(hf.1 24 (by decide)).2.1]) (hO 7 (by omega) (by omega) (by omega) (by omega)) (fun j h1 h2 => hO j (by omega) (by omega) (by omega) (by omega)), hY.mv (by rw [(hf.1 25 (by decide)).1]) (fun j _ => by rw [(hf.1 26 (by decide)).2.1]) (hO 8 (by omega) (by omega) (by omega) (by omega)) (fun j h1 h2 => hO j (by omega) (by omega) (by omega) (by omega)), ?_, ?_, ?_, CR.nil h10 hC (by rw [(hf.1 27 (by decide)).1]) (hO 10 (by omega) (by omega) (by omega) (by omega))⟩
  · intro q q1 q2 i hi
    rw [hO 5 (by omega) (by omega) (by omega) (by omega)] at q1
    rw [hO _ (by omega) (by omega) (by omega) (by omega), hO _ (by omega) (by omega) (by omega) (by omega)]
    exact hS1 q q1 q2 i hi
  · intro q q1 q2 i hi
    rw [hO 7 (by omega) (by omega) (by omega) (by omega)] at q1
    rw [hO _ (by omega) (by omega) (by omega) (by omega), hO _ (by omega) (by omega) (by omega) (by omega)]
    exact hS2 q q1 q2 i hi
  · intro q m q1 q2 m1 m2 i hi
    rw [hO 8 (by omega) (by omega) (by omega) (by omega)] at q1
    rw [hO 4 (by omega) (by omega) (by omega) (by omega)] at m1
    rw [hO _ (by omega) (by omega) (by omega) (by omega)]
    exact hS3 q m q1 q2 m1 m2 i hi
theorem WR.sm {σ : St} {w : Nat} {F : Nat → Int32} (h : WR σ w F) : SM F := by
  obtain ⟨-, ⟨a, a1, -, a3, -⟩, ⟨b, b1, -, b3, -⟩, ⟨c, c1, -, c3, -⟩, ⟨d, d1, -, d3, -⟩, ⟨e, e1, -, e3, -⟩, -⟩ := h
  exact ⟨⟨a, a1, a3⟩, ⟨b, b1, b3⟩, ⟨c, c1, c3⟩, ⟨d, d1, d3⟩, ⟨e, e1, e3⟩⟩
set_option maxHeartbeats 4000000 in
theorem R_readNeed {σ τ : St} {n : Nat} (hL : LX σ n) (hG : GD σ τ n) (hSZ : SZ σ 15) (hW : WR σ 15 (gr τ 64)) (h10 : gr τ 64 10 = nI 0) : ∃ σ' τ1 τ', f_X6_readNeed σ = some ((), σ') ∧ f_X12_advance τ = some ((), τ1) ∧ f_X12_readNeed τ1 = some ((), τ') ∧ DI σ' τ' n ∧ PG σ σ' ∧ Fr RD σ σ' ∧ OF τ τ' := by
  have hsm := hW.sm
  obtain ⟨hH, hT, hE, hA, hU, hY, hS1, hS2, hS3, hC⟩ := hW
  obtain ⟨σ1, τ1, a1, a2, a3, a4, a5, a6, a7⟩ := R_adv hL hG
  have p1 : PG σ σ1 := fun _ => ⟨hG.okM.1, by have := (GD.le hL hG).1; omega⟩
  obtain ⟨r, r', σ2, τ2, b1, b2', b3, b4, b5, b6, b7, b8, b9⟩ := R_num (0 : Int32) (1 : Int32) (by decide) (by decide) ⟨a3, Or.inl a4⟩
  obtain ⟨v, v', σ3, τ3, c1, c2, c3, c4, c5, c6, c7, c8, c9⟩ := R_num (0 : Int32) (999 : Int32) (by decide) (by decide) b3
  have z0 : (0 : Int32).toInt = 0 := rfl
  have z1 : (1 : Int32).toInt = 1 := rfl
  have z999 : (999 : Int32).toInt = 999 := rfl
  obtain ⟨s, hs, rfl⟩ : ∃ s : Nat, s < 2 ∧ r = nI s := by
    rcases b8 with rfl | h
    · exact ⟨0, by omega, rfl⟩
    · obtain ⟨j, hj, e⟩ := nI_ofT (x := r) (n := 1) (by omega) (by omega)
      exact ⟨j, by omega, e⟩
  have f3 : gr τ3 64 = gr τ 64 := c6.r64.trans (b6.r64.trans a7.r64)
  have F3 : Fr [29] σ σ3 := (a6.tr b5).tr c5
  have hF : Fr [16] σ3 (sr σ3 16 s v) := Fr.c2 (by simp)
  have hFr : Fr [15, 16, 29] σ (sr σ3 16 s v) := (F3.mo (by simp)).tr (hF.mo (by simp))
  have hFrD : Fr RD σ (sr σ3 16 s v) := (F3.mo (by simp)).tr (hF.mo (by simp))
  have hSZ' : SZ (sr σ3 16 s v) 15 := (hSZ.mv F3 (by decide) (by decide) (by decide) (by decide) (by decide) (by decide) (by decide)).mv hF (by decide) (by decide) (by decide) (by decide) (by decide) (by decide) (by decide)
  have hcl : f_X6_readNeed σ = some ((), sr σ3 16 s v) := by
    unfold f_X6_readNeed
    rw [a1, bd_mk, b1, bd_mk, c1, bd_mk, S_setNeed hs v, bd_mk]
  have hPG : PG σ (sr σ3 16 s v) := ((p1.tr b4).tr c4).tr (PG.mv hF (by decide))
  rcases c3.2 with hG3 | hB3
  · have o3 := hG3.okM.1
    obtain ⟨e1, e2, e3⟩ := c7 o3
    obtain ⟨e4, -⟩ := b7 (c4 o3).1
    subst e1
    obtain ⟨y, hy, rfl⟩ := nI_ofT (x := v) (n := 999) (by omega) (by omega)
    have hRP : RP (sr σ3 16 s (nI y)) (sr τ3 64 (11 + s) (nI y)) n := RP.mv c3 hF (Fr.c2 (l := [64]) (by simp)) (by decide) (by decide) (by decide) (by decide)
    have hO : ∀ j, j ≠ 11 + s → gr (sr τ3 64 (11 + s) (nI y)) 64 j = gr τ 64 j := fun j hj => by rw [gr_sr_s, if_neg hj, f3]
    refine ⟨_, τ1, sr τ3 64 (11 + s) (nI y), hcl, a2, ?_, ⟨hRP, hSZ', hsm.mv (hO _ (by omega)) (hO _ (by omega)) (hO _ (by omega)) (hO _ (by omega)) (hO _ (by omega)), fun _ => ⟨?_, ?_⟩⟩, hPG, hFrD, ((a7.of.tr b6.of).tr c6.of).tr OF.s64⟩
    · unfold f_X12_readNeed f_X12_readNeed_33
      rw [b2', bd_mk, c2, bd_mk, S_good, bd_mk, b2_t hG3.okM.2, if_neg n10, ← e4, show (11 : Int32) = nI 11 from rfl, nI_add, i64 (by omega), gd_tt, bnd_mk, nI_clamp (by omega)]
    · refine TVs hT hE hA hU hY hS1 hS2 hS3 hC h10 hFr (fun j h1 h2 h3 h4 => hO j (by omega)) ?_
      obtain ⟨l, m, a, p, q, d, e, k1, k2, k3, k4, k5, k6, k7, k8, g1, g2, g3, g4, g5, g6, g7, g8, g9, g10, g11, g12, g13, g14⟩ := hH
      have w15 : ∀ j, gf (sr σ3 16 s (nI y)) 15 j = gf σ 15 j := fun j => by
        show gf σ3 15 j = _
        rw [(F3.1 15 (by decide)).1]
      have w16 : ∀ j, j ≠ s → gr (sr σ3 16 s (nI y)) 16 j = gr σ 16 j := fun j hj => by rw [gr_sr_s, if_neg hj, (F3.1 16 (by decide)).2.1]
      have w16s : gr (sr σ3 16 s (nI y)) 16 s = nI y := by rw [gr_sr_s, if_pos rfl]
      have wFs : gr (sr τ3 64 (11 + s) (nI y)) 64 (11 + s) = nI y := by rw [gr_sr_s, if_pos rfl]
      rcases (show s = 0 ∨ s = 1 by omega) with rfl | rfl
      · refine ⟨l, m, a, p, q, y, e, k1, k2, k3, k4, k5, hy, k7, k8, ?_⟩
        rw [w15, w15, w15, w15, w15, hO 9 (by omega), hO 0 (by omega), hO 1 (by omega), hO 2 (by omega), hO 3 (by omega), hO 12 (by omega)]
        exact ⟨g1, g2, g3, g4, g5, g6, g7, g8, g9, g10, w16s, wFs, (w16 1 (by omega)).trans g13, g14⟩
      · refine ⟨l, m, a, p, q, d, y, k1, k2, k3, k4, k5, k6, hy, k8, ?_⟩
        rw [w15, w15, w15, w15, w15, hO 9 (by omega), hO 0 (by omega), hO 1 (by omega), hO 2 (by omega), hO 3 (by omega), hO 11 (by omega)]
        exact ⟨g1, g2, g3, g4, g5, g6, g7, g8, g9, g10, (w16 0 (by omega)).trans g11, g12, w16s, wFs⟩
    · rw [hO 10 (by omega)]
      exact h10
  · have hRP : RP (sr σ3 16 s v) τ3 n := RP.mv c3 hF (Fr.rf (l := [])) (by decide) (by decide) (by decide) (by decide)
    refine ⟨_, τ1, τ3, hcl, a2, ?_, ⟨hRP, hSZ', by rw [f3]; exact hsm, fun o => absurd ((ok.mv hF (by decide)).mp o) hB3.not⟩, hPG, hFrD, (a7.of.tr b6.of).tr c6.of⟩
    unfold f_X12_readNeed f_X12_readNeed_33
    rw [b2', bd_mk, c2, bd_mk, S_good, bd_mk, b2_f hB3.notM, if_pos rfl]
/-- minutes are told, late is ahead of them -/
def MT (σ : St) : Prop := ∃ m a : Nat, gf σ 15 1 = nI m ∧ gf σ 15 2 = nI a ∧ 1 ≤ m ∧ m ≤ 60 ∧ a < m
set_option maxHeartbeats 4000000 in
theorem R_first {σ τ : St} {n : Nat} (hR : RP σ τ n) (ho : ok σ) (hSZ : SZ σ 15) (hW : WR σ 15 (gr τ 64)) (h10 : gr τ 64 10 = nI 0) (h9 : gr τ 64 9 = nI 0) : ∃ σ' τ', f_X6_readWar σ = some ((), σ') ∧ f_X12_readFirst τ = some ((), τ') ∧ DI σ' τ' n ∧ PG σ σ' ∧ Fr (15 :: RD) σ σ' ∧ OF τ τ' ∧ (ok σ' → MT σ') ∧ gf σ' 15 0 = gf σ 15 0 := by
  have hsm := hW.sm
  obtain ⟨hH, hT, hE, hA, hU, hY, hS1, hS2, hS3, hC⟩ := hW
  have z0 : (0 : Int32).toInt = 0 := rfl
  have z1 : (1 : Int32).toInt = 1 := rfl
  have z60 : (60 : Int32).toInt = 60 := rfl
  have z100 : (100 : Int32).toInt = 100 := rfl
  obtain ⟨σ1, τ1, a1, a2, a3, a4, a5, a6⟩ := R_word (z := 6) (by decide) hR
  -- minutes
  obtain ⟨r, r', w2, σ2, τ2, b0, b1, b2', b3, b4, b5, b6, b7, b8, b9, b10⟩ := R_told (z := 7) (1 : Int32) (60 : Int32) (by decide) (by decide) (by decide) a3
  have hm : ∃ m : Nat, m ≤ 60 ∧ r = nI m := by
    rcases b9 with rfl | h
    · exact ⟨0, by omega, rfl⟩
    · exact nI_ofT (by omega) (by omega)
  obtain ⟨m, hm60, rfl⟩ := hm
  have F15 : Fr [15] σ2 (sf σ2 15 1 (nI m)) := Fr.c1 (by simp)
  have R3 : RP (sf σ2 15 1 (nI m)) (sr τ2 64 0 r') n := RP.mv b3 F15 (Fr.c2 (l := [64]) (by simp)) (by decide) (by decide) (by decide) (by decide)
  -- late
  have hsame : ok (sf σ2 15 1 (nI m)) → (0 : Int32) = 0 ∧ nI m - 1 = r' - 1 ∧ 0 ≤ (0 : Int32).toInt ∧ (nI m - 1).toInt ≤ 999 := fun o => by
    obtain ⟨e1, e2, e3⟩ := b8 ((ok.mv F15 (by decide)).mp o)
    refine ⟨rfl, by rw [e1], by decide, ?_⟩
    rw [i32_sub (by rw [nI_toInt (by omega)]; omega), nI_toInt (by omega)]
    omega
  obtain ⟨q, q', w4, σ4, τ4, c0, c1, c2, c3, c4, c5, c6, c7, c8, c9⟩ := R_told2 (z := 8) (0 : Int32) (nI m - 1) (0 : Int32) (r' - 1) (by decide) hsame R3
  have F15b : Fr [15] σ4 (sf σ4 15 2 q) := Fr.c1 (by simp)
  have R5 : RP (sf σ4 15 2 q) (sr τ4 64 1 q') n := RP.mv c3 F15b (Fr.c2 (l := [64]) (by simp)) (by decide) (by decide) (by decide) (by decide)
  -- peace
  obtain ⟨p, p', w6, σ6, τ6, d0, d1, d2, d3, d4, d5, d6, d7, d8, d9, d10⟩ := R_told (z := 9) (0 : Int32) (60 : Int32) (by decide) (by decide) (by decide) R5
  have F15c : Fr [15] σ6 (sf σ6 15 3 p) := Fr.c1 (by simp)
  have R7 : RP (sf σ6 15 3 p) (sr τ6 64 2 p') n := RP.mv d3 F15c (Fr.c2 (l := [64]) (by simp)) (by decide) (by decide) (by decide) (by decide)
  -- rain
  obtain ⟨x, x', w8, σ8, τ8, g0, g1, g2, g3, g4, g5, g6, g7, g8, g9, g10⟩ := R_told (z := 10) (0 : Int32) (100 : Int32) (by decide) (by decide) (by decide) R7
  have F15d : Fr [15] σ8 (sf σ8 15 4 x) := Fr.c1 (by simp)
  have R9 : RP (sf σ8 15 4 x) (sr τ8 64 3 x') n := RP.mv g3 F15d (Fr.c2 (l := [64]) (by simp)) (by decide) (by decide) (by decide) (by decide)
  have hFr0 : Fr [15, 29] σ (sf σ8 15 4 x) := ((((((((a5.mo (by simp) : Fr [15, 29] σ σ1).tr (b6.mo (by simp))).tr (F15.mo (by simp))).tr (c6.mo (by simp))).tr (F15b.mo (by simp))).tr (d6.mo (by simp))).tr (F15c.mo (by simp))).tr (g6.mo (by simp))).tr (F15d.mo (by simp))
  have hFr : Fr [15, 16, 29] σ (sf σ8 15 4 x) := hFr0.mo (by simp)
  have hPG : PG σ (sf σ8 15 4 x) := (((((((a4.tr b4).tr (PG.mv F15 (by decide))).tr c4).tr (PG.mv F15b (by decide))).tr d4).tr (PG.mv F15c (by decide))).tr g4).tr (PG.mv F15d (by decide))
  have hOF : OF τ (sr τ8 64 3 x') := (((((((a6.of.tr b7.of).tr OF.s64).tr c7.of).tr OF.s64).tr d7.of).tr OF.s64).tr g7.of).tr OF.s64
  -- fields of the block
  have k4 : gf (sf σ8 15 4 x) 15 4 = x := by rw [gf_sf_s, if_pos rfl]
  have k3 : gf (sf σ8 15 4 x) 15 3 = p := by rw [gf_sf_s, if_neg (by decide), (g6.1 15 (by decide)).1, gf_sf_s, if_pos rfl]
  have k2 : gf (sf σ8 15 4 x) 15 2 = q := by rw [gf_sf_s, if_neg (by decide), (g6.1 15 (by decide)).1, gf_sf_s, if_neg (by decide), (d6.1 15 (by decide)).1, gf_sf_s, if_pos rfl]
  have k1 : gf (sf σ8 15 4 x) 15 1 = nI m := by rw [gf_sf_s, if_neg (by decide), (g6.1 15 (by decide)).1, gf_sf_s, if_neg (by decide), (d6.1 15 (by decide)).1, gf_sf_s, if_neg (by decide), (c6.1 15 (by decide)).1, gf_sf_s, if_pos rfl]
  have k0 : gf (sf σ8 15 4 x) 15 0 = gf σ 15 0 := by rw [gf_sf_s, if_neg (by decide), (g6.1 15 (by decide)).1, gf_sf_s, if_neg (by decide), (d6.1 15 (by decide)).1, gf_sf_s, if_neg (by decide), (c6.1 15 (by decide)).1, gf_sf_s, if_neg (by decide), (b6.1 15 (by decide)).1, (a5.1 15 (by decide)).1]
  -- the row
  have hO : ∀ j, 4 ≤ j → gr (sr τ8 64 3 x') 64 j = gr τ 64 j := fun j hj => by
    rw [gr_sr_s, if_neg (by omega), g7.r64, gr_sr_s, if_neg (by omega), d7.r64, gr_sr_s, if_neg (by omega), c7.r64, gr_sr_s, if_neg (by omega), b7.r64, a6.r64]
  have n3 : gr (sr τ8 64 3 x') 64 3 = x' := by rw [gr_sr_s, if_pos rfl]
  have n2 : gr (sr τ8 64 3 x') 64 2 = p' := by rw [gr_sr_s, if_neg (by decide), g7.r64, gr_sr_s, if_pos rfl]
  have n1 : gr (sr τ8 64 3 x') 64 1 = q' := by rw [gr_sr_s, if_neg (by decide), g7.r64, gr_sr_s, if_neg (by decide), d7.r64, gr_sr_s, if_pos rfl]
  have n0 : gr (sr τ8 64 3 x') 64 0 = r' := by rw [gr_sr_s, if_neg (by decide), g7.r64, gr_sr_s, if_neg (by decide), d7.r64, gr_sr_s, if_neg (by decide), c7.r64, gr_sr_s, if_pos rfl]
  have vals : ok (sf σ8 15 4 x) → ∃ a pp rr : Nat, q = nI a ∧ q' = nI a ∧ p = nI pp ∧ p' = nI pp ∧ x = nI rr ∧ x' = nI rr ∧ r' = nI m ∧ 1 ≤ m ∧ a < m ∧ pp ≤ 60 ∧ rr ≤ 100 := fun o => by
    have o8 := (ok.mv F15d (by decide)).mp o
    obtain ⟨e1, e2, e3⟩ := g8 o8
    have o6 := (ok.mv F15c (by decide)).mp (g4 o8).1
    obtain ⟨e4, e5, e6⟩ := d8 o6
    have o4 := (ok.mv F15b (by decide)).mp (d4 o6).1
    obtain ⟨e7, e8, e9⟩ := c8 o4
    have o2 := (ok.mv F15 (by decide)).mp (c4 o4).1
    obtain ⟨e10, e11, e12⟩ := b8 o2
    rw [nI_toInt (by omega)] at e11 e12
    rw [i32_sub (by rw [nI_toInt (by omega)]; omega), nI_toInt (by omega)] at e9
    obtain ⟨aa, ha, rfl⟩ := nI_ofT (x := q) (n := m - 1) (by omega) (by omega)
    obtain ⟨pp, hp, rfl⟩ := nI_ofT (x := p) (n := 60) (by omega) (by omega)
    obtain ⟨rr, hr, rfl⟩ := nI_ofT (x := x) (n := 100) (by omega) (by omega)
    exact ⟨aa, pp, rr, rfl, e7.symm, rfl, e4.symm, rfl, e1.symm, e10.symm, by omega, by omega, hp, hr⟩
  refine ⟨sf σ8 15 4 x, sr τ8 64 3 x', ?_, ?_, ⟨R9, ?_, hsm.mv (hO _ (by omega)) (hO _ (by omega)) (hO _ (by omega)) (hO _ (by omega)) (hO _ (by omega)), fun o => ⟨?_, ?_⟩⟩, hPG, hFr.mo (by simp), hOF, fun o => ?_, k0⟩
  · unfold f_X6_readWar
    have hg : gf w4 15 1 = nI m := by
      rw [(c5.1 15 (by decide)).1, gf_sf_s, if_pos rfl]
    rw [a1, bd_mk, b0, bd_mk, b1, bd_mk, bnd_mk, c0, bd_mk, hg, c1, bd_mk, bnd_mk, d0, bd_mk, d1, bd_mk, bnd_mk, g0, bd_mk, g1, bd_mk, bnd_mk]
  · unfold f_X12_readFirst
    rw [a2, bd_mk, b2', bd_mk, show inb (0 : Int32) (ln 64) = true from rfl, gd_tt, bnd_mk, gd_tt, show gr (sr τ2 64 (0 : Int32).toNatClampNeg r') 64 (0 : Int32).toNatClampNeg = r' from by show gr (sr τ2 64 0 r') 64 0 = r'; rw [gr_sr_s, if_pos rfl], show f_X12_told 8 (0 : Int32) (r' - 1) (sr τ2 64 (0 : Int32).toNatClampNeg r') = some (q', τ4) from c2, bd_mk, show inb (1 : Int32) (ln 64) = true from rfl, gd_tt, bnd_mk, show f_X12_told 9 (0 : Int32) (60 : Int32) (sr τ4 64 (1 : Int32).toNatClampNeg q') = some (p', τ6) from d2, bd_mk, show inb (2 : Int32) (ln 64) = true from rfl, gd_tt, bnd_mk, show f_X12_told 10 (0 : Int32) (100 : Int32) (sr τ6 64 (2 : Int32).toNatClampNeg p') = some (x', τ8) from g2, bd_mk, show inb (3 : Int32) (ln 64) = true from rfl, gd_tt, bnd_mk]
    rfl
  · obtain ⟨s1, s2, s3, s4, s5, s6, s7⟩ := hSZ
    exact ⟨⟨m, hm60, k1⟩, by rw [(hFr.1 17 (by decide)).1]; exact s2, by rw [(hFr.1 19 (by decide)).1]; exact s3, by rw [(hFr.1 21 (by decide)).1]; exact s4, by rw [(hFr.1 23 (by decide)).1]; exact s5, by rw [(hFr.1 25 (by decide)).1]; exact s6, by rw [(hFr.1 27 (by decide)).1]; exact s7⟩
  · refine TVs hT hE hA hU hY hS1 hS2 hS3 hC h10 hFr (fun j h1 h2 h3 h4 => hO j (by omega)) ?_
    obtain ⟨aa, pp, rr, e1, e2, e3, e4, e5, e6, e7, e8, e9, e10, e11⟩ := vals o
    obtain ⟨l, m0, a0, p0, q0, d, e, y1, y2, y3, y4, y5, y6, y7, y8, u1, u2, u3, u4, u5, u6, u7, u8, u9, u10, u11, u12, u13, u14⟩ := hH
    refine ⟨l, m, aa, pp, rr, d, e, y1, hm60, by omega, e10, e11, y6, y7, fun _ => ⟨e8, e9⟩, ?_⟩
    rw [k0, k1, k2, k3, k4, hO 9 (by omega), n0, n1, n2, n3, hO 11 (by omega), hO 12 (by omega), (hFr0.1 16 (by decide)).2.1]
    exact ⟨u1, u2, rfl, e7, e1, e2, e3, e4, e5, e6, u11, u12, u13, u14⟩
  · rw [hO 10 (by omega)]
    exact h10
  · obtain ⟨aa, pp, rr, e1, e2, e3, e4, e5, e6, e7, e8, e9, e10, e11⟩ := vals o
    exact ⟨m, aa, k1, k2.trans e1, e8, hm60, e9⟩
