/-- the WAR with a TRAIN's number anew -/
theorem WR.updT {σ σ' : St} {F F' : Nat → Int32} {T t c v : Nat} (h : WR σ 1 F) (hT : T ≤ 9) (ht : t < T) (h3 : gf σ 3 3 = nI T) (hc : c < 3) (hv : v ≤ hiT c) (gf' : ∀ i, i ≠ 13 → gf σ' i = gf σ i) (gr' : ∀ i, i < 14 → i ≠ 4 → gr σ' i = gr σ i) (g4 : ∀ j, gr σ' 4 j = if j = t * 6 + coT c then nI v else gr σ 4 j) (hFs : ∀ j, j ≠ 10 → j < 120 → j ≠ 13 + 6 * t + coT c → F' j = F j) (hFX : F' (13 + 6 * t + coT c) = nI v) (hCR : CR σ' 1 F') : WR σ' 1 F' := by
  have hco := coT_le hc
  refine h.chg (fun i h1 h2 => ⟨gf' i (by omega), gr' i (by omega) (by omega)⟩) (fun j hj => hFs j (by omega) (by omega) (by omega)) ?_ ?_ hCR
  · exact h.1.mv (fun j _ => by rw [gf' 1 (by omega)]) (fun j _ => by rw [gr' (1 + 1) (by omega) (by omega)]) (fun j h1 h2 h3 h4 h5 h6 h7 => hFs j (by omega) (by omega) (by omega))
  · refine TV.set (σ := σ) (k := T) (i := t) (c := coT c) h.2.1 h3 hT (by omega) hco (nI v) ?_ ?_ (fun j hj => ?_) (hFs 4 (by omega) (by omega) (by omega)) (fun j h1 h2 => ?_)
    · rw [nI_toInt (by have := hiT_le c; omega)]
      rcases (by omega : c = 0 ∨ c = 1 ∨ c = 2) with rfl | rfl | rfl
      · show (0 : Int) ≤ v ∧ (v : Int) ≤ 59
        have : hiT 0 = 59 := rfl
        omega
      · show (0 : Int) ≤ v ∧ (v : Int) ≤ 100
        have : hiT 1 = 100 := rfl
        omega
      · show (0 : Int) ≤ v ∧ (v : Int) ≤ 999
        have : hiT 2 = 999 := rfl
        omega
    · rw [gf' 3 (by omega)]
    · exact g4 j
    · by_cases e : j = 13 + 6 * t + coT c
      · rw [if_pos e, e, hFX]
      · rw [if_neg e, hFs j (by omega) (by omega) e]
/-- the WAR with a NEED anew -/
theorem WR.updN {σ σ' : St} {F F' : Nat → Int32} {i v : Nat} (h : WR σ 1 F) (hi : i < 2) (hv : v ≤ 999) (gf' : ∀ i, i ≠ 13 → gf σ' i = gf σ i) (gr' : ∀ i, i < 14 → i ≠ 2 → gr σ' i = gr σ i) (g2 : ∀ j, gr σ' 2 j = if j = i then nI v else gr σ 2 j) (hFs : ∀ j, j ≠ 10 → j < 120 → j ≠ 11 + i → F' j = F j) (hFX : F' (11 + i) = nI v) (hCR : CR σ' 1 F') : WR σ' 1 F' := by
  refine h.chg (fun j h1 h2 => ⟨gf' j (by omega), gr' j (by omega) (by omega)⟩) (fun j hj => hFs j (by omega) (by omega) (by omega)) ?_ ?_ hCR
  · obtain ⟨l, m, a, p, r, d, e, y1, y2, y3, y4, y5, y6, y7, y8, u1, u2, u3, u4, u5, u6, u7, u8, u9, u10, u11, u12, u13, u14⟩ := h.1
    have e1 := gf' 1 (by omega)
    rcases (by omega : i = 0 ∨ i = 1) with rfl | rfl
    · refine ⟨l, m, a, p, r, v, e, y1, y2, y3, y4, y5, hv, y7, y8, by rw [e1]; exact u1, by rw [hFs 9 (by omega) (by omega) (by omega)]; exact u2, by rw [e1]; exact u3, by rw [hFs 0 (by omega) (by omega) (by omega)]; exact u4, by rw [e1]; exact u5, by rw [hFs 1 (by omega) (by omega) (by omega)]; exact u6, by rw [e1]; exact u7, by rw [hFs 2 (by omega) (by omega) (by omega)]; exact u8, by rw [e1]; exact u9, by rw [hFs 3 (by omega) (by omega) (by omega)]; exact u10, (g2 0).trans (if_pos rfl), hFX, (g2 1).trans ((if_neg (by omega)).trans u13), by rw [hFs 12 (by omega) (by omega) (by omega)]; exact u14⟩
    · refine ⟨l, m, a, p, r, d, v, y1, y2, y3, y4, y5, y6, hv, y8, by rw [e1]; exact u1, by rw [hFs 9 (by omega) (by omega) (by omega)]; exact u2, by rw [e1]; exact u3, by rw [hFs 0 (by omega) (by omega) (by omega)]; exact u4, by rw [e1]; exact u5, by rw [hFs 1 (by omega) (by omega) (by omega)]; exact u6, by rw [e1]; exact u7, by rw [hFs 2 (by omega) (by omega) (by omega)]; exact u8, by rw [e1]; exact u9, by rw [hFs 3 (by omega) (by omega) (by omega)]; exact u10, (g2 0).trans ((if_neg (by omega)).trans u11), by rw [hFs 11 (by omega) (by omega) (by omega)]; exact u12, (g2 1).trans (if_pos rfl), hFX⟩
  · exact h.2.1.mv (congrFun (gf' 3 (by omega)) 3) (fun j _ => congrFun (gr' 4 (by omega) (by omega)) j) (hFs 4 (by omega) (by omega) (by omega)) (fun j h1 h2 => hFs j (by omega) (by omega) (by omega))
theorem C_need {σ : St} {N i v : Nat} (hN : N ≤ 1200) (hN1 : 1 ≤ N) (hi : i < 2) (h : gf σ 1 0 = nI N) (hv : v ≤ 999) : f_X11_needs (nI i) (nI v) σ = bd (f_X10_change 1 (nI i) 3 (nI v) (sf σ 31 5 0)) fun r s => some (r, s) := by
  have hs : nI i = 0 ∨ nI i = 1 := by
    rcases (by omega : i = 0 ∨ i = 1) with rfl | rfl
    · exact Or.inl rfl
    · exact Or.inr rfl
  unfold f_X11_needs
  rw [S_hasSide _ hN h, bd_mk, b2_t ⟨hN1, hs⟩, if_neg n10, if_neg (nI_pos (by omega)), show f_X10_mostTold (3 : Int32) σ = some (nI 999, σ) from S_most (c := 3) (by omega) σ, bd_mk, if_pos (nI_le hv (by omega))]
  unfold f_X2_forget
  rw [bz_0, gd_tt, bnd_mk, bd_mk]
theorem R_needs (p0 p1 : Int32) (σ : St) (hI : IV σ) : ∃ r s1 s2, f_X11_needs p0 p1 σ = some (r, s1) ∧ f_X12_needs_ p0 p1 s1 = some (r, s2) ∧ IV s2 ∧ (s2 = σ ∨ gf s2 31 5 = 0) := by
  obtain ⟨hW, hN0⟩ := hI.2.2.2.2.1
  obtain ⟨M, T, S, E, A, U, Y, L, P, N, hb⟩ := hW.bb
  have hN := hb.hN
  have z0 : (0 : Int32).toInt = 0 := rfl
  by_cases c1 : ¬ (1 ≤ N ∧ (p0 = 0 ∨ p0 = 1))
  · refine ⟨-2, σ, σ, ?_, ?_, hI, Or.inl rfl⟩
    · unfold f_X11_needs f_X11_needs_23
      rw [S_hasSide _ hN hb.cN, bd_mk, b2_f c1, if_pos rfl]
    · unfold f_X12_needs_ f_X12_needs__32 f_X12_needs__34
      rw [S_isSide _ hN hb.mN, bd_mk, b2_f c1, if_pos rfl]
  replace c1 := Decidable.not_not.mp c1
  obtain ⟨i, hi, rfl⟩ : ∃ i, i < 2 ∧ p0 = nI i := by
    rcases c1.2 with e | e
    · exact ⟨0, by omega, e⟩
    · exact ⟨1, by omega, e⟩
  by_cases c3 : ¬ (0 ≤ p1.toInt ∧ p1.toInt ≤ 999)
  · refine ⟨-2, σ, σ, ?_, ?_, hI, Or.inl rfl⟩
    · unfold f_X11_needs f_X11_needs_23
      rw [S_hasSide _ hN hb.cN, bd_mk, b2_t c1, if_neg n10]
      by_cases g : p1 < 0
      · rw [if_pos g]
      · rw [if_neg g, show f_X10_mostTold (3 : Int32) σ = some (nI 999, σ) from S_most (c := 3) (by omega) σ, bd_mk, if_neg]
        rw [lt_toInt] at g
        rw [le_toInt, nI_toInt (by omega)]
        omega
    · unfold f_X12_needs_ f_X12_needs__32 f_X12_needs__34
      rw [S_isSide _ hN hb.mN, bd_mk, b2_t c1, if_neg n10, M_in (p := p1) (lo := 0) (hi := 999) c3, bd_mk, if_pos rfl]
  replace c3 := Decidable.not_not.mp c3
  obtain ⟨v, hv, rfl⟩ := nI_ofT (x := p1) (n := 999) c3.1 c3.2
  obtain ⟨k, hk, k1, k2, kk⟩ := hW.2.2.2.2.2.2.2.2.2
  have f31 : Fr [31] σ (sf σ 31 5 0) := Fr.c1 (by simp)
  have hI31 : IV (sf σ 31 5 0) := hI.fr0 f31 (by decide) (fun c _ => by rw [(f31.1 58 (by decide)).1])
  have k31 : gf (sf σ 31 5 0) 13 3 = nI k := by rw [gf_sf_n _ _ _ _ (by decide)]; exact k1
  have eX : (11 : Int32) + nI i = nI (11 + i) := by rw [zL11, nI_add]
  have hM : ∀ s, gr s 59 9 = nI N → f_X12_needs_ (nI i) (nI v) s = bd (f_X12_changed (nI (11 + i)) (nI v) s) fun r s => some (r, s) := fun s h9 => by
    unfold f_X12_needs_ f_X12_needs__34
    rw [S_isSide _ hN h9, bd_mk, b2_t c1, if_neg n10, M_inY (p := nI v) (lo := 0) (hi := 999) c3, bd_mk, if_neg n10, eX]
  rw [C_need hN c1.1 hi hb.cN hv]
  by_cases c6 : k = 60
  · subst c6
    refine ⟨-5, sf σ 31 5 0, sf σ 31 5 0, by rw [S_change60 k31, bd_mk], ?_, hI31, Or.inr (by rw [gf_sf_s, if_pos rfl])⟩
    rw [hM (sf σ 31 5 0) hb.mN, S_changed60 (σ := sf σ 31 5 0) k2, bd_mk]
  · have hk6 : k < 60 := by omega
    obtain ⟨old, ho, eo, eo2⟩ : ∃ old, old ≤ 999 ∧ gr σ 2 i = nI old ∧ gr σ 59 (11 + i) = nI old := by
      obtain ⟨l, m, a, p, r, d, e, y1, y2, y3, y4, y5, y6, y7, y8, u1, u2, u3, u4, u5, u6, u7, u8, u9, u10, u11, u12, u13, u14⟩ := hW.1
      rcases (by omega : i = 0 ∨ i = 1) with rfl | rfl
      · exact ⟨d, y6, u11, u12⟩
      · exact ⟨e, y7, u13, u14⟩
    have hch := S_change (σ := sf σ 31 5 0) (p0 := nI i) (p1 := 3) (p2 := nI v) (old := nI old) (g := fun s => sr s 2 i (nI v)) hk6 k31 (by rw [S_told_n hi, ← eo]; rfl) (by rw [S_setT_n hi])
    have g59 : gr (sr (CHS (sf σ 31 5 0) k (nI i) 3 (nI old)) 2 i (nI v)) 59 = gr σ 59 := by
      funext j
      rw [gr_sr_n _ _ _ _ (by decide), CHS_r 59 (by decide)]
      rfl
    have g14 : ∀ j, gr (sr (CHS (sf σ 31 5 0) k (nI i) 3 (nI old)) 2 i (nI v)) 14 j = if j = k * 3 + 2 then nI old else if j = k * 3 + 1 then 3 else if j = k * 3 then nI i else gr σ 14 j := fun j => by
      rw [gr_sr_n _ _ _ _ (by decide)]
      exact CHS_14 j
    have hWt : WR (sr (CHS (sf σ 31 5 0) k (nI i) 3 (nI old)) 2 i (nI v)) 1 (CHG (gr σ 59) (11 + i) k (nI v)) := by
      refine WR.updN (σ := sf σ 31 5 0) (F := gr σ 59) (i := i) (v := v) (hI31.2.2.2.2.1).1 hi hv (fun j hj => CHSs_f j hj) (fun j h1 h2 => ?_) (fun j => ?_) (fun j h1 h2 h3 => ?_) ?_ ?_
      · funext x
        rw [gr_sr_n _ _ _ _ h2, CHS_r j (by omega)]
      · rw [gr_sr_s, CHS_r 2 (by omega)]
      · rw [CHG_at, if_neg h1, if_neg h3, if_neg (by omega), if_neg (by omega)]
      · rw [CHG_at, if_neg (by omega), if_pos rfl]
      · refine CR.chg (σ := sf σ 31 5 0) (row := i) (what := 3) (old := old) (hI31.2.2.2.2.1).1.2.2.2.2.2.2.2.2.2 k31 hk6 (by omega) (by omega) (by omega) CHSs_3 (fun j hj => ?_) ?_ ?_ ?_ eo2 ⟨T, hb.mT, hb.hT, Or.inr (Or.inr (Or.inr ⟨rfl, hi, rfl, ho⟩))⟩
        · rw [g14, if_neg (by omega), if_neg (by omega), if_neg (by omega)]; rfl
        · rw [g14, if_neg (by omega), if_neg (by omega), if_pos (by omega)]
        · rw [g14, if_neg (by omega), if_pos (by omega)]; rfl
        · rw [g14, if_pos (by omega)]
    refine ⟨nI old, sr (CHS (sf σ 31 5 0) k (nI i) 3 (nI old)) 2 i (nI v), sR (sr (CHS (sf σ 31 5 0) k (nI i) 3 (nI old)) 2 i (nI v)) 59 (CHG (gr σ 59) (11 + i) k (nI v)), by rw [hch, bd_mk], ?_, ?_, Or.inr ?_⟩
    · rw [hM _ (by rw [g59]; exact hb.mN), S_changed (X := 11 + i) (by omega) (by omega) hk6 (by rw [g59]; exact k2), bd_mk, g59, eo2]
    · have F1 : Fr [1, 2, 3, 4, 5, 6, 7, 8, 9, 10, 11, 12, 13, 14, 31, 59] σ (sr (CHS (sf σ 31 5 0) k (nI i) 3 (nI old)) 2 i (nI v)) := by
        unfold CHS
        exact (((((Fr.c1 (by simp)).tr (Fr.c1 (by simp))).tr (Fr.c2 (by simp))).tr (Fr.c2 (by simp))).tr (Fr.c2 (by simp))).tr (Fr.c2 (by simp))
      refine hI.wc (F1.tr (Fr.cR (by simp))) ?_
      rw [gr_sR, if_pos rfl]
      have hWN : WN (sr (CHS (sf σ 31 5 0) k (nI i) 3 (nI old)) 2 i (nI v)) 1 (CHG (gr σ 59) (11 + i) k (nI v)) := ⟨hWt, by
        rw [show gf (sr (CHS (sf σ 31 5 0) k (nI i) 3 (nI old)) 2 i (nI v)) 1 = gf (sf σ 31 5 0) 1 from CHSs_f 1 (by omega), show gf (sr (CHS (sf σ 31 5 0) k (nI i) 3 (nI old)) 2 i (nI v)) (1 + 2) = gf (sf σ 31 5 0) (1 + 2) from CHSs_f (1 + 2) (by omega)]
        exact (hI31.2.2.2.2.1).2⟩
      exact hWN.kp (fun j h1 h2 => ⟨rfl, by rw [gr_sR, if_neg (by omega)]⟩)
    · show gf (sr (CHS (sf σ 31 5 0) k (nI i) 3 (nI old)) 2 i (nI v)) 31 5 = 0
      rw [CHSs_f 31 (by omega), gf_sf_s, if_pos rfl]
/-! taking back -/
theorem S_drop {σ : St} {k : Nat} (hk : k < 60) (h : gf σ 13 3 = nI (k + 1)) : f_X9_drop 13 σ = some ((), sf σ 13 3 (nI k)) := by
  unfold f_X9_drop f_X9_drop_17
  rw [tb13.isT, gd_tt, h, if_neg (nI_nle (by omega) (by omega)), bnd_mk, nI_pred]
theorem C_undo {σ : St} {k : Nat} {row what old : Int32} {g : St → St} (hk : k < 60) (h : gf σ 13 3 = nI (k + 1)) (h0 : gr σ 14 (3 * k) = row) (h1 : gr σ 14 (3 * k + 1) = what) (h2 : gr σ 14 (3 * k + 2) = old) (hs : f_X10_setToldNumber 1 row what old σ = some ((), g σ)) (hg : gf (g σ) 13 3 = nI (k + 1)) : f_X10_takeBack 1 σ = some (nI k, sf (g σ) 13 3 (nI k)) := by
  unfold f_X10_takeBack
  have c0 : f_X9_cell (1 + 12) (nI k) (0 : Int32) σ = some (row, σ) := by
    rw [← h0, show 3 * k = k * 3 + 0 by omega]
    exact S_getc (c := 0) tb13 (show k + 1 ≤ 60 by omega) (by omega) (by omega) h
  have c1 : f_X9_cell (1 + 12) (nI k) (1 : Int32) σ = some (what, σ) := by
    rw [← h1, show 3 * k + 1 = k * 3 + 1 by omega]
    exact S_getc (c := 1) tb13 (show k + 1 ≤ 60 by omega) (by omega) (by omega) h
  have c2 : f_X9_cell (1 + 12) (nI k) (2 : Int32) σ = some (old, σ) := by
    rw [← h2, show 3 * k + 2 = k * 3 + 2 by omega]
    exact S_getc (c := 2) tb13 (show k + 1 ≤ 60 by omega) (by omega) (by omega) h
  rw [isW_lit (Or.inl rfl), gd_tt, show gf σ (1 + 12) 3 = nI (k + 1) from h, if_neg (nI_ne0 (by omega) (by omega)), bnd_mk, nI_pred, c0, bd_mk, isW_lit (Or.inl rfl), gd_tt, c1, bd_mk, isW_lit (Or.inl rfl), gd_tt, c2, bd_mk, hs, bd_mk, isW_lit (Or.inl rfl), gd_tt, show f_X9_drop (1 + 12) (g σ) = some ((), sf (g σ) 13 3 (nI k)) from S_drop hk hg, bd_mk, isW_lit (Or.inl rfl), gd_tt, show gf (sf (g σ) 13 3 (nI k)) (1 + 12) 3 = nI k from by rw [gf_sf_s, if_pos rfl]]
/-- the reference's row behind an undo -/
def UND (F : Nat → Int32) (X k : Nat) (v : Int32) : Nat → Int32 := upd (upd F 10 (nI k)) X v
theorem UND_at (F : Nat → Int32) (X k : Nat) (v : Int32) (j : Nat) : UND F X k v j = if j = X then v else if j = 10 then nI k else F j := rfl
theorem M_undo {σ : St} {N X k : Nat} (hN : N ≤ 1200) (hN1 : 1 ≤ N) (h9 : gr σ 59 9 = nI N) (hk : k < 60) (h10 : gr σ 59 10 = nI (k + 1)) (hX : X < 120) (hX0 : X ≠ 10) (h0 : gr σ 59 (120 + 2 * k) = nI X) : f_X12_undo σ = some (nI k, sR σ 59 (UND (gr σ 59) X k (gr σ 59 (121 + 2 * k)))) := by
  unfold f_X12_undo
  rw [S_isWar hN h9, bd_mk, b2_t hN1, if_neg n10, show inb (10 : Int32) (ln 59) = true from rfl, gd_tt, show (10 : Int32).toNatClampNeg = 10 from rfl, h10, if_neg (nI_ne0 (by omega) (by omega)), gd_tt, gd_tt, bnd_mk, nI_pred, gd_tt]
  have e0 : sr σ 59 10 (nI k) = sR σ 59 (upd (gr σ 59) 10 (nI k)) := rfl
  have e1 : gr (sR σ 59 (upd (gr σ 59) 10 (nI k))) 59 = upd (gr σ 59) 10 (nI k) := by rw [gr_sR, if_pos rfl]
  rw [e0, e1, upd_at, if_pos rfl, show (120 : Int32) + (2 : Int32) * nI k = nI (120 + 2 * k) from by rw [show (120 : Int32) = nI 120 from rfl, zL2, nI_mul, nI_add], bnd_mk, inb_ln (n := 240) rfl (show 120 + 2 * k < 240 by omega) (by omega), gd_tt, nI_1, inb_ln (n := 240) rfl (show 120 + 2 * k + 1 < 240 by omega) (by omega), gd_tt, nI_clamp (by omega), nI_clamp (by omega)]
  rw [upd_at, if_neg (by omega), h0, inb_ln (n := 240) rfl (show X < 240 by omega) (by omega), gd_tt, nI_clamp (by omega), bnd_mk, gd_tt, sr_sR, gr_sR, if_pos rfl]
  rw [upd_at (upd (gr σ 59) 10 (nI k)), if_neg (fun z => hX0 z.symm), upd_at, if_pos rfl]
  rw [show upd (gr σ 59) 10 (nI k) (120 + 2 * k + 1) = gr σ 59 (121 + 2 * k) from by rw [upd_at, if_neg (by omega), show 120 + 2 * k + 1 = 121 + 2 * k by omega]]
  rfl
theorem CR.und {σ σ' : St} {F : Nat → Int32} {X k v : Nat} (h : CR σ 1 F) (hk0 : gf σ 13 3 = nI (k + 1)) (hk : k < 60) (hX : X < 120) (hX4 : X ≠ 4) (hX0 : X ≠ 10) (h3 : gf σ' 13 3 = nI k) (hg : gr σ' 14 = gr σ 14) : CR σ' 1 (UND F X k (nI v)) := by
  obtain ⟨k', a1, a2, a3, a4⟩ := h
  obtain rfl : k + 1 = k' := (nI_eq (by omega) (by omega)).mp (hk0.symm.trans a2)
  refine ⟨k, by omega, h3, by rw [UND_at, if_neg (fun z => hX0 z.symm), if_pos rfl], fun j hj => ?_⟩
  refine (a4 j (by omega)).mv ?_ (fun x hx => congrFun hg _) ?_ ?_
  · rw [UND_at, if_neg (fun z => hX4 z.symm), if_neg (by omega)]
  · rw [UND_at, if_neg (by omega), if_neg (by omega)]
  · rw [UND_at, if_neg (by omega), if_neg (by omega)]
theorem R_undo (σ : St) (hI : IV σ) : ∃ r s1 s2, f_X11_undo σ = some (r, s1) ∧ f_X12_undo s1 = some (r, s2) ∧ IV s2 ∧ (s2 = σ ∨ gf s2 31 5 = 0) := by
  obtain ⟨hW, hN0⟩ := hI.2.2.2.2.1
  obtain ⟨M, T, S, E, A, U, Y, L, P, N, hb⟩ := hW.bb
  have hN := hb.hN
  have hT := hb.hT
  by_cases c1 : ¬ 1 ≤ N
  · refine ⟨-2, σ, σ, ?_, ?_, hI, Or.inl rfl⟩
    · unfold f_X11_undo
      rw [S_isTold hN hb.cN, bd_mk, b2_f c1, if_pos rfl]
    · unfold f_X12_undo
      rw [S_isWar hN hb.mN, bd_mk, b2_f c1, if_pos rfl]
  replace c1 := Decidable.not_not.mp c1
  have f31 : Fr [31] σ (sf σ 31 5 0) := Fr.c1 (by simp)
  have hI31 : IV (sf σ 31 5 0) := hI.fr0 f31 (by decide) (fun c _ => by rw [(f31.1 58 (by decide)).1])
  have hc : f_X11_undo σ = bd (f_X10_takeBack 1 (sf σ 31 5 0)) fun r s => some (r, s) := by
    unfold f_X11_undo f_X2_forget
    rw [S_isTold hN hb.cN, bd_mk, b2_t c1, if_neg n10, bz_0, gd_tt, bnd_mk, bd_mk]
  rw [hc]
  obtain ⟨k, hk, k1, k2, kk⟩ := hW.2.2.2.2.2.2.2.2.2
  have k31 : gf (sf σ 31 5 0) 13 3 = nI k := by rw [gf_sf_n _ _ _ _ (by decide)]; exact k1
  rcases k with _ | k
  · refine ⟨-5, sf σ 31 5 0, sf σ 31 5 0, ?_, ?_, hI31, Or.inr (by rw [gf_sf_s, if_pos rfl])⟩
    · unfold f_X10_takeBack
      rw [isW_lit (Or.inl rfl), gd_tt, show gf (sf σ 31 5 0) (1 + 12) 3 = nI 0 from k31, if_pos (show nI 0 = 0 from rfl), bd_mk]
    · unfold f_X12_undo
      rw [S_isWar (σ := sf σ 31 5 0) hN hb.mN, bd_mk, b2_t c1, if_neg n10, show inb (10 : Int32) (ln 59) = true from rfl, gd_tt, show gr (sf σ 31 5 0) 59 (10 : Int32).toNatClampNeg = nI 0 from k2, if_pos (show nI 0 = 0 from rfl)]
  · obtain ⟨row, what, old, m, a1, a2, a3, a4, a5, a6, a7⟩ := kk k (by omega)
    obtain rfl : m = T := (nI_eq (by omega) (by omega)).mp (a1.symm.trans hb.mT)
    have t31 : gf (sf σ 31 5 0) 3 3 = nI m := by rw [gf_sf_n _ _ _ _ (by decide)]; exact hb.cT
    have fin : ∀ (X : Nat) (g : St → St), X < 120 → X ≠ 4 → X ≠ 10 → gr σ 59 (120 + 2 * k) = nI X → f_X10_setToldNumber 1 (nI row) (nI what) (nI old) (sf σ 31 5 0) = some ((), g (sf σ 31 5 0)) → gf (g (sf σ 31 5 0)) = gf (sf σ 31 5 0) → gr (g (sf σ 31 5 0)) 59 = gr σ 59 → gr (g (sf σ 31 5 0)) 14 = gr σ 14 → Fr [1, 2, 3, 4, 5, 6, 7, 8, 9, 10, 11, 12, 13, 14, 31, 59] σ (g (sf σ 31 5 0)) → (CR (sf (g (sf σ 31 5 0)) 13 3 (nI k)) 1 (UND (gr σ 59) X k (nI old)) → WR (sf (g (sf σ 31 5 0)) 13 3 (nI k)) 1 (UND (gr σ 59) X k (nI old))) → ∃ r s1 s2, (bd (f_X10_takeBack 1 (sf σ 31 5 0)) fun r s => some (r, s)) = some (r, s1) ∧ f_X12_undo s1 = some (r, s2) ∧ IV s2 ∧ (s2 = σ ∨ gf s2 31 5 = 0) := by
      intro X g x1 x2 x3 x4 x5 x6 x7 x8 x9 x10
      have g13 : gf (g (sf σ 31 5 0)) 13 3 = nI (k + 1) := by rw [x6]; exact k31
      have g59 : gr (sf (g (sf σ 31 5 0)) 13 3 (nI k)) 59 = gr σ 59 := x7
      refine ⟨nI k, sf (g (sf σ 31 5 0)) 13 3 (nI k), sR (sf (g (sf σ 31 5 0)) 13 3 (nI k)) 59 (UND (gr σ 59) X k (nI old)), ?_, ?_, ?_, Or.inr ?_⟩
      · rw [C_undo (by omega) k31 a3 a4 a5 x5 g13, bd_mk]
      · rw [M_undo (X := X) (k := k) hN c1 (by rw [g59]; exact hb.mN) (by omega) (by rw [g59]; exact k2) x1 x3 (by rw [g59]; exact x4), g59, a6]
      · refine hI.wc ((x9.tr (Fr.c1 (by simp))).tr (Fr.cR (by simp))) ?_
        rw [gr_sR, if_pos rfl]
        have hCR : CR (sf (g (sf σ 31 5 0)) 13 3 (nI k)) 1 (UND (gr σ 59) X k (nI old)) := CR.und (σ := σ) hW.2.2.2.2.2.2.2.2.2 k1 (by omega) x1 x2 x3 (by rw [gf_sf_s, if_pos rfl]) x8
        have hWN : WN (sf (g (sf σ 31 5 0)) 13 3 (nI k)) 1 (UND (gr σ 59) X k (nI old)) := ⟨x10 hCR, by
          rw [gf_sf_n _ _ _ _ (by decide), gf_sf_n _ _ _ _ (by decide), x6]
          exact (hI31.2.2.2.2.1).2⟩
        exact hWN.kp (fun j h1 h2 => ⟨rfl, by rw [gr_sR, if_neg (by omega)]⟩)
      · show gf (sf (g (sf σ 31 5 0)) 13 3 (nI k)) 31 5 = 0
        rw [gf_sf_n _ _ _ _ (by decide), x6, gf_sf_s, if_pos rfl]
    have trn : ∀ c, what = c → c < 3 → row < m → gr σ 59 (120 + 2 * k) = nI (13 + 6 * row + coT c) → old ≤ hiT c → ∃ r s1 s2, (bd (f_X10_takeBack 1 (sf σ 31 5 0)) fun r s => some (r, s)) = some (r, s1) ∧ f_X12_undo s1 = some (r, s2) ∧ IV s2 ∧ (s2 = σ ∨ gf s2 31 5 = 0) := by
      intro c ec hc hr hx ho
      have hco := coT_le hc
      refine fin (13 + 6 * row + coT c) (fun s => sr s 4 (row * 6 + coT c) (nI old)) (by omega) (by omega) (by omega) hx ?_ rfl ?_ ?_ ?_ (fun hCR => ?_)
      · rw [S_setT_t hT hr t31 (by rw [ec]) hc]; rfl
      · funext j; rw [gr_sr_n _ _ _ _ (by decide)]; rfl
      · funext j; rw [gr_sr_n _ _ _ _ (by decide)]; rfl
      · exact (Fr.c1 (by simp)).tr (Fr.c2 (by simp))
      · refine WR.updT (σ := sf σ 31 5 0) (F := gr σ 59) (T := m) (t := row) (c := c) (v := old) (hI31.2.2.2.2.1).1 hT hr t31 hc ho (fun i hi => ?_) (fun i h1 h2 => ?_) (fun j => ?_) (fun j h1 h2 h3 => ?_) ?_ hCR
        · funext j; rw [gf_sf_n _ _ _ _ hi]; rfl
        · funext j
          show gr (sr (sf σ 31 5 0) 4 (row * 6 + coT c) (nI old)) i j = _
          rw [gr_sr_n _ _ _ _ h2]
        · show gr (sr (sf σ 31 5 0) 4 (row * 6 + coT c) (nI old)) 4 j = _
          rw [gr_sr_s]
        · rw [UND_at, if_neg h3, if_neg h1]
        · rw [UND_at, if_pos rfl]
    rcases a7 with ⟨b1, b2', b3, b4⟩ | ⟨b1, b2', b3, b4⟩ | ⟨b1, b2', b3, b4⟩ | ⟨b1, b2', b3, b4⟩
    · exact trn 0 b1 (by omega) b2' b3 b4
    · exact trn 1 b1 (by omega) b2' b3 b4
    · exact trn 2 b1 (by omega) b2' b3 b4
    · subst b1
      refine fin (11 + row) (fun s => sr s 2 row (nI old)) (by omega) (by omega) (by omega) b3 (S_setT_n b2') rfl ?_ ?_ ?_ (fun hCR => ?_)
      · funext j; rw [gr_sr_n _ _ _ _ (by decide)]; rfl
      · funext j; rw [gr_sr_n _ _ _ _ (by decide)]; rfl
      · exact (Fr.c1 (by simp)).tr (Fr.c2 (by simp))
      · refine WR.updN (σ := sf σ 31 5 0) (F := gr σ 59) (i := row) (v := old) (hI31.2.2.2.2.1).1 b2' b4 (fun i hi => ?_) (fun i h1 h2 => ?_) (fun j => ?_) (fun j h1 h2 h3 => ?_) ?_ hCR
        · funext j; rw [gf_sf_n _ _ _ _ hi]; rfl
        · funext j
          show gr (sr (sf σ 31 5 0) 2 row (nI old)) i j = _
          rw [gr_sr_n _ _ _ _ h2]
        · show gr (sr (sf σ 31 5 0) 2 row (nI old)) 2 j = _
          rw [gr_sr_s]
        · rw [UND_at, if_neg h3, if_neg h1]
        · rw [UND_at, if_pos rfl]
