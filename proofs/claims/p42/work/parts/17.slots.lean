/-! ===== SLOTS: row, write, paste ===== -/
theorem nI_mul (a b : Nat) : nI a * nI b = nI (a * b) := (Int32.ofNat_mul a b).symm
theorem inb_nI {j n : Nat} (h : j < n) (hn : n ≤ 2 ^ 31) : inb (nI j) n = true := by
  simp only [inb, nI_toInt (show j < 2 ^ 31 by omega), Bool.and_eq_true, decide_eq_true_eq]
  omega
theorem i32_bd (x : Int32) : -2147483648 ≤ x.toInt ∧ x.toInt < 2147483648 := ⟨Int32.le_toInt x, Int32.toInt_lt x⟩
theorem nI_ofT {x : Int32} {n : Nat} (h : 0 ≤ x.toInt) (hn : x.toInt ≤ n) : ∃ j : Nat, j ≤ n ∧ x = nI j := by
  have hb := i32_bd x
  obtain ⟨j, hj, e⟩ := nI_of (x := x) (fun q => by rw [lt_toInt] at q; have : (0 : Int32).toInt = 0 := rfl; omega)
  refine ⟨j, ?_, e⟩
  rw [e, nI_toInt hj] at hn
  omega
theorem l64_add (x y : Int32) : (x.toInt64 + y.toInt64).toInt = x.toInt + y.toInt := by
  have h1 := i32_bd x
  have h2 := i32_bd y
  rw [Int64.toInt_add, Int32.toInt_toInt64, Int32.toInt_toInt64, Int.bmod_eq_of_le (by omega) (by omega)]
theorem i32_sub {x y : Int32} (h : -2147483648 ≤ x.toInt - y.toInt ∧ x.toInt - y.toInt < 2147483648) : (x - y).toInt = x.toInt - y.toInt := by
  rw [Int32.toInt_sub, Int.bmod_eq_of_le (by omega) (by omega)]
theorem i32_add {x y : Int32} (h : -2147483648 ≤ x.toInt + y.toInt ∧ x.toInt + y.toInt < 2147483648) : (x + y).toInt = x.toInt + y.toInt := by
  rw [Int32.toInt_add, Int.bmod_eq_of_le (by omega) (by omega)]
theorem S_slot (p : Int32) (σ : St) : f_X7_isSlot p σ = some (b2 (0 ≤ p.toInt ∧ p.toInt ≤ 3), σ) := by
  unfold f_X7_isSlot f_X7_isSlot_13 f_X7_isSlot_14
  rw [bz_0, bz_1, gd_tt, gd_tt]
  have z0 : (0 : Int32).toInt = 0 := rfl
  have z4 : (4 : Int32).toInt = 4 := rfl
  by_cases h1 : p < 0
  · rw [if_pos h1, b2_f]
    rw [lt_toInt] at h1
    omega
  · rw [if_neg h1]
    rw [lt_toInt] at h1
    by_cases h2 : (4 : Int32) ≤ p
    · rw [if_pos h2, b2_f]
      rw [le_toInt] at h2
      omega
    · rw [if_neg h2, b2_t]
      rw [le_toInt] at h2
      omega
theorem S_slotM (p : Int32) (σ : St) : f_X12_isSlot p σ = some (b2 (0 ≤ p.toInt ∧ p.toInt ≤ 3), σ) := by
  unfold f_X12_isSlot
  rw [S_in, bd_mk, bz_b2, gd_tt]
  simp only [Int32.toInt_toInt64]
  rfl
/-- SLOT s as both have it -/
def SLs (σ : St) (s : Nat) : Prop := (gr σ 53 s = 0 ∧ gr σ 71 s = -1) ∨ (gr σ 53 s = 1 ∧ ∃ n w : Nat, n ≤ 60 ∧ w ≤ 3 ∧ gr σ 55 s = nI n ∧ gr σ 71 s = nI n ∧ gr σ 54 s = nI w ∧ gr σ 72 s = nI w)
def SL (σ : St) : Prop := ∀ s, s < 4 → SLs σ s
theorem SL.fr {σ σ' : St} {l : List Nat} (h : SL σ) (hf : Fr l σ σ') (h53 : 53 ∉ l) (h54 : 54 ∉ l) (h55 : 55 ∉ l) (h71 : 71 ∉ l) (h72 : 72 ∉ l) : SL σ' := by
  intro s hs
  unfold SLs
  rw [(hf.1 53 h53).2.1, (hf.1 54 h54).2.1, (hf.1 55 h55).2.1, (hf.1 71 h71).2.1, (hf.1 72 h72).2.1]
  exact h s hs
theorem nI_m1 {n : Nat} (h : n ≤ 60) : ¬ nI n = -1 := fun q => by
  have := congrArg Int32.toInt q
  rw [nI_toInt (by omega)] at this
  have z : (-1 : Int32).toInt = -1 := rfl
  omega
theorem lay_loop {s N : Nat} (hs : s < 4) (hN : N ≤ 60) : ∀ (k i q : Nat) (σ : St), i + k = N → k < q → ∃ σ', itr g_X7_lay_56 q (nI s, nI N, nI i, σ) = some (0, σ') ∧ Fr [56] σ σ' := by
  intro k
  induction k with
  | zero =>
    intro i q σ h hq
    obtain ⟨q, rfl⟩ : ∃ r, q = r + 1 := ⟨q - 1, by omega⟩
    refine ⟨σ, ?_, Fr.rf⟩
    rw [itr_succ]
    unfold g_X7_lay_56
    dsimp only
    rw [if_pos (nI_le (by omega) (by omega))]
  | succ k ih =>
    intro i q σ h hq
    obtain ⟨q, rfl⟩ : ∃ r, q = r + 1 := ⟨q - 1, by omega⟩
    rw [itr_succ]
    generalize hR : itr g_X7_lay_56 q = R
    unfold g_X7_lay_56
    dsimp only
    rw [if_neg (nI_ge (by omega) (by omega)), show (60 : Int32) = nI 60 from rfl, nI_mul, nI_add, inb_nI (show s * 60 + i < ln 56 by show _ < 240; omega) (by decide), gd_tt, bnd_mk, bnd_mk, nI_1]
    obtain ⟨σ', e, hf⟩ := ih (i + 1) q (sj σ 56 (nI (s * 60 + i)).toNatClampNeg 0) (by omega) (by omega)
    rw [hR] at e
    exact ⟨σ', e, (Fr.c3 (by simp)).tr hf⟩
theorem row_loop {s : Nat} (hs : s < 4) : ∀ (k i q : Nat) (σ : St), i + k = 60 → k < q → ∃ σ', itr g_X12_row_52 q (nI s, nI i, σ) = some (0, σ') ∧ Fr [73] σ σ' := by
  intro k
  induction k with
  | zero =>
    intro i q σ h hq
    obtain ⟨q, rfl⟩ : ∃ r, q = r + 1 := ⟨q - 1, by omega⟩
    refine ⟨σ, ?_, Fr.rf⟩
    rw [itr_succ]
    unfold g_X12_row_52
    dsimp only
    rw [show (60 : Int32) = nI 60 from rfl, if_pos (nI_le (by omega) (by omega))]
  | succ k ih =>
    intro i q σ h hq
    obtain ⟨q, rfl⟩ : ∃ r, q = r + 1 := ⟨q - 1, by omega⟩
    rw [itr_succ]
    generalize hR : itr g_X12_row_52 q = R
    unfold g_X12_row_52
    dsimp only
    rw [show (60 : Int32) = nI 60 from rfl, if_neg (nI_ge (by omega) (by omega)), nI_mul, nI_add, inb_nI (show 60 * s + i < ln 73 by show _ < 240; omega) (by decide), gd_tt, bnd_mk, bnd_mk, nI_1]
    obtain ⟨σ', e, hf⟩ := ih (i + 1) q (sj σ 73 (nI (60 * s + i)).toNatClampNeg 0) (by omega) (by omega)
    rw [hR] at e
    exact ⟨σ', e, (Fr.c3 (by simp)).tr hf⟩
theorem gr_sr_s (σ : St) (i k j : Nat) (v : Int32) : gr (sr σ i k v) i j = if j = k then v else gr σ i j := by
  unfold sr
  rw [gr_sRs]
  rfl
theorem gr_sr_n (σ : St) {i i' : Nat} (k j : Nat) (v : Int32) (h : i' ≠ i) : gr (sr σ i k v) i' j = gr σ i' j := by
  unfold sr
  rw [gr_sRn _ _ h]
theorem e_in3 (p : Int32) : ((0 : Int64).toInt ≤ p.toInt64.toInt ∧ p.toInt64.toInt ≤ (3 : Int64).toInt) ↔ (0 ≤ p.toInt ∧ p.toInt ≤ 3) := by
  rw [Int32.toInt_toInt64]
  exact Iff.rfl
theorem n10 : ¬ (1 : Int32) = 0 := by decide
theorem R_row (p w n : Int32) (σ : St) (hS : SL σ) : ∃ r s1 s2, f_X11_row p w n σ = some (r, s1) ∧ f_X12_row p w n s1 = some (r, s2) ∧ SL s2 ∧ Fr [53, 54, 55, 56, 71, 72, 73] σ s2 := by
  unfold f_X11_row f_X7_lay f_X12_row f_X7_lay_22 f_X12_row_25
  simp only [S_slot, S_slotM, S_in, bd_mk]
  have z0 : (0 : Int32).toInt = 0 := rfl
  have z4 : (4 : Int32).toInt = 4 := rfl
  have z60 : (60 : Int32).toInt = 60 := rfl
  by_cases h1 : 0 ≤ p.toInt ∧ p.toInt ≤ 3
  · simp only [b2_t h1]
    simp only [if_neg n10]
    by_cases h2 : 0 ≤ w.toInt ∧ w.toInt ≤ 3
    · have c1 : ¬ w < 0 := by rw [lt_toInt]; omega
      have c2 : ¬ (4 : Int32) ≤ w := by rw [le_toInt]; omega
      rw [if_neg c1, if_neg c2]
      by_cases h3 : n ≤ (60 : Int32)
      · rw [if_pos h3]
        by_cases h4 : 0 ≤ n
        · rw [if_pos h4]
          rw [le_toInt] at h3 h4
          obtain ⟨s, hs, rfl⟩ := nI_ofT (n := 3) h1.1 h1.2
          obtain ⟨v, hv, rfl⟩ := nI_ofT (n := 3) h2.1 h2.2
          obtain ⟨N, hN, rfl⟩ := nI_ofT (n := 60) (show 0 ≤ n.toInt by omega) (by omega)
          rw [inb_nI (show s < ln 53 by show _ < 4; omega) (by decide), inb_nI (show s < ln 54 by show _ < 4; omega) (by decide), inb_nI (show s < ln 55 by show _ < 4; omega) (by decide)]
          obtain ⟨s1, e1, f1⟩ := lay_loop (s := s) (N := N) (by omega) hN N 0 FU (sr (sr (sr σ 53 (nI s).toNatClampNeg (vp_nar .boolean (1 : Int32))) 54 (nI s).toNatClampNeg (nI v)) 55 (nI s).toNatClampNeg (nI N)) (by omega) (by unfold FU; omega)
          obtain ⟨s2, e2, f2⟩ := row_loop (s := s) (by omega) 60 0 FU (sr (sr s1 71 (nI s).toNatClampNeg (nI N)) 72 (nI s).toNatClampNeg (nI v)) (by omega) (by unfold FU; omega)
          refine ⟨0, s1, s2, ?_, ?_, ?_, ?_⟩
          · simp only [gd_tt, bnd_mk]
            rw [show (0 : Int32) = nI 0 from rfl, e1, bd_mk]
            rfl
          · simp only [b2_t ((e_in3 _).mpr h2), if_neg n10]
            rw [if_pos (show nI N ≤ 60 by rw [le_toInt]; exact h3), if_pos (show 0 ≤ nI N by rw [le_toInt]; exact h4), inb_nI (show s < ln 71 by show _ < 4; omega) (by decide), inb_nI (show s < ln 72 by show _ < 4; omega) (by decide)]
            exact e2
          · intro t ht
            have hc : (nI s).toNatClampNeg = s := nI_clamp (by omega)
            have a53 : gr s2 53 t = if t = s then 1 else gr σ 53 t := by
              rw [(f2.1 53 (by simp)).2.1, gr_sr_n _ _ _ _ (by decide), gr_sr_n _ _ _ _ (by decide), (f1.1 53 (by simp)).2.1, gr_sr_n _ _ _ _ (by decide), gr_sr_n _ _ _ _ (by decide), gr_sr_s, hc]
              rfl
            have a54 : gr s2 54 t = if t = s then nI v else gr σ 54 t := by
              rw [(f2.1 54 (by simp)).2.1, gr_sr_n _ _ _ _ (by decide), gr_sr_n _ _ _ _ (by decide), (f1.1 54 (by simp)).2.1, gr_sr_n _ _ _ _ (by decide), gr_sr_s, hc, gr_sr_n _ _ _ _ (by decide)]
            have a55 : gr s2 55 t = if t = s then nI N else gr σ 55 t := by
              rw [(f2.1 55 (by simp)).2.1, gr_sr_n _ _ _ _ (by decide), gr_sr_n _ _ _ _ (by decide), (f1.1 55 (by simp)).2.1, gr_sr_s, hc, gr_sr_n _ _ _ _ (by decide), gr_sr_n _ _ _ _ (by decide)]
            have a71 : gr s2 71 t = if t = s then nI N else gr σ 71 t := by
              rw [(f2.1 71 (by simp)).2.1, gr_sr_n _ _ _ _ (by decide), gr_sr_s, hc, (f1.1 71 (by simp)).2.1, gr_sr_n _ _ _ _ (by decide), gr_sr_n _ _ _ _ (by decide), gr_sr_n _ _ _ _ (by decide)]
            have a72 : gr s2 72 t = if t = s then nI v else gr σ 72 t := by
              rw [(f2.1 72 (by simp)).2.1, gr_sr_s, hc, gr_sr_n _ _ _ _ (by decide), (f1.1 72 (by simp)).2.1, gr_sr_n _ _ _ _ (by decide), gr_sr_n _ _ _ _ (by decide), gr_sr_n _ _ _ _ (by decide)]
            unfold SLs
            rw [a53, a54, a55, a71, a72]
            by_cases ts : t = s
            · rw [if_pos ts, if_pos ts, if_pos ts, if_pos ts, if_pos ts]
              exact Or.inr ⟨rfl, N, v, hN, hv, rfl, rfl, rfl, rfl⟩
            · rw [if_neg ts, if_neg ts, if_neg ts, if_neg ts, if_neg ts]
              exact hS t ht
          · have g1 : Fr [53, 54, 55, 56, 71, 72, 73] σ (sr (sr (sr σ 53 (nI s).toNatClampNeg (vp_nar .boolean (1 : Int32))) 54 (nI s).toNatClampNeg (nI v)) 55 (nI s).toNatClampNeg (nI N)) := ((Fr.c2 (by simp)).tr (Fr.c2 (by simp))).tr (Fr.c2 (by simp))
            have g2 : Fr [53, 54, 55, 56, 71, 72, 73] s1 (sr (sr s1 71 (nI s).toNatClampNeg (nI N)) 72 (nI s).toNatClampNeg (nI v)) := (Fr.c2 (by simp)).tr (Fr.c2 (by simp))
            exact ((g1.tr (f1.mo (by simp))).tr g2).tr (f2.mo (by simp))
        · rw [if_neg h4]
          refine ⟨-3, σ, σ, rfl, ?_, hS, Fr.rf⟩
          simp only [b2_t ((e_in3 _).mpr h2), if_neg n10]
          rw [if_pos h3, if_neg h4]
      · rw [if_neg h3]
        refine ⟨-2, σ, σ, rfl, ?_, hS, Fr.rf⟩
        simp only [b2_t ((e_in3 _).mpr h2), if_neg n10]
        rw [if_neg h3]
    · refine ⟨-2, σ, σ, ?_, ?_, hS, Fr.rf⟩
      · by_cases c1 : w < 0
        · rw [if_pos c1, bd_mk]
        · rw [if_neg c1]
          have c2 : (4 : Int32) ≤ w := by
            rw [lt_toInt] at c1
            rw [le_toInt]
            omega
          rw [if_pos c2, bd_mk]
      · rw [b2_f (fun g => h2 ((e_in3 w).mp g)), if_pos rfl]
  · simp only [b2_f h1]
    exact ⟨-2, σ, σ, rfl, rfl, hS, Fr.rf⟩
theorem S_cutTo (w : Int32) (v : Int64) (σ : St) : ∃ r, f_X7_cutTo w v σ = some (r, σ) := by
  unfold f_X7_cutTo
  split
  · exact ⟨_, rfl⟩
  · split
    · exact ⟨_, rfl⟩
    · split <;> exact ⟨_, rfl⟩
theorem S_cut (v : Int64) (w : Int32) (σ : St) : ∃ r, f_X12_cut v w σ = some (r, σ) := ⟨_, rfl⟩
theorem R_write (p i : Int32) (v : Int64) (σ : St) (hS : SL σ) : ∃ r s1 s2, f_X11_write p i v σ = some (r, s1) ∧ f_X12_write p i v s1 = some (r, s2) ∧ SL s2 ∧ Fr [56, 73] σ s2 := by
  unfold f_X11_write f_X7_put f_X12_write f_X7_put_36
  simp only [S_slot, S_slotM, S_in, bd_mk]
  have z0 : (0 : Int32).toInt = 0 := rfl
  by_cases h1 : 0 ≤ p.toInt ∧ p.toInt ≤ 3
  · simp only [b2_t h1, if_neg n10]
    obtain ⟨s, hs, rfl⟩ := nI_ofT (n := 3) h1.1 h1.2
    have hc : (nI s).toNatClampNeg = s := nI_clamp (by omega)
    rw [inb_nI (show s < ln 53 by show _ < 4; omega) (by decide), inb_nI (show s < ln 54 by show _ < 4; omega) (by decide), inb_nI (show s < ln 55 by show _ < 4; omega) (by decide)]
    simp only [inb_nI (show s < ln 71 by show _ < 4; omega) (by decide), inb_nI (show s < ln 72 by show _ < 4; omega) (by decide), hc, gd_tt]
    rcases hS s (by omega) with ⟨a1, a2⟩ | ⟨a1, n, w, hn, hw, b1, b2', b3, b4⟩
    · refine ⟨-6, σ, σ, ?_, ?_, hS, Fr.rf⟩
      · rw [if_pos a1, bd_mk]
      · rw [if_pos a2]
    · have c0 : ¬ gr σ 53 s = 0 := by rw [a1]; exact n10
      have c1 : ¬ gr σ 71 s = -1 := by rw [b2']; exact nI_m1 hn
      have e1 : (nI n - 1).toInt = (n : Int) - 1 := by
        rw [i32_sub, nI_toInt (by omega)]
        · rfl
        · rw [nI_toInt (by omega)]
          have : (1 : Int32).toInt = 1 := rfl
          omega
      rw [if_neg c0]
      by_cases h2 : 0 ≤ i.toInt ∧ i.toInt < n
      · have c2 : ¬ i < 0 := by rw [lt_toInt]; omega
        have c3 : i < gr σ 55 s := by rw [b1, lt_toInt, nI_toInt (by omega)]; omega
        obtain ⟨r, er⟩ := S_cutTo (gr σ 54 s) v σ
        obtain ⟨j, hj, rfl⟩ := nI_ofT (n := n - 1) h2.1 (by omega)
        rw [nI_toInt (by omega)] at h2
        rw [if_neg c2, if_pos c3, er, bd_mk, show (60 : Int32) = nI 60 from rfl]
        simp only [nI_mul, nI_add]
        rw [inb_nI (show s * 60 + j < ln 56 by show _ < 240; omega) (by decide), gd_tt, bnd_mk]
        obtain ⟨r', er'⟩ := S_cut v (gr (sj σ 56 (nI (s * 60 + j)).toNatClampNeg r) 72 s) (sj σ 56 (nI (s * 60 + j)).toNatClampNeg r)
        have hF : Fr [56, 73] σ (sj (sj σ 56 (nI (s * 60 + j)).toNatClampNeg r) 73 (nI (60 * s + j)).toNatClampNeg r') := (Fr.c3 (by simp)).tr (Fr.c3 (by simp))
        refine ⟨0, _, _, rfl, ?_, hS.fr hF (by simp) (by simp) (by simp) (by simp) (by simp), hF⟩
        have c1' : ¬ gr (sj σ 56 (nI (s * 60 + j)).toNatClampNeg r) 71 s = -1 := c1
        rw [if_neg c1', show gr (sj σ 56 (nI (s * 60 + j)).toNatClampNeg r) 71 s = nI n from b2', b2_t (by rw [Int32.toInt_toInt64, Int32.toInt_toInt64, e1, nI_toInt (by omega)]; exact ⟨Int.natCast_nonneg j, by omega⟩), if_neg n10, er', bd_mk, inb_nI (show 60 * s + j < ln 73 by show _ < 240; omega) (by decide), gd_tt, bnd_mk]
      · refine ⟨-7, σ, σ, ?_, ?_, hS, Fr.rf⟩
        · by_cases c2 : i < 0
          · rw [if_pos c2, bd_mk]
          · have c3 : ¬ i < gr σ 55 s := by
              rw [lt_toInt] at c2
              rw [b1, lt_toInt, nI_toInt (by omega)]
              omega
            rw [if_neg c2, if_neg c3, bd_mk]
        · rw [if_neg c1, b2', b2_f (by
            rw [Int32.toInt_toInt64, Int32.toInt_toInt64, e1]
            intro g
            have g1 : 0 ≤ i.toInt := g.1
            omega), if_pos rfl]
  · simp only [b2_f h1]
    exact ⟨-2, σ, σ, rfl, rfl, hS, Fr.rf⟩
theorem S_within {s n : Nat} (hs : s < 4) (hn : n ≤ 60) (i k : Int32) (σ : St) (h : gr σ 55 s = nI n) : f_X7_isWithin (nI s) i k σ = some (b2 (0 ≤ i.toInt ∧ 0 ≤ k.toInt ∧ i.toInt + k.toInt ≤ n), σ) := by
  unfold f_X7_isWithin f_X7_isWithin_34 f_X7_isWithin_35
  have z0 : (0 : Int32).toInt = 0 := rfl
  have hc : (nI s).toNatClampNeg = s := nI_clamp (by omega)
  simp only [bz_0, bz_1, gd_tt, hc, h, inb_nI (show s < ln 55 by show _ < 4; omega) (by decide)]
  by_cases c1 : i < 0
  · rw [if_pos c1, b2_f]
    rw [lt_toInt] at c1
    omega
  · rw [if_neg c1]
    rw [lt_toInt] at c1
    by_cases c2 : k < 0
    · rw [if_pos c2, b2_f]
      rw [lt_toInt] at c2
      omega
    · rw [if_neg c2]
      rw [lt_toInt] at c2
      have hk := i32_bd k
      by_cases c3 : nI n < i
      · rw [if_pos c3, b2_f]
        rw [lt_toInt, nI_toInt (by omega)] at c3
        omega
      · rw [if_neg c3]
        rw [lt_toInt, nI_toInt (by omega)] at c3
        have e : (nI n - i).toInt = n - i.toInt := by
          rw [i32_sub, nI_toInt (by omega)]
          rw [nI_toInt (by omega)]
          omega
        by_cases c4 : nI n - i < k
        · rw [if_pos c4, b2_f]
          rw [lt_toInt, e] at c4
          omega
        · rw [if_neg c4, b2_t]
          rw [lt_toInt, e] at c4
          omega
theorem paste2 {t k N : Nat} (ht : t < 4) (hk : k + N ≤ 60) : ∀ (c x q : Nat) (σ : St), x + c = N → c < q → ∃ σ', itr g_X12_paste_150 q (nI t, nI k, nI N, nI x, σ) = some (0, σ') ∧ Fr [73, 74] σ σ' := by
  intro c
  induction c with
  | zero =>
    intro x q σ h hq
    obtain ⟨q, rfl⟩ : ∃ r, q = r + 1 := ⟨q - 1, by omega⟩
    refine ⟨σ, ?_, Fr.rf⟩
    rw [itr_succ]
    unfold g_X12_paste_150
    dsimp only
    rw [if_pos (nI_le (by omega) (by omega))]
  | succ c ih =>
    intro x q σ h hq
    obtain ⟨q, rfl⟩ : ∃ r, q = r + 1 := ⟨q - 1, by omega⟩
    rw [itr_succ]
    generalize hR : itr g_X12_paste_150 q = R
    unfold g_X12_paste_150
    dsimp only
    rw [if_neg (nI_ge (by omega) (by omega)), show (60 : Int32) = nI 60 from rfl, nI_mul, nI_add, nI_add, inb_nI (show x < ln 74 by show _ < 60; omega) (by decide), inb_nI (show 60 * t + k + x < ln 73 by show _ < 240; omega) (by decide), gd_tt, gd_tt, bnd_mk, bnd_mk, nI_1]
    obtain ⟨σ', e, hf⟩ := ih (x + 1) q (sj σ 73 (nI (60 * t + k + x)).toNatClampNeg (gj σ 74 (nI x).toNatClampNeg)) (by omega) (by omega)
    rw [hR] at e
    exact ⟨σ', e, (Fr.c3 (by simp)).tr hf⟩
theorem paste1 {s i t k N : Nat} (hs : s < 4) (hi : i + N ≤ 60) (ht : t < 4) (hk : k + N ≤ 60) : ∀ (c x q : Nat) (σ : St), x + c = N → c < q → ∃ σ', itr g_X12_paste_113 q (nI s, nI i, nI t, nI k, nI N, nI x, σ) = some (0, σ') ∧ Fr [73, 74] σ σ' := by
  intro c
  induction c with
  | zero =>
    intro x q σ h hq
    obtain ⟨q, rfl⟩ : ∃ r, q = r + 1 := ⟨q - 1, by omega⟩
    obtain ⟨σ', e, hf⟩ := paste2 ht hk N 0 FU σ (by omega) (by unfold FU; omega)
    refine ⟨σ', ?_, hf⟩
    rw [itr_succ]
    unfold g_X12_paste_113
    dsimp only
    rw [if_pos (nI_le (by omega) (by omega))]
    exact e
  | succ c ih =>
    intro x q σ h hq
    obtain ⟨q, rfl⟩ : ∃ r, q = r + 1 := ⟨q - 1, by omega⟩
    rw [itr_succ]
    generalize hR : itr g_X12_paste_113 q = R
    unfold g_X12_paste_113
    dsimp only
    rw [if_neg (nI_ge (by omega) (by omega)), show (60 : Int32) = nI 60 from rfl, nI_mul, nI_add, nI_add, inb_nI (show x < ln 74 by show _ < 60; omega) (by decide), inb_nI (show 60 * s + i + x < ln 73 by show _ < 240; omega) (by decide), gd_tt, gd_tt, bnd_mk, bnd_mk, nI_1]
    obtain ⟨σ', e, hf⟩ := ih (x + 1) q (sj σ 74 (nI x).toNatClampNeg (gj σ 73 (nI (60 * s + i + x)).toNatClampNeg)) (by omega) (by omega)
    rw [hR] at e
    exact ⟨σ', e, (Fr.c3 (by simp)).tr hf⟩
theorem R_paste (p i t k N : Int32) (σ : St) (hS : SL σ) : ∃ r s1 s2, f_X11_paste p i t k N σ = some (r, s1) ∧ f_X12_paste p i t k N s1 = some (r, s2) ∧ SL s2 ∧ Fr [56, 73, 74] σ s2 := by
  unfold f_X11_paste f_X7_copy f_X12_paste f_X7_copy_14 f_X7_copy_35 f_X7_copy_79 f_X12_paste_14 f_X12_paste_37 f_X12_paste_107
  simp only [S_slot, S_slotM, bd_mk]
  have z0 : (0 : Int32).toInt = 0 := rfl
  by_cases h1 : 0 ≤ p.toInt ∧ p.toInt ≤ 3
  · simp only [b2_t h1, if_neg n10]
    by_cases h2 : 0 ≤ t.toInt ∧ t.toInt ≤ 3
    · simp only [b2_t h2, if_neg n10]
      obtain ⟨s, hs, rfl⟩ := nI_ofT (n := 3) h1.1 h1.2
      obtain ⟨u, hu, rfl⟩ := nI_ofT (n := 3) h2.1 h2.2
      have hc : (nI s).toNatClampNeg = s := nI_clamp (by omega)
      have hd' : (nI u).toNatClampNeg = u := nI_clamp (by omega)
      simp only [inb_nI (show s < ln 53 by show _ < 4; omega) (by decide), inb_nI (show u < ln 53 by show _ < 4; omega) (by decide), inb_nI (show s < ln 54 by show _ < 4; omega) (by decide), inb_nI (show u < ln 54 by show _ < 4; omega) (by decide), inb_nI (show s < ln 71 by show _ < 4; omega) (by decide), inb_nI (show u < ln 71 by show _ < 4; omega) (by decide), inb_nI (show s < ln 72 by show _ < 4; omega) (by decide), inb_nI (show u < ln 72 by show _ < 4; omega) (by decide), hc, hd', gd_tt]
      rcases hS s (by omega) with ⟨a1, a2⟩ | ⟨a1, n, w, hn, hw, b1, b2', b3, b4⟩
      · refine ⟨-6, σ, σ, ?_, ?_, hS, Fr.rf⟩
        · rw [if_pos a1, bd_mk]
        · rw [if_pos a2]
      · have c0 : ¬ gr σ 53 s = 0 := by rw [a1]; exact n10
        have c1 : ¬ gr σ 71 s = -1 := by rw [b2']; exact nI_m1 hn
        simp only [if_neg c0]
        rcases hS u (by omega) with ⟨a1', a2'⟩ | ⟨a1', n', w', hn', hw', d1, d2, d3, d4⟩
        · refine ⟨-6, σ, σ, ?_, ?_, hS, Fr.rf⟩
          · rw [if_pos a1', bd_mk]
          · rw [if_neg c1, if_pos a2']
        · have c0' : ¬ gr σ 53 u = 0 := by rw [a1']; exact n10
          have c1' : ¬ gr σ 71 u = -1 := by rw [d2]; exact nI_m1 hn'
          simp only [if_neg c0']
          by_cases hw2 : w = w'
          · subst hw2
            have e54 : gr σ 54 s = gr σ 54 u := by rw [b3, d3]
            have e72 : gr σ 72 s = gr σ 72 u := by rw [b4, d4]
            rw [if_pos e54, S_within (show s < 4 by omega) hn i N σ b1, bd_mk]
            by_cases g1 : 0 ≤ i.toInt ∧ 0 ≤ N.toInt ∧ i.toInt + N.toInt ≤ n
            · rw [b2_t g1, if_neg n10, S_within (show u < 4 by omega) hn' k N σ d1, bd_mk]
              by_cases g2 : 0 ≤ k.toInt ∧ 0 ≤ N.toInt ∧ k.toInt + N.toInt ≤ n'
              · obtain ⟨j, hj, rfl⟩ := nI_ofT (n := 60) g1.1 (by omega)
                obtain ⟨M, hM, rfl⟩ := nI_ofT (n := 60) g1.2.1 (by omega)
                obtain ⟨x, hx, rfl⟩ := nI_ofT (n := 60) g2.1 (by omega)
                have f1 : ¬ nI j < 0 := nI_pos (by omega)
                have f2 : ¬ nI x < 0 := nI_pos (by omega)
                have f3 : ¬ nI M < 0 := nI_pos (by omega)
                rw [nI_toInt (by omega), nI_toInt (by omega)] at g1 g2
                have hcp : cpok (nI s * 60 + nI j) (nI u * 60 + nI x) (nI M) (ln 56) (ln 56) = true := by
                  rw [show (60 : Int32) = nI 60 from rfl, nI_mul, nI_mul, nI_add, nI_add]
                  simp only [cpok, Bool.and_eq_true, decide_eq_true_eq, nI_clamp (show s * 60 + j < 2 ^ 31 by omega), nI_clamp (show u * 60 + x < 2 ^ 31 by omega), nI_clamp (show M < 2 ^ 31 by omega)]
                  refine ⟨⟨⟨⟨nI_pos (by omega), nI_pos (by omega)⟩, f3⟩, ?_⟩, ?_⟩
                  · show _ ≤ 240
                    omega
                  · show _ ≤ 240
                    omega
                rw [b2_t ⟨by rw [nI_toInt (by omega)]; omega, by rw [nI_toInt (by omega)]; omega, by rw [nI_toInt (by omega), nI_toInt (by omega)]; exact g2.2.2⟩, if_neg n10, hcp, gd_tt, bnd_mk]
                generalize va_cpy (gj σ 56) (gj σ 56) (nI s * 60 + nI j).toNatClampNeg (nI u * 60 + nI x).toNatClampNeg (nI M).toNatClampNeg = F
                obtain ⟨s2, e2, f4⟩ := paste1 (s := s) (i := j) (t := u) (k := x) (N := M) (by omega) (by omega) (by omega) (by omega) M 0 FU (sJ σ 56 F) (by omega) (by unfold FU; omega)
                have hF : Fr [56, 73, 74] σ s2 := (Fr.cJ (by simp)).tr (f4.mo (by simp))
                refine ⟨0, _, s2, rfl, ?_, hS.fr hF (by simp) (by simp) (by simp) (by simp) (by simp), hF⟩
                have k1 : ¬ gr (sJ σ 56 F) 71 s = -1 := c1
                have k2 : ¬ gr (sJ σ 56 F) 71 u = -1 := c1'
                have k3 : gr (sJ σ 56 F) 72 s = gr (sJ σ 56 F) 72 u := e72
                have k4 : ¬ 0 < lg_cmp ((nI j).toInt64 + (nI M).toInt64) (gr (sJ σ 56 F) 71 s).toInt64 := by
                  rw [lcmp_gt, l64_add, show gr (sJ σ 56 F) 71 s = nI n from b2', Int32.toInt_toInt64, nI_toInt (by omega), nI_toInt (by omega), nI_toInt (by omega)]
                  omega
                have k5 : lg_cmp ((nI x).toInt64 + (nI M).toInt64) (gr (sJ σ 56 F) 71 u).toInt64 ≤ 0 := by
                  rw [← Int32.not_lt, lcmp_gt, l64_add, show gr (sJ σ 56 F) 71 u = nI n' from d2, Int32.toInt_toInt64, nI_toInt (by omega), nI_toInt (by omega), nI_toInt (by omega)]
                  omega
                rw [if_neg k1, if_neg k2, if_pos k3, if_neg f1, if_neg f2, if_neg f3, if_neg k4, if_pos k5]
                exact e2
              · rw [b2_f g2, if_pos rfl]
                refine ⟨-7, σ, σ, rfl, ?_, hS, Fr.rf⟩
                rw [if_neg c1, if_neg c1', if_pos e72]
                have f1 : ¬ i < 0 := by rw [lt_toInt]; omega
                have f3 : ¬ N < 0 := by rw [lt_toInt]; omega
                have k4 : ¬ 0 < lg_cmp (i.toInt64 + N.toInt64) (gr σ 71 s).toInt64 := by
                  rw [lcmp_gt, l64_add, b2', Int32.toInt_toInt64, nI_toInt (by omega)]
                  omega
                rw [if_neg f1, if_neg f3, if_neg k4]
                by_cases f2 : k < 0
                · rw [if_pos f2]
                · rw [if_neg f2]
                  have k5 : ¬ lg_cmp (k.toInt64 + N.toInt64) (gr σ 71 u).toInt64 ≤ 0 := by
                    rw [lt_toInt] at f2
                    rw [← Int32.not_lt, lcmp_gt, l64_add, d2, Int32.toInt_toInt64, nI_toInt (by omega)]
                    omega
                  rw [if_neg k5]
            · rw [b2_f g1, if_pos rfl]
              refine ⟨-7, σ, σ, rfl, ?_, hS, Fr.rf⟩
              rw [if_neg c1, if_neg c1', if_pos e72]
              by_cases f1 : i < 0
              · rw [if_pos f1]
              · rw [if_neg f1]
                by_cases f2 : k < 0
                · rw [if_pos f2]
                · rw [if_neg f2]
                  by_cases f3 : N < 0
                  · rw [if_pos f3]
                  · rw [if_neg f3]
                    have k4 : 0 < lg_cmp (i.toInt64 + N.toInt64) (gr σ 71 s).toInt64 := by
                      rw [lt_toInt] at f1 f3
                      rw [lcmp_gt, l64_add, b2', Int32.toInt_toInt64, nI_toInt (by omega)]
                      omega
                    rw [if_pos k4]
          · have e54 : ¬ gr σ 54 s = gr σ 54 u := by rw [b3, d3, nI_eq (by omega) (by omega)]; exact hw2
            have e72 : ¬ gr σ 72 s = gr σ 72 u := by rw [b4, d4, nI_eq (by omega) (by omega)]; exact hw2
            refine ⟨-8, σ, σ, ?_, ?_, hS, Fr.rf⟩
            · rw [if_neg e54, bd_mk]
            · rw [if_neg c1, if_neg c1', if_neg e72]
    · simp only [b2_f h2]
      exact ⟨-2, σ, σ, rfl, rfl, hS, Fr.rf⟩
  · simp only [b2_f h1]
    exact ⟨-2, σ, σ, rfl, rfl, hS, Fr.rf⟩
