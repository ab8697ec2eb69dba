/-! ===== tell, needs, undo: the same of both ===== -/
theorem IV.ch {σ σ' : St} {l : List Nat} (h : IV σ) (hf : Fr l σ σ') (hl : ∀ i ∈ l, i < 75 ∧ i ≠ 60 ∧ i ≠ 61) (hT : TP σ') (hS : SL σ') (hF : FE σ') (hW : WN σ' 1 (gr σ' 59)) : IV σ' := by
  obtain ⟨-, -, -, a4, -, a6, a7, a8⟩ := h
  refine ⟨hT, hS, hF, ?_, hW, a6.kp (fun i hi => ?_) hf.2.1, ?_, ?_⟩
  · intro k b hb
    rw [hf.2.1] at hb
    rw [hf.2.2]
    exact a4 k b hb
  · have := hf.1 i (fun hm => by have := hl i hm; omega)
    exact ⟨this.1, this.2.1⟩
  · intro k k' b
    rw [hf.2.1]
    exact a7 k k' b
  · unfold IC
    rw [hf.2.1, hf.2.2]
    exact a8
/-- a change to the WAR alone -/
theorem IV.wc {σ σ' : St} (h : IV σ) (hf : Fr [1, 2, 3, 4, 5, 6, 7, 8, 9, 10, 11, 12, 13, 14, 31, 59] σ σ') (hW : WN σ' 1 (gr σ' 59)) : IV σ' :=
  h.ch hf (by decide) (h.1.fr hf (by decide) (by rw [(hf.1 58 (by decide)).1])) (h.2.1.fr hf (by decide) (by decide) (by decide) (by decide) (by decide)) (h.2.2.1.fr hf (by decide) (by rw [(hf.1 58 (by decide)).1]) (by rw [(hf.1 58 (by decide)).1])) hW
def hiT (c : Nat) : Nat := if c = 0 then 59 else if c = 1 then 100 else 999
theorem hiT_le (c : Nat) : hiT c ≤ 999 := by unfold hiT; split <;> (try split) <;> omega
theorem CHSs_f {σ : St} {k i' j' : Nat} {a b c v : Int32} (i : Nat) (h : i ≠ 13) : gf (sr (CHS σ k a b c) i' j' v) i = gf σ i := CHS_f (a := a) (b := b) (c := c) i h
theorem CHSs_3 {σ : St} {k i' j' : Nat} {a b c v : Int32} : gf (sr (CHS σ k a b c) i' j' v) 13 3 = nI (k + 1) := CHS_3 (σ := σ) (a := a) (b := b) (c := c)
theorem mT3 (c : Nat) (hc : c < 3) : mTold c = nI (hiT c) := by
  rcases (by omega : c = 0 ∨ c = 1 ∨ c = 2) with rfl | rfl | rfl
  · rfl
  · rfl
  · rfl
def coT (c : Nat) : Nat := (tColumn c).toNatClampNeg
theorem coT_le {c : Nat} (hc : c < 3) : coT c < 6 := by
  rcases (by omega : c = 0 ∨ c = 1 ∨ c = 2) with rfl | rfl | rfl
  · decide
  · decide
  · decide
theorem S_most {c : Nat} (hc : c < 4) (σ : St) : f_X10_mostTold (nI c) σ = some (mTold c, σ) := by
  unfold f_X10_mostTold f_X10_mostTold_21
  rw [if_neg (nI_pos (by omega)), if_neg (nI_ge (by omega) (by omega)), inb_nI hc (by omega), gd_tt, nI_clamp (by omega)]
/-- the class's tell, when all is in its bounds -/
theorem C_tell {σ : St} {N T t c v : Nat} (hN : N ≤ 1200) (hN1 : 1 ≤ N) (hT : T ≤ 9) (ht : t < T) (hc : c < 3) (h : gf σ 1 0 = nI N) (h3 : gf σ 3 3 = nI T) (hv : v ≤ hiT c) : f_X11_tell (nI t) (nI c) (nI v) σ = bd (f_X10_change 1 (nI t) (nI c) (nI v) (sf σ 31 5 0)) fun r s => some (r, s) := by
  have hv9 : hiT c ≤ 999 := by unfold hiT; split <;> (try split) <;> omega
  unfold f_X11_tell
  rw [S_hasTrain _ hN hT h h3, bd_mk, b2_t ⟨hN1, by rw [nI_toInt (by omega)]; omega⟩, if_neg n10, if_neg (nI_pos (by omega)), if_neg (show ¬ (2 : Int32) < nI c from nI_nlt (b := c) (a := 2) (by omega) (by omega)), if_neg (nI_pos (by omega)), S_most (by omega), bd_mk, mT3 c hc, if_pos (show nI v ≤ nI (hiT c) from nI_le hv (by omega))]
  unfold f_X2_forget
  rw [bz_0, gd_tt, bnd_mk, bd_mk]
theorem M_in {σ : St} {p : Int32} {lo hi : Int64} (h : ¬ (lo.toInt ≤ p.toInt ∧ p.toInt ≤ hi.toInt)) : f_X12_in p.toInt64 lo hi σ = some (0, σ) := by
  rw [S_in, b2_f]
  rw [Int32.toInt_toInt64]
  exact h
theorem M_inY {σ : St} {p : Int32} {lo hi : Int64} (h : lo.toInt ≤ p.toInt ∧ p.toInt ≤ hi.toInt) : f_X12_in p.toInt64 lo hi σ = some (1, σ) := by
  rw [S_in, b2_t]
  rw [Int32.toInt_toInt64]
  exact h
theorem M_tell47 {σ : St} {t c : Nat} {p2 : Int32} (ht : t < 9) (hc : c < 3) (hi : Int64) (hhi : hi.toInt = hiT c) : f_X12_tell_47 (nI t) (nI c) p2 hi 0 p2.toInt64 σ = if 0 ≤ p2.toInt ∧ p2.toInt ≤ hiT c then (bd (f_X12_changed (nI (13 + 6 * t + coT c)) p2 σ) fun r s => some (r, s)) else some (-2, σ) := by
  have z0 : (0 : Int64).toInt = 0 := rfl
  unfold f_X12_tell_47 f_X12_tell_53
  by_cases g : 0 ≤ p2.toInt ∧ p2.toInt ≤ hiT c
  · rw [if_pos g, M_inY (by rw [hhi]; exact g), bd_mk, if_neg n10]
    have e : (13 : Int32) + (6 : Int32) * nI t = nI (13 + 6 * t) := by rw [zL13, zL6, nI_mul, nI_add]
    unfold f_X12_tell_82
    rcases (by omega : c = 0 ∨ c = 1 ∨ c = 2) with rfl | rfl | rfl
    · rw [if_pos (show nI 0 = 0 from rfl), e, show nI (13 + 6 * t) + (2 : Int32) = nI (13 + 6 * t + coT 0) from by rw [zL2, nI_add]; rfl]
    · rw [if_neg (show ¬ nI 1 = 0 from by decide), if_pos (show nI 1 = 1 from rfl), e, show nI (13 + 6 * t) + (3 : Int32) = nI (13 + 6 * t + coT 1) from by rw [show (3 : Int32) = nI 3 from rfl, nI_add]; rfl]
    · rw [if_neg (show ¬ nI 2 = 0 from by decide), if_neg (show ¬ nI 2 = 1 from by decide), e, show nI (13 + 6 * t) + (5 : Int32) = nI (13 + 6 * t + coT 2) from by rw [show (5 : Int32) = nI 5 from rfl, nI_add]; rfl]
  · rw [if_neg g, M_in (by rw [hhi]; exact g), bd_mk, if_pos rfl]
theorem M_tell {σ : St} {T t c : Nat} {p2 : Int32} (hT : T ≤ 9) (ht : t < T) (hc : c < 3) (h4 : gr σ 59 4 = nI T) : f_X12_tell (nI t) (nI c) p2 σ = if 0 ≤ p2.toInt ∧ p2.toInt ≤ hiT c then (bd (f_X12_changed (nI (13 + 6 * t + coT c)) p2 σ) fun r s => some (r, s)) else some (-2, σ) := by
  unfold f_X12_tell
  rw [S_isTrain _ hT h4, bd_mk, b2_t (by rw [nI_toInt (by omega)]; omega), if_neg n10, M_inY (by rw [nI_toInt (by omega)]; show (0 : Int) ≤ c ∧ (c : Int) ≤ 2; omega), bd_mk, if_neg n10]
  rcases (by omega : c = 0 ∨ c = 1 ∨ c = 2) with rfl | rfl | rfl
  · rw [if_pos (show nI 0 = 0 from rfl)]; exact M_tell47 (by omega) (by omega) 59 rfl
  · rw [if_neg (show ¬ nI 1 = 0 from by decide), if_pos (show nI 1 = 1 from rfl)]; exact M_tell47 (by omega) (by omega) 100 rfl
  · rw [if_neg (show ¬ nI 2 = 0 from by decide), if_neg (show ¬ nI 2 = 1 from by decide)]; exact M_tell47 (by omega) (by omega) 999 rfl
/-- the WAR behind a change of a TRAIN -/
theorem WR.tell {σ : St} {F : Nat → Int32} {T t c k v old : Nat} (h : WR σ 1 F) (hT : T ≤ 9) (ht : t < T) (h3 : gf σ 3 3 = nI T) (hF4 : F 4 = nI T) (hc : c < 3) (hk : k < 60) (hk0 : gf σ 13 3 = nI k) (hv : v ≤ hiT c) (hold : F (13 + 6 * t + coT c) = nI old) (ho : old ≤ hiT c) : WR (sr (CHS σ k (nI t) (nI c) (nI old)) 4 (t * 6 + coT c) (nI v)) 1 (CHG F (13 + 6 * t + coT c) k (nI v)) := by
  have hco := coT_le hc
  have gf' : ∀ i, i ≠ 13 → gf (sr (CHS σ k (nI t) (nI c) (nI old)) 4 (t * 6 + coT c) (nI v)) i = gf σ i := fun i hi => CHSs_f i hi
  have gr' : ∀ i, i ≠ 14 → i ≠ 4 → gr (sr (CHS σ k (nI t) (nI c) (nI old)) 4 (t * 6 + coT c) (nI v)) i = gr σ i := fun i hi h4 => by
    funext j
    rw [gr_sr_n _ _ _ _ h4, CHS_r i hi]
  have hFs : ∀ j, j ≠ 10 → j < 120 → j ≠ 13 + 6 * t + coT c → CHG F (13 + 6 * t + coT c) k (nI v) j = F j := fun j h1 h2 h3 => by
    rw [CHG_at, if_neg h1, if_neg h3, if_neg (by omega), if_neg (by omega)]
  refine h.chg (fun i h1 h2 => ⟨gf' i (by omega), gr' i (by omega) (by omega)⟩) (fun j hj => hFs j (by omega) (by omega) (by omega)) ?_ ?_ ?_
  · exact h.1.mv (fun j _ => by rw [gf' 1 (by omega)]) (fun j _ => by rw [gr' (1 + 1) (by omega) (by omega)]) (fun j h1 h2 h3 h4 h5 h6 h7 => hFs j (by omega) (by omega) (by omega))
  · refine TV.set (σ := σ) (k := T) (i := t) (c := coT c) h.2.1 h3 hT (by omega) hco (nI v) ?_ ?_ (fun j hj => ?_) (hFs 4 (by omega) (by omega) (by omega)) (fun j h1 h2 => ?_)
    · rw [nI_toInt (by have := hiT_le c; omega)]
      rcases (by omega : c = 0 ∨ c = 1 ∨ c = 2) with rfl | rfl | rfl
      · show (0 : Int) ≤ v ∧ (v : Int) ≤ 59
        have : hiT 0 = 59 := rfl
        omega
      · show (0 : Int) ≤ v ∧ (v : Int) ≤ 100
        have : hiT 1 = 100 := rfl
        omega
      · show (0 : Int) ≤ v ∧ (v : Int) ≤ 999
        have : hiT 2 = 999 := rfl
        omega
    · rw [gf' 3 (by omega)]
    · show gr (sr (CHS σ k (nI t) (nI c) (nI old)) 4 (t * 6 + coT c) (nI v)) 4 j = _
      rw [gr_sr_s, CHS_r 4 (by omega)]
    · rw [CHG_at, if_neg (by omega)]
      by_cases e : j = 13 + 6 * t + coT c
      · rw [if_pos e, if_pos e]
      · rw [if_neg e, if_neg e, if_neg (by omega), if_neg (by omega)]
  · have g14 : ∀ j, gr (sr (CHS σ k (nI t) (nI c) (nI old)) 4 (t * 6 + coT c) (nI v)) 14 j = if j = k * 3 + 2 then nI old else if j = k * 3 + 1 then nI c else if j = k * 3 then nI t else gr σ 14 j := fun j => by
      rw [gr_sr_n _ _ _ _ (by decide)]
      exact CHS_14 j
    refine CR.chg (row := t) (what := c) (old := old) h.2.2.2.2.2.2.2.2.2 hk0 hk (by omega) (by omega) (by omega) CHSs_3 (fun j hj => ?_) ?_ ?_ ?_ hold ⟨T, hF4, hT, ?_⟩
    · rw [g14, if_neg (by omega), if_neg (by omega), if_neg (by omega)]
    · rw [g14, if_neg (by omega), if_neg (by omega), if_pos (by omega)]
    · rw [g14, if_neg (by omega), if_pos (by omega)]
    · rw [g14, if_pos (by omega)]
    · rcases (by omega : c = 0 ∨ c = 1 ∨ c = 2) with rfl | rfl | rfl
      · exact Or.inl ⟨rfl, ht, rfl, ho⟩
      · exact Or.inr (Or.inl ⟨rfl, ht, rfl, ho⟩)
      · exact Or.inr (Or.inr (Or.inl ⟨rfl, ht, rfl, ho⟩))
theorem R_tell (p0 p1 p2 : Int32) (σ : St) (hI : IV σ) : ∃ r s1 s2, f_X11_tell p0 p1 p2 σ = some (r, s1) ∧ f_X12_tell p0 p1 p2 s1 = some (r, s2) ∧ IV s2 ∧ (s2 = σ ∨ gf s2 31 5 = 0) := by
  obtain ⟨hW, hN0⟩ := hI.2.2.2.2.1
  obtain ⟨M, T, S, E, A, U, Y, L, P, N, hb⟩ := hW.bb
  have hT := hb.hT
  have hN := hb.hN
  have z0 : (0 : Int32).toInt = 0 := rfl
  have z2 : (2 : Int32).toInt = 2 := rfl
  have hNT : N = 0 → T = 0 := fun e => by
    have h1 := hN0 (by rw [hb.cN, e])
    rw [show gf σ (1 + 2) 3 = nI T from hb.cT] at h1
    exact (nI_eq (by omega) (by omega)).mp h1
  by_cases c1 : ¬ (1 ≤ N ∧ 0 ≤ p0.toInt ∧ p0.toInt < T)
  · refine ⟨-2, σ, σ, ?_, ?_, hI, Or.inl rfl⟩
    · unfold f_X11_tell f_X11_tell_32
      rw [S_hasTrain _ hN hT hb.cN hb.cT, bd_mk, b2_f c1, if_pos rfl]
    · unfold f_X12_tell f_X12_tell_53
      rw [S_isTrain _ hT hb.mT, bd_mk, b2_f (fun z => c1 ⟨by omega, z⟩), if_pos rfl]
  replace c1 := Decidable.not_not.mp c1
  obtain ⟨t, ht', rfl⟩ := nI_ofT (x := p0) (n := 9) c1.2.1 (by omega)
  have ht : t < T := by
    have := c1.2.2
    rw [nI_toInt (by omega)] at this
    omega
  by_cases c2 : ¬ (0 ≤ p1.toInt ∧ p1.toInt ≤ 2)
  · refine ⟨-2, σ, σ, ?_, ?_, hI, Or.inl rfl⟩
    · unfold f_X11_tell f_X11_tell_32
      rw [S_hasTrain _ hN hT hb.cN hb.cT, bd_mk, b2_t c1, if_neg n10]
      by_cases g : p1 < 0
      · rw [if_pos g]
      · rw [if_neg g, if_pos]
        rw [lt_toInt] at g
        rw [lt_toInt]
        omega
    · unfold f_X12_tell f_X12_tell_53
      rw [S_isTrain _ hT hb.mT, bd_mk, b2_t c1.2, if_neg n10, M_in (p := p1) (lo := 0) (hi := 2) c2, bd_mk, if_pos rfl]
  replace c2 := Decidable.not_not.mp c2
  obtain ⟨c, hc', rfl⟩ := nI_ofT (x := p1) (n := 2) c2.1 (by omega)
  have hc : c < 3 := by omega
  have h9 := hiT_le c
  by_cases c3 : ¬ (0 ≤ p2.toInt ∧ p2.toInt ≤ hiT c)
  · refine ⟨-2, σ, σ, ?_, ?_, hI, Or.inl rfl⟩
    · unfold f_X11_tell f_X11_tell_32
      rw [S_hasTrain _ hN hT hb.cN hb.cT, bd_mk, b2_t c1, if_neg n10, if_neg (nI_pos (by omega)), if_neg (show ¬ (2 : Int32) < nI c from nI_nlt (b := c) (a := 2) (by omega) (by omega))]
      by_cases g : p2 < 0
      · rw [if_pos g]
      · rw [if_neg g, S_most (by omega), bd_mk, mT3 c hc, if_neg]
        rw [lt_toInt] at g
        show ¬ p2 ≤ nI (hiT c)
        rw [le_toInt, nI_toInt (by omega)]
        omega
    · rw [M_tell hT ht hc hb.mT, if_neg c3]
  replace c3 := Decidable.not_not.mp c3
  obtain ⟨v, hv', rfl⟩ := nI_ofT (x := p2) (n := 999) c3.1 (by omega)
  have hv : v ≤ hiT c := by
    have := c3.2
    rw [nI_toInt (by omega)] at this
    omega
  obtain ⟨k, hk, k1, k2, -⟩ := hW.2.2.2.2.2.2.2.2.2
  have f31 : Fr [31] σ (sf σ 31 5 0) := Fr.c1 (by simp)
  have hI31 : IV (sf σ 31 5 0) := hI.fr0 f31 (by decide) (fun c _ => by rw [(f31.1 58 (by decide)).1])
  have k31 : gf (sf σ 31 5 0) 13 3 = nI k := by rw [gf_sf_n _ _ _ _ (by decide)]; exact k1
  have t31 : gf (sf σ 31 5 0) 3 3 = nI T := by rw [gf_sf_n _ _ _ _ (by decide)]; exact hb.cT
  rw [C_tell hN c1.1 hT ht hc hb.cN hb.cT hv]
  by_cases c6 : k = 60
  · subst c6
    refine ⟨-5, sf σ 31 5 0, sf σ 31 5 0, by rw [S_change60 k31, bd_mk], ?_, hI31, Or.inr (by rw [gf_sf_s, if_pos rfl])⟩
    rw [M_tell (σ := sf σ 31 5 0) hT ht hc hb.mT, if_pos c3, S_changed60 (σ := sf σ 31 5 0) k2, bd_mk]
  · have hk6 : k < 60 := by omega
    have hX : 13 + 6 * t + coT c < 120 := by have := coT_le hc; omega
    obtain ⟨T', u1, u2, u3, u4⟩ := hW.2.1
    obtain rfl : T = T' := (nI_eq (by omega) (by omega)).mp (hb.cT.symm.trans u2)
    obtain ⟨w1, w2, w3⟩ := u4 t ht (coT c) (coT_le hc)
    have hob : 0 ≤ (gr σ 59 (13 + 6 * t + coT c)).toInt ∧ (gr σ 59 (13 + 6 * t + coT c)).toInt ≤ hiT c := by
      rcases (by omega : c = 0 ∨ c = 1 ∨ c = 2) with rfl | rfl | rfl
      · exact ⟨w2, w3⟩
      · exact ⟨w2, w3⟩
      · exact ⟨w2, w3⟩
    obtain ⟨old, ho', eo⟩ := nI_ofT (x := gr σ 59 (13 + 6 * t + coT c)) (n := 999) hob.1 (by omega)
    have ho : old ≤ hiT c := by
      have := hob.2
      rw [eo, nI_toInt (by omega)] at this
      omega
    have w1' : gr σ 4 (t * 6 + coT c) = nI old := by rw [← eo]; exact w1
    have hch := S_change (σ := sf σ 31 5 0) (p0 := nI t) (p1 := nI c) (p2 := nI v) (old := nI old) (g := fun s => sr s 4 (t * 6 + coT c) (nI v)) hk6 k31 (by rw [S_told_t hT ht t31 rfl hc, ← w1']; rfl) (by rw [S_setT_t hT ht (by rw [CHS_f 3 (by omega)]; exact t31) rfl hc]; rfl)
    have hWt := WR.tell (σ := sf σ 31 5 0) (F := gr σ 59) (v := v) (hI31.2.2.2.2.1).1 hT ht t31 hb.mT hc hk6 k31 hv eo ho
    have g59 : gr (sr (CHS (sf σ 31 5 0) k (nI t) (nI c) (nI old)) 4 (t * 6 + coT c) (nI v)) 59 = gr σ 59 := by
      funext j
      rw [gr_sr_n _ _ _ _ (by decide), CHS_r 59 (by decide)]
      rfl
    refine ⟨nI old, sr (CHS (sf σ 31 5 0) k (nI t) (nI c) (nI old)) 4 (t * 6 + coT c) (nI v), sR (sr (CHS (sf σ 31 5 0) k (nI t) (nI c) (nI old)) 4 (t * 6 + coT c) (nI v)) 59 (CHG (gr σ 59) (13 + 6 * t + coT c) k (nI v)), by rw [hch, bd_mk], ?_, ?_, Or.inr ?_⟩
    · rw [M_tell hT ht hc (by rw [g59]; exact hb.mT), if_pos c3, S_changed hX (by omega) hk6 (by rw [g59]; exact k2), bd_mk, g59, eo]
    · have F1 : Fr [1, 2, 3, 4, 5, 6, 7, 8, 9, 10, 11, 12, 13, 14, 31, 59] σ (sr (CHS (sf σ 31 5 0) k (nI t) (nI c) (nI old)) 4 (t * 6 + coT c) (nI v)) := by
        unfold CHS
        exact (((((Fr.c1 (by simp)).tr (Fr.c1 (by simp))).tr (Fr.c2 (by simp))).tr (Fr.c2 (by simp))).tr (Fr.c2 (by simp))).tr (Fr.c2 (by simp))
      refine hI.wc (F1.tr (Fr.cR (by simp))) ?_
      rw [gr_sR, if_pos rfl]
      have hWN : WN (sr (CHS (sf σ 31 5 0) k (nI t) (nI c) (nI old)) 4 (t * 6 + coT c) (nI v)) 1 (CHG (gr σ 59) (13 + 6 * t + coT c) k (nI v)) := ⟨hWt, by
        rw [show gf (sr (CHS (sf σ 31 5 0) k (nI t) (nI c) (nI old)) 4 (t * 6 + coT c) (nI v)) 1 = gf (sf σ 31 5 0) 1 from CHSs_f 1 (by omega), show gf (sr (CHS (sf σ 31 5 0) k (nI t) (nI c) (nI old)) 4 (t * 6 + coT c) (nI v)) (1 + 2) = gf (sf σ 31 5 0) (1 + 2) from CHSs_f (1 + 2) (by omega)]
        exact (hI31.2.2.2.2.1).2⟩
      exact hWN.kp (fun i h1 h2 => ⟨rfl, by rw [gr_sR, if_neg (by omega)]⟩)
    · show gf (sr (CHS (sf σ 31 5 0) k (nI t) (nI c) (nI old)) 4 (t * 6 + coT c) (nI v)) 31 5 = 0
      rw [CHSs_f 31 (by omega), gf_sf_s, if_pos rfl]
