/-! ===== what is told anew, what is taken back ===== -/
theorem tb13 : TB4 13 3 60 := by unfold TB4; decide
theorem S_setc {t wd room k i c : Nat} {σ : St} (hT : TB4 t wd room) (hk : k ≤ room) (hi' : i < k) (hc : c < wd) (r : Int32) (h : gf σ t 3 = nI k) : f_X9_set t (nI i) (nI c) r σ = some ((), sr σ (t + 1) (i * wd + c) r) := by
  have hi := hT.isT σ
  obtain ⟨h1, h2, h3, h4, h5, h6, h7, h8, h9, h10, -⟩ := hT
  have hb : i * wd + c < room * wd := by
    have : (i + 1) * wd ≤ room * wd := Nat.mul_le_mul_right _ (by omega)
    rw [Nat.add_mul, Nat.one_mul] at this
    omega
  have hb2 : room * wd ≤ 360 := by
    calc room * wd ≤ 60 * 6 := Nat.mul_le_mul h10 h8
      _ = 360 := rfl
  unfold f_X9_set f_X9_set_38
  rw [hi, gd_tt, h, h1, if_neg (nI_pos (by omega)), if_neg (nI_ge (by omega) (by omega)), if_neg (nI_pos (by omega)), if_neg (nI_ge (by omega) (by omega)), h3, nI_mul, nI_add, inb_nI hb (by omega), gd_tt, bnd_mk, nI_clamp (by omega)]
theorem WR.chg {σ σ' : St} {F F' : Nat → Int32} (h : WR σ 1 F) (ho : ∀ i, 5 ≤ i → i < 13 → gf σ' i = gf σ i ∧ gr σ' i = gr σ i) (hF : ∀ j, (4 ≤ j ∧ j ≤ 8) ∨ (67 ≤ j ∧ j < 120) → F' j = F j) (hd : HD σ' 1 F') (ht : TV σ' 3 F' 4 13 6 9 [0, 1, 0, 0, 1, 0] [1, 99, 59, 100, 30, 999]) (hc : CR σ' 1 F') : WR σ' 1 F' := by
  obtain ⟨-, -, b3, b4, b5, b6, b7, b8, b9, -⟩ := h
  refine ⟨hd, ht, ?_, ?_, ?_, ?_, ?_, ?_, ?_, hc⟩
  · exact b3.mv (congrFun (ho (1 + 4) (by omega) (by omega)).1 3) (fun j _ => congrFun (ho (1 + 4 + 1) (by omega) (by omega)).2 j) (hF 5 (by omega)) (fun j h1 h2 => hF j (by omega))
  · exact b4.mv (congrFun (ho (1 + 6) (by omega) (by omega)).1 3) (fun j _ => congrFun (ho (1 + 6 + 1) (by omega) (by omega)).2 j) (hF 6 (by omega)) (fun j h1 h2 => hF j (by omega))
  · exact b5.mv (congrFun (ho (1 + 8) (by omega) (by omega)).1 3) (fun j _ => congrFun (ho (1 + 8 + 1) (by omega) (by omega)).2 j) (hF 7 (by omega)) (fun j h1 h2 => hF j (by omega))
  · exact b6.mv (congrFun (ho (1 + 10) (by omega) (by omega)).1 3) (fun j _ => congrFun (ho (1 + 10 + 1) (by omega) (by omega)).2 j) (hF 8 (by omega)) (fun j h1 h2 => hF j (by omega))
  · intro k hk h4 i hi
    rw [hF (67 + 2 * i) (by omega), hF (67 + 2 * i + 1) (by omega)]
    exact b7 k (by rw [← hF 5 (by omega)]; exact hk) h4 i hi
  · intro k hk h4 i hi
    rw [hF (107 + 2 * i) (by omega), hF (107 + 2 * i + 1) (by omega)]
    exact b8 k (by rw [← hF 7 (by omega)]; exact hk) h4 i hi
  · intro k m hk h5 hm h9 i hi
    rw [hF (115 + i) (by omega)]
    exact b9 k m (by rw [← hF 8 (by omega)]; exact hk) h5 (by rw [← hF 4 (by omega)]; exact hm) h9 i hi
theorem CE.mv {σ σ' : St} {F F' : Nat → Int32} {j : Nat} (h : CE σ 1 F j) (h4 : F' 4 = F 4) (hg : ∀ x, x < 3 → gr σ' (1 + 13) (3 * j + x) = gr σ (1 + 13) (3 * j + x)) (h0 : F' (120 + 2 * j) = F (120 + 2 * j)) (h1 : F' (121 + 2 * j) = F (121 + 2 * j)) : CE σ' 1 F' j := by
  obtain ⟨row, what, old, m, a1, a2, a3, a4, a5, a6, a7⟩ := h
  refine ⟨row, what, old, m, h4.trans a1, a2, (hg 0 (by omega)).trans a3, (hg 1 (by omega)).trans a4, (hg 2 (by omega)).trans a5, h1.trans a6, ?_⟩
  rw [h0]
  exact a7
theorem cell_ne {wd i c i' c' : Nat} (hc : c < wd) (hc' : c' < wd) (h : ¬ (i' = i ∧ c' = c)) : i' * wd + c' ≠ i * wd + c := by
  intro e
  rcases Nat.lt_trichotomy i' i with g | g | g
  · have := Nat.mul_le_mul_right wd (show i' + 1 ≤ i from g)
    rw [Nat.add_mul, Nat.one_mul] at this
    omega
  · subst g
    omega
  · have := Nat.mul_le_mul_right wd (show i + 1 ≤ i' from g)
    rw [Nat.add_mul, Nat.one_mul] at this
    omega
theorem TV.set {σ σ' : St} {t : Nat} {F F' : Nat → Int32} {ix base wd room k i c : Nat} {lo hi : List Int} (h : TV σ t F ix base wd room lo hi) (hk : gf σ t 3 = nI k) (hkr : k ≤ room) (hr : room ≤ 60) (hc : c < wd) (v : Int32) (hv : lo.getD c 0 ≤ v.toInt ∧ v.toInt ≤ hi.getD c 0) (h1 : gf σ' t 3 = gf σ t 3) (h2 : ∀ j, j < wd * room → gr σ' (t + 1) j = if j = i * wd + c then v else gr σ (t + 1) j) (h3 : F' ix = F ix) (h4 : ∀ j, base ≤ j → j < base + wd * room → F' j = if j = base + wd * i + c then v else F j) : TV σ' t F' ix base wd room lo hi := by
  obtain ⟨k', a1, a2, a3, a4⟩ := h
  refine ⟨k', a1, h1.trans a2, h3.trans a3, fun i' hi' c' hc' => ?_⟩
  have hb : i' * wd + c' < wd * room := by
    have : (i' + 1) * wd ≤ room * wd := Nat.mul_le_mul_right _ (by omega)
    rw [Nat.add_mul, Nat.one_mul] at this
    rw [Nat.mul_comm wd room]
    omega
  have e1 : wd * i' = i' * wd := Nat.mul_comm _ _
  have e2 : wd * i = i * wd := Nat.mul_comm _ _
  rw [h2 _ hb, h4 _ (by omega) (by omega)]
  by_cases e : i' = i ∧ c' = c
  · rw [if_pos (by rw [e.1, e.2]), if_pos (by rw [e.1, e.2]), e.2]
    exact ⟨rfl, hv⟩
  · have := cell_ne hc hc' e
    rw [if_neg this, if_neg (by omega)]
    exact a4 i' hi' c' hc'
/-- the reference's row behind a change -/
def CHG (F : Nat → Int32) (X k : Nat) (v : Int32) : Nat → Int32 := upd (upd (upd (upd F (120 + 2 * k) (nI X)) (121 + 2 * k) (F X)) X v) 10 (nI (k + 1))
theorem upd_at (f : Nat → Int32) (k j : Nat) (v : Int32) : upd f k v j = if j = k then v else f j := rfl
theorem sr_sR (s : St) (i k : Nat) (f : Nat → Int32) (v : Int32) : sr (sR s i f) i k v = sR s i (upd f k v) := by
  unfold sr
  rw [gr_sR, if_pos rfl]
  unfold sR
  congr 2
  funext j
  unfold va_up
  by_cases e : j = i
  · rw [if_pos e, if_pos e]
  · simp only [if_neg e]
theorem S_changed {σ : St} {X k : Nat} {v : Int32} (hX : X < 120) (hX0 : X ≠ 10) (hk : k < 60) (h : gr σ 59 10 = nI k) : f_X12_changed (nI X) v σ = some (gr σ 59 X, sR σ 59 (CHG (gr σ 59) X k v)) := by
  unfold f_X12_changed f_X12_change
  rw [show inb (10 : Int32) (ln 59) = true from rfl, gd_tt, show (10 : Int32).toNatClampNeg = 10 from rfl, h, if_neg (show ¬ nI k = (60 : Int32) from fun z => absurd ((nI_eq (b := 60) (by omega) (by omega)).mp z) (by omega)), inb_ln (n := 240) rfl (show X < 240 by omega) (by omega), gd_tt, nI_clamp (by omega), bnd_mk, gd_tt, show (120 : Int32) + (2 : Int32) * nI k = nI (120 + 2 * k) from by rw [show (120 : Int32) = nI 120 from rfl, zL2, nI_mul, nI_add], bnd_mk, inb_ln (n := 240) rfl (show 120 + 2 * k < 240 by omega) (by omega), gd_tt, nI_clamp (by omega), bnd_mk, gd_tt, nI_1, inb_ln (n := 240) rfl (show 120 + 2 * k + 1 < 240 by omega) (by omega), gd_tt, nI_clamp (by omega), bnd_mk, gd_tt, bnd_mk, gd_tt, gd_tt, bnd_mk, bd_mk]
  have e0 : sr σ 59 (120 + 2 * k) (nI X) = sR σ 59 (upd (gr σ 59) (120 + 2 * k) (nI X)) := rfl
  rw [e0, sr_sR, sr_sR, sr_sR, gr_sR, if_pos rfl, gr_sR, if_pos rfl]
  have e1 : upd (gr σ 59) (120 + 2 * k) (nI X) X = gr σ 59 X := by rw [upd_at, if_neg (by omega)]
  have e2 : upd (upd (upd (gr σ 59) (120 + 2 * k) (nI X)) (120 + 2 * k + 1) (upd (gr σ 59) (120 + 2 * k) (nI X) X)) X v 10 = nI k := by
    rw [upd_at, if_neg (by omega), upd_at, if_neg (by omega), upd_at, if_neg (by omega), h]
  rw [e2, nI_1, e1]
  unfold CHG
  rw [show 120 + 2 * k + 1 = 121 + 2 * k by omega]
theorem S_changed60 {σ : St} {X v : Int32} (h : gr σ 59 10 = nI 60) : f_X12_changed X v σ = some (-5, σ) := by
  unfold f_X12_changed
  rw [show inb (10 : Int32) (ln 59) = true from rfl, gd_tt, show (10 : Int32).toNatClampNeg = 10 from rfl, h, if_pos (show nI 60 = (60 : Int32) from rfl)]
theorem CHG_at (F : Nat → Int32) (X k : Nat) (v : Int32) (j : Nat) : CHG F X k v j = if j = 10 then nI (k + 1) else if j = X then v else if j = 121 + 2 * k then F X else if j = 120 + 2 * k then nI X else F j := rfl
/-- CR behind a change: the class's table has a row more -/
theorem CR.chg {σ σ' : St} {F : Nat → Int32} {X k row what old : Nat} {v : Int32} (h : CR σ 1 F) (hk0 : gf σ 13 3 = nI k) (hk : k < 60) (hX : X < 120) (hX4 : X ≠ 4) (hX0 : X ≠ 10)
    (h3 : gf σ' 13 3 = nI (k + 1)) (hg : ∀ j, j < 3 * k → gr σ' 14 j = gr σ 14 j) (g0 : gr σ' 14 (3 * k) = nI row) (g1 : gr σ' 14 (3 * k + 1) = nI what) (g2 : gr σ' 14 (3 * k + 2) = nI old) (hold : F X = nI old)
    (hx : ∃ m, F 4 = nI m ∧ m ≤ 9 ∧ ((what = 0 ∧ row < m ∧ nI X = nI (13 + 6 * row + 2) ∧ old ≤ 59) ∨ (what = 1 ∧ row < m ∧ nI X = nI (13 + 6 * row + 3) ∧ old ≤ 100) ∨ (what = 2 ∧ row < m ∧ nI X = nI (13 + 6 * row + 5) ∧ old ≤ 999) ∨ (what = 3 ∧ row < 2 ∧ nI X = nI (11 + row) ∧ old ≤ 999))) : CR σ' 1 (CHG F X k v) := by
  obtain ⟨k', a1, a2, a3, a4⟩ := h
  obtain rfl : k = k' := (nI_eq (by omega) (by omega)).mp (hk0.symm.trans a2)
  have e4 : CHG F X k v 4 = F 4 := by rw [CHG_at, if_neg (by omega), if_neg (by omega), if_neg (by omega), if_neg (by omega)]
  refine ⟨k + 1, by omega, h3, by rw [CHG_at, if_pos rfl], fun j hj => ?_⟩
  by_cases e : j = k
  · subst e
    obtain ⟨m, m1, m2, m3⟩ := hx
    refine ⟨row, what, old, m, e4.trans m1, m2, g0, g1, g2, ?_, ?_⟩
    · rw [CHG_at, if_neg (by omega), if_neg (by omega), if_pos rfl, hold]
    · rw [CHG_at, if_neg (by omega), if_neg (by omega), if_neg (by omega), if_pos rfl]
      exact m3
  · refine (a4 j (by omega)).mv e4 (fun x hx => hg _ (by omega)) ?_ ?_
    · rw [CHG_at, if_neg (by omega), if_neg (by omega), if_neg (by omega), if_neg (by omega)]
    · rw [CHG_at, if_neg (by omega), if_neg (by omega), if_neg (by omega), if_neg (by omega)]
/-! the first questions of a call, as both answer them -/
theorem S_isTold {σ : St} {N : Nat} (hN : N ≤ 1200) (h : gf σ 1 0 = nI N) : f_X10_isTold 1 σ = some (b2 (1 ≤ N), σ) := by
  unfold f_X10_isTold f_X10_isTold_12
  rw [isW_lit (Or.inl rfl), gd_tt, h]
  by_cases c : 1 ≤ N
  · rw [if_neg (nI_nle (by omega) (by omega)), bz_1, gd_tt, b2_t c]
  · obtain rfl : N = 0 := by omega
    rw [if_pos (show nI 0 ≤ (0 : Int32) from by decide), bz_0, gd_tt, b2_f c]
theorem S_isWar {σ : St} {N : Nat} (hN : N ≤ 1200) (h : gr σ 59 9 = nI N) : f_X12_isWar σ = some (b2 (1 ≤ N), σ) := by
  unfold f_X12_isWar f_X12_isWar_15
  rw [show inb (9 : Int32) (ln 59) = true from rfl, gd_tt, show (9 : Int32).toNatClampNeg = 9 from rfl, h]
  by_cases c : 1 ≤ N
  · rw [if_neg (nI_nle (by omega) (by omega)), bz_1, gd_tt, b2_t c]
  · obtain rfl : N = 0 := by omega
    rw [if_pos (show nI 0 ≤ (0 : Int32) from by decide), bz_0, gd_tt, b2_f c]
theorem S_hasTrain {σ : St} {N T : Nat} (p : Int32) (hN : N ≤ 1200) (hT : T ≤ 9) (h : gf σ 1 0 = nI N) (h3 : gf σ 3 3 = nI T) : f_X10_hasTrain 1 p σ = some (b2 (1 ≤ N ∧ 0 ≤ p.toInt ∧ p.toInt < T), σ) := by
  have z0 : (0 : Int32).toInt = 0 := rfl
  unfold f_X10_hasTrain f_X10_hasTrain_26 f_X10_hasTrain_27
  rw [isW_lit (Or.inl rfl), gd_tt, S_isTold hN h, bd_mk]
  by_cases c : 1 ≤ N
  · rw [b2_t c, if_neg n10]
    by_cases c1 : p < 0
    · rw [if_pos c1, bz_0, gd_tt, b2_f]
      rw [lt_toInt] at c1
      omega
    · rw [if_neg c1, isW_lit (Or.inl rfl), gd_tt, show gf σ (1 + 2) 3 = nI T from h3]
      rw [lt_toInt] at c1
      by_cases c2 : nI T ≤ p
      · rw [if_pos c2, bz_0, gd_tt, b2_f]
        rw [le_toInt, nI_toInt (by omega)] at c2
        omega
      · rw [if_neg c2, bz_1, gd_tt, b2_t]
        rw [le_toInt, nI_toInt (by omega)] at c2
        omega
  · rw [b2_f c, if_pos rfl, bz_0, gd_tt, b2_f (by omega)]
theorem S_isTrain {σ : St} {T : Nat} (p : Int32) (hT : T ≤ 9) (h : gr σ 59 4 = nI T) : f_X12_isTrain p σ = some (b2 (0 ≤ p.toInt ∧ p.toInt < T), σ) := by
  unfold f_X12_isTrain
  rw [show inb (4 : Int32) (ln 59) = true from rfl, gd_tt, S_in, bd_mk, bz_b2, gd_tt]
  have e := pred_toInt (x := gr σ 59 (4 : Int32).toNatClampNeg) (k := T) h (by omega)
  have z0 : (0 : Int64).toInt = 0 := rfl
  have e0 : p.toInt64.toInt = p.toInt := by rw [Int32.toInt_toInt64]
  congr 2
  by_cases c : 0 ≤ p.toInt ∧ p.toInt < T
  · rw [b2_t c, b2_t (by omega)]
  · rw [b2_f c, b2_f (by omega)]
theorem S_hasSide {σ : St} {N : Nat} (p : Int32) (hN : N ≤ 1200) (h : gf σ 1 0 = nI N) : f_X10_hasSide 1 p σ = some (b2 (1 ≤ N ∧ (p = 0 ∨ p = 1)), σ) := by
  unfold f_X10_hasSide f_X10_hasSide_20 f_X10_hasSide_16 f_X10_hasSide_21
  rw [isW_lit (Or.inl rfl), gd_tt, S_isTold hN h, bd_mk]
  by_cases c : 1 ≤ N
  · rw [b2_t c, if_neg n10]
    by_cases c1 : p = 0
    · rw [if_pos c1, bz_1, gd_tt, b2_t ⟨c, Or.inl c1⟩]
    · rw [if_neg c1]
      by_cases c2 : p = 1
      · rw [if_pos c2, bz_1, gd_tt, b2_t ⟨c, Or.inr c2⟩]
      · rw [if_neg c2, bz_0, gd_tt, b2_f (fun z => z.2.elim c1 c2)]
  · rw [b2_f c, if_pos rfl, bz_0, gd_tt, b2_f (fun z => c z.1)]
theorem side_in (p : Int32) : ((0 : Int64).toInt ≤ p.toInt64.toInt ∧ p.toInt64.toInt ≤ (1 : Int64).toInt) ↔ (p = 0 ∨ p = 1) := by
  constructor
  · exact fun h => sd_of h
  · rintro (rfl | rfl)
    · decide
    · decide
theorem S_isSide {σ : St} {N : Nat} (p : Int32) (hN : N ≤ 1200) (h : gr σ 59 9 = nI N) : f_X12_isSide p σ = some (b2 (1 ≤ N ∧ (p = 0 ∨ p = 1)), σ) := by
  unfold f_X12_isSide f_X12_isSide_21 f_X12_isSide_22
  rw [S_isWar hN h, bd_mk]
  by_cases c : 1 ≤ N
  · rw [b2_t c, if_neg n10, S_in, bd_mk]
    by_cases c1 : p = 0 ∨ p = 1
    · rw [b2_t ((side_in p).mpr c1), if_neg n10, bz_1, gd_tt, b2_t ⟨c, c1⟩]
    · rw [b2_f (fun z => c1 ((side_in p).mp z)), if_pos rfl, bz_0, gd_tt, b2_f (fun z => c1 z.2)]
  · rw [b2_f c, if_pos rfl, bz_0, gd_tt, b2_f (fun z => c z.1)]
theorem nat_of {p : Int32} {n : Nat} (h0 : ¬ p < 0) (h1 : p ≤ nI n) (hn : n ≤ 2000) : ∃ v : Nat, v ≤ n ∧ p = nI v := by
  have z0 : (0 : Int32).toInt = 0 := rfl
  rw [lt_toInt] at h0
  rw [le_toInt, nI_toInt (by omega)] at h1
  exact nI_ofT (by omega) (by omega)
/-! the class's side of a change -/
theorem S_told_t {σ : St} {T t c : Nat} {p : Int32} (hT : T ≤ 9) (ht : t < T) (h3 : gf σ 3 3 = nI T) (hp : p = nI c) (hc : c < 3) : f_X10_toldNumber 1 (nI t) p σ = some (gr σ 4 (t * 6 + (tColumn c).toNatClampNeg), σ) := by
  subst hp
  unfold f_X10_toldNumber
  rw [isW_lit (Or.inl rfl), gd_tt, if_neg (nI_pos (by omega)), if_neg (nI_ge (by omega) (by omega)), inb_nI hc (by omega), gd_tt, nI_clamp (by omega)]
  rcases (by omega : c = 0 ∨ c = 1 ∨ c = 2) with rfl | rfl | rfl
  · rw [show f_X9_cell (1 + 2) (nI t) (tColumn 0) σ = some (gr σ 4 (t * 6 + 2), σ) from S_getc (c := 2) tb3 hT ht (by omega) h3, bd_mk]; rfl
  · rw [show f_X9_cell (1 + 2) (nI t) (tColumn 1) σ = some (gr σ 4 (t * 6 + 3), σ) from S_getc (c := 3) tb3 hT ht (by omega) h3, bd_mk]; rfl
  · rw [show f_X9_cell (1 + 2) (nI t) (tColumn 2) σ = some (gr σ 4 (t * 6 + 5), σ) from S_getc (c := 5) tb3 hT ht (by omega) h3, bd_mk]; rfl
theorem S_setT_t {σ : St} {T t c : Nat} {p v : Int32} (hT : T ≤ 9) (ht : t < T) (h3 : gf σ 3 3 = nI T) (hp : p = nI c) (hc : c < 3) : f_X10_setToldNumber 1 (nI t) p v σ = some ((), sr σ 4 (t * 6 + (tColumn c).toNatClampNeg) v) := by
  subst hp
  unfold f_X10_setToldNumber f_X10_setToldNumber_35
  rw [isW_lit (Or.inl rfl), gd_tt, if_neg (nI_pos (by omega)), if_neg (nI_ge (by omega) (by omega)), inb_nI hc (by omega), gd_tt, nI_clamp (by omega)]
  rcases (by omega : c = 0 ∨ c = 1 ∨ c = 2) with rfl | rfl | rfl
  · rw [show f_X9_set (1 + 2) (nI t) (tColumn 0) v σ = some ((), sr σ 4 (t * 6 + 2) v) from S_setc (c := 2) tb3 hT ht (by omega) v h3, bd_mk]; rfl
  · rw [show f_X9_set (1 + 2) (nI t) (tColumn 1) v σ = some ((), sr σ 4 (t * 6 + 3) v) from S_setc (c := 3) tb3 hT ht (by omega) v h3, bd_mk]; rfl
  · rw [show f_X9_set (1 + 2) (nI t) (tColumn 2) v σ = some ((), sr σ 4 (t * 6 + 5) v) from S_setc (c := 5) tb3 hT ht (by omega) v h3, bd_mk]; rfl
theorem S_needOf {σ : St} {i : Nat} (hi : i < 2) : f_X10_needOf 1 (nI i) σ = some (gr σ 2 i, σ) := by
  rcases (by omega : i = 0 ∨ i = 1) with rfl | rfl
  · rfl
  · rfl
theorem S_told_n {σ : St} {i : Nat} (hi : i < 2) : f_X10_toldNumber 1 (nI i) 3 σ = some (gr σ 2 i, σ) := by
  unfold f_X10_toldNumber f_X10_toldNumber_26
  rw [isW_lit (Or.inl rfl), gd_tt, if_neg (show ¬ (3 : Int32) < 0 from by decide), if_pos (show nI 3 ≤ (3 : Int32) from by decide), S_needOf hi, bd_mk]
theorem S_setT_n {σ : St} {i : Nat} {v : Int32} (hi : i < 2) : f_X10_setToldNumber 1 (nI i) 3 v σ = some ((), sr σ 2 i v) := by
  rcases (by omega : i = 0 ∨ i = 1) with rfl | rfl
  · rfl
  · rfl
/-- the class's state behind a change: the table of changes -/
def CHS (σ : St) (k : Nat) (a b c : Int32) : St := sr (sr (sr (sf σ 13 3 (nI (k + 1))) 14 (k * 3 + 0) a) 14 (k * 3 + 1) b) 14 (k * 3 + 2) c
theorem S_change {σ : St} {k : Nat} {p0 p1 p2 old : Int32} {g : St → St} (hk : k < 60) (h : gf σ 13 3 = nI k) (ht : f_X10_toldNumber 1 p0 p1 σ = some (old, σ)) (hs : f_X10_setToldNumber 1 p0 p1 p2 (CHS σ k p0 p1 old) = some ((), g (CHS σ k p0 p1 old))) : f_X10_change 1 p0 p1 p2 σ = some (old, g (CHS σ k p0 p1 old)) := by
  unfold f_X10_change
  have g3 : gf (sf σ 13 3 (nI (k + 1))) 13 3 = nI (k + 1) := by rw [gf_sf_s, if_pos rfl]
  rw [isW_lit (Or.inl rfl), gd_tt, show f_X9_isFull (1 + 12) σ = some (b2 (k = 60), σ) from S_full tb13 (by omega) h, bd_mk, b2_f (by omega), if_pos rfl, ht, bd_mk, isW_lit (Or.inl rfl), gd_tt, show f_X9_add (1 + 12) σ = some ((), sf σ 13 3 (nI (k + 1))) from S_add tb13 hk h, bd_mk, isW_lit (Or.inl rfl), gd_tt, bnd_mk, show gf (sf σ 13 3 (nI (k + 1))) (1 + 12) 3 = nI (k + 1) from g3]
  rw [show f_X9_set (1 + 12) (nI (k + 1) - 1) (0 : Int32) p0 (sf σ 13 3 (nI (k + 1))) = some ((), sr (sf σ 13 3 (nI (k + 1))) 14 (k * 3 + 0) p0) from S_set (c := 0) tb13 hk (by omega) p0 g3, bd_mk, isW_lit (Or.inl rfl), gd_tt]
  rw [show f_X9_set (1 + 12) (nI (k + 1) - 1) (1 : Int32) p1 (sr (sf σ 13 3 (nI (k + 1))) 14 (k * 3 + 0) p0) = some ((), sr (sr (sf σ 13 3 (nI (k + 1))) 14 (k * 3 + 0) p0) 14 (k * 3 + 1) p1) from S_set (c := 1) tb13 hk (by omega) p1 g3, bd_mk, isW_lit (Or.inl rfl), gd_tt]
  rw [show f_X9_set (1 + 12) (nI (k + 1) - 1) (2 : Int32) old (sr (sr (sf σ 13 3 (nI (k + 1))) 14 (k * 3 + 0) p0) 14 (k * 3 + 1) p1) = some ((), CHS σ k p0 p1 old) from S_set (c := 2) tb13 hk (by omega) old g3, bd_mk, hs, bd_mk]
theorem S_change60 {σ : St} {p0 p1 p2 : Int32} (h : gf σ 13 3 = nI 60) : f_X10_change 1 p0 p1 p2 σ = some (-5, σ) := by
  unfold f_X10_change
  rw [isW_lit (Or.inl rfl), gd_tt, show f_X9_isFull (1 + 12) σ = some (b2 (60 = 60), σ) from S_full tb13 (by omega) h, bd_mk, b2_t rfl, if_neg n10]
theorem CHS_f {σ : St} {k : Nat} {a b c : Int32} (i : Nat) (h : i ≠ 13) : gf (CHS σ k a b c) i = gf σ i := by
  funext j
  unfold CHS
  exact gf_sf_n _ _ _ _ h
theorem CHS_r {σ : St} {k : Nat} {a b c : Int32} (i : Nat) (h : i ≠ 14) : gr (CHS σ k a b c) i = gr σ i := by
  funext j
  unfold CHS
  rw [gr_sr_n _ _ _ _ h, gr_sr_n _ _ _ _ h, gr_sr_n _ _ _ _ h]
  rfl
theorem CHS_3 {σ : St} {k : Nat} {a b c : Int32} : gf (CHS σ k a b c) 13 3 = nI (k + 1) := by
  show gf (sf σ 13 3 (nI (k + 1))) 13 3 = _
  rw [gf_sf_s, if_pos rfl]
theorem CHS_14 {σ : St} {k : Nat} {a b c : Int32} (j : Nat) : gr (CHS σ k a b c) 14 j = if j = k * 3 + 2 then c else if j = k * 3 + 1 then b else if j = k * 3 then a else gr σ 14 j := by
  unfold CHS
  rw [gr_sr_s, gr_sr_s, gr_sr_s]
  rfl
theorem CHS_o {σ : St} {k : Nat} {a b c : Int32} : gj (CHS σ k a b c) = gj σ ∧ gm (CHS σ k a b c) = gm σ ∧ gn (CHS σ k a b c) = gn σ := ⟨rfl, rfl, rfl⟩
