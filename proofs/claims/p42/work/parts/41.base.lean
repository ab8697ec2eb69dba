/-! ===== the class's questions come to an end ===== -/
theorem T_cellg {t wd room k : Nat} {s : St} (hT : TB4 t wd room) (hk : k ≤ room) (h : gf s t 3 = nI k) (p0 p1 : Int32) : ∃ r, f_X9_cell t p0 p1 s = some (r, s) := by
  have hi := hT.isT s
  have hT0 := hT
  obtain ⟨h1, h2, h3, h4, h5, h6, h7, h8, h9, h10, -⟩ := hT
  by_cases c0 : p0 < 0
  · refine ⟨-2, ?_⟩
    unfold f_X9_cell f_X9_cell_24
    rw [hi, gd_tt, if_pos c0]
  · by_cases c1 : gf s t 3 ≤ p0
    · refine ⟨-2, ?_⟩
      unfold f_X9_cell f_X9_cell_24
      rw [hi, gd_tt, if_neg c0, if_pos c1]
    · by_cases c2 : p1 < 0
      · refine ⟨-2, ?_⟩
        unfold f_X9_cell f_X9_cell_24
        rw [hi, gd_tt, if_neg c0, if_neg c1, if_pos c2]
      · by_cases c3 : p1 < tw t
        · have z0 : (0 : Int32).toInt = 0 := rfl
          rw [h, le_toInt, nI_toInt (by omega)] at c1
          rw [lt_toInt] at c0 c2 c3
          rw [h1, nI_toInt (by omega)] at c3
          obtain ⟨i, hi', rfl⟩ := nI_ofT (x := p0) (n := k) (by omega) (by omega)
          obtain ⟨c, hc', rfl⟩ := nI_ofT (x := p1) (n := wd) (by omega) (by omega)
          rw [nI_toInt (by omega)] at c1 c3
          exact ⟨_, S_getc hT0 hk (by omega) (by omega) h⟩
        · refine ⟨-2, ?_⟩
          unfold f_X9_cell f_X9_cell_24
          rw [hi, gd_tt, if_neg c0, if_neg c1, if_neg c2, if_neg c3]
theorem ok_pure {α : Type} {Z : St → Prop} {o : Option (α × St)} {s : St} (h : Z s) (ho : ∃ r, o = some (r, s)) : Ok (fun _ s' => Z s') o := by
  obtain ⟨r, hr⟩ := ho
  exact ⟨r, s, hr, h⟩
theorem tb3 : TB4 3 6 9 := by unfold TB4; decide
theorem T_X9_cell3 {Z : St → Prop} {σ0 : St} {M T S E A U Y L P N : Nat} (q : ZB Z σ0 M T S E A U Y L P N) {p0 p1 : Int32} {s : St} (h : Z s) : Ok (fun _ s' => Z s') (f_X9_cell 3 p0 p1 s) := ok_pure h (T_cellg tb3 q.b.hT (q.at' h).cT p0 p1)
theorem tb5 : TB4 5 2 4 := by unfold TB4; decide
theorem T_X9_cell5 {Z : St → Prop} {σ0 : St} {M T S E A U Y L P N : Nat} (q : ZB Z σ0 M T S E A U Y L P N) {p0 p1 : Int32} {s : St} (h : Z s) : Ok (fun _ s' => Z s') (f_X9_cell 5 p0 p1 s) := ok_pure h (T_cellg tb5 q.b.hE (q.at' h).cE p0 p1)
theorem tb7 : TB4 7 4 8 := by unfold TB4; decide
theorem T_X9_cell7 {Z : St → Prop} {σ0 : St} {M T S E A U Y L P N : Nat} (q : ZB Z σ0 M T S E A U Y L P N) {p0 p1 : Int32} {s : St} (h : Z s) : Ok (fun _ s' => Z s') (f_X9_cell 7 p0 p1 s) := ok_pure h (T_cellg tb7 q.b.hA (q.at' h).cA p0 p1)
theorem tb9 : TB4 9 2 4 := by unfold TB4; decide
theorem T_X9_cell9 {Z : St → Prop} {σ0 : St} {M T S E A U Y L P N : Nat} (q : ZB Z σ0 M T S E A U Y L P N) {p0 p1 : Int32} {s : St} (h : Z s) : Ok (fun _ s' => Z s') (f_X9_cell 9 p0 p1 s) := ok_pure h (T_cellg tb9 q.b.hU (q.at' h).cU p0 p1)
theorem tb11 : TB4 11 1 5 := by unfold TB4; decide
theorem T_X9_cell11 {Z : St → Prop} {σ0 : St} {M T S E A U Y L P N : Nat} (q : ZB Z σ0 M T S E A U Y L P N) {p0 p1 : Int32} {s : St} (h : Z s) : Ok (fun _ s' => Z s') (f_X9_cell 11 p0 p1 s) := ok_pure h (T_cellg tb11 q.b.hY (q.at' h).cY p0 p1)
theorem S_X10_sets {Z : St → Prop} {σ0 : St} {M T S E A U Y L P N : Nat} (q : ZB Z σ0 M T S E A U Y L P N) {s : St} (h : Z s) : f_X10_sets 1 s = some (nI S, s) := by
  have hb := q.at' h
  have h5 := hb.S512
  unfold f_X10_sets
  rw [isW_lit (Or.inl rfl), gd_tt, show gf s (1 + 2) 3 = nI T from hb.cT, nI_shl (by have := hb.hT; omega), ← hb.hS, if_neg (show ¬ (512 : Int32) < nI S from nI_nlt (b := S) (a := 512) (by omega) (by omega))]
theorem S_X12_allTrains {Z : St → Prop} {σ0 : St} {M T S E A U Y L P N : Nat} (q : ZB Z σ0 M T S E A U Y L P N) {s : St} (h : Z s) : f_X12_allTrains s = some (nI (S - 1), s) := by
  have hb := q.at' h
  have h5 := hb.S512
  unfold f_X12_allTrains
  rw [show inb (4 : Int32) (ln 59) = true from rfl, gd_tt, c64_4, hb.mT, nI_shl (by have := hb.hT; omega), ← hb.hS]
  obtain ⟨k, rfl⟩ : ∃ k, S = k + 1 := ⟨S - 1, by omega⟩
  rw [nI_pred, Nat.add_sub_cancel]
theorem S_X4_allReadings {Z : St → Prop} {σ0 : St} {M T S E A U Y L P N : Nat} (q : ZB Z σ0 M T S E A U Y L P N) {s : St} (h : Z s) : f_X4_allReadings s = some (nI (2 ^ (2 * U)), s) := by
  have hb := q.at' h
  unfold f_X4_allReadings
  rw [hb.cU, show (2 : Int32) = nI 2 from rfl, nI_mul, nI_shl (by have := hb.hU; omega)]
theorem S_X12_allReadings {Z : St → Prop} {σ0 : St} {M T S E A U Y L P N : Nat} (q : ZB Z σ0 M T S E A U Y L P N) {s : St} (h : Z s) : f_X12_allReadings s = some (nI (2 ^ (2 * U)), s) := by
  have hb := q.at' h
  unfold f_X12_allReadings
  rw [show inb (7 : Int32) (ln 59) = true from rfl, gd_tt, c64_7, hb.mU, show (2 : Int32) = nI 2 from rfl, nI_mul, nI_shl (by have := hb.hU; omega)]
theorem ndz {v : Int64} (h : ¬ lg_cmp v 0 = 0) : (!decide (v = 0)) = true := by
  rw [Bool.not_eq_true', decide_eq_false_iff_not]
  rintro rfl
  exact h (by decide)
theorem inb_cond {x y : Int32} {n k : Nat} (h0 : ¬ x < 0) (h1 : ¬ y ≤ x) (hl : ln k = n) (hy : y = nI n ∧ n ≤ 1200) : inb x (ln k) = true := by
  have z0 : (0 : Int32).toInt = 0 := rfl
  rw [lt_toInt] at h0
  rw [le_toInt, hy.1, nI_toInt (by omega)] at h1
  obtain ⟨j, hj, rfl⟩ := nI_ofT (x := x) (n := n) (by omega) (by omega)
  rw [nI_toInt (by omega)] at h1
  exact inb_ln hl (by omega) (by omega)
theorem and_cond {x : Int32} (y : Int32) (h0 : ¬ x < 0) (h1 : ¬ (512 : Int32) ≤ x) : 0 ≤ (x &&& y).toInt ∧ (x &&& y).toInt < 512 := by
  have z0 : (0 : Int32).toInt = 0 := rfl
  have z5 : (512 : Int32).toInt = 512 := rfl
  rw [lt_toInt] at h0
  rw [le_toInt] at h1
  obtain ⟨j, hj, rfl⟩ := nI_ofT (x := x) (n := 511) (by omega) (by omega)
  have e : nI j &&& y = nI (j &&& y.toBitVec.toNat) := by
    apply Int32.toBitVec.inj
    apply BitVec.eq_of_toNat_eq
    rw [Int32.toBitVec_and, BitVec.toNat_and]
    show (BitVec.ofNat 32 j).toNat &&& y.toBitVec.toNat = (BitVec.ofNat 32 (j &&& y.toBitVec.toNat)).toNat
    have h3 : j &&& y.toBitVec.toNat ≤ j := Nat.and_le_left
    rw [BitVec.toNat_ofNat, BitVec.toNat_ofNat, Nat.mod_eq_of_lt (by omega), Nat.mod_eq_of_lt (by omega)]
  have h3 : j &&& y.toBitVec.toNat ≤ j := Nat.and_le_left
  rw [e, nI_toInt (by omega)]
  omega
theorem inb_and {x y : Int32} {k : Nat} (hl : ln k = 512) (h0 : ¬ x < 0) (h1 : ¬ (512 : Int32) ≤ x) : inb (x &&& y) (ln k) = true := by
  obtain ⟨a, b⟩ := and_cond y h0 h1
  obtain ⟨j, hj, e⟩ := nI_ofT (x := x &&& y) (n := 511) a (by omega)
  rw [e]
  exact inb_ln hl (by omega) (by omega)
theorem zL1 : (1 : Int32) = nI 1 := rfl
theorem zL2 : (2 : Int32) = nI 2 := rfl
theorem zL4 : (4 : Int32) = nI 4 := rfl
theorem zL6 : (6 : Int32) = nI 6 := rfl
theorem zL11 : (11 : Int32) = nI 11 := rfl
theorem zL13 : (13 : Int32) = nI 13 := rfl
theorem zL67 : (67 : Int32) = nI 67 := rfl
theorem zL75 : (75 : Int32) = nI 75 := rfl
theorem zL107 : (107 : Int32) = nI 107 := rfl
theorem zL115 : (115 : Int32) = nI 115 := rfl
