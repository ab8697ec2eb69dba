/-! ===== values: who is there, who has surrendered ===== -/
theorem S_hasSet {s : St} {F : Nat → Int32} {M T S E A U Y L P N : Nat} (v : VW s F M T S E A U Y L P N) (p : Int32) : f_X10_hasSet 1 p s = some (b2 (1 ≤ N ∧ 0 ≤ p.toInt ∧ p.toInt < S), s) := by
  have hb := v.2.2
  have h5 := hb.S512
  have z0 : (0 : Int32).toInt = 0 := rfl
  have hsets : f_X10_sets 1 s = some (nI S, s) := by
    unfold f_X10_sets
    rw [isW_lit (Or.inl rfl), gd_tt, show gf s (1 + 2) 3 = nI T from hb.cT, nI_shl (by have := hb.hT; omega), ← hb.hS, if_neg (show ¬ (512 : Int32) < nI S from nI_nlt (b := S) (a := 512) (by omega) (by omega))]
  unfold f_X10_hasSet f_X10_hasSet_23 f_X10_hasSet_24
  rw [isW_lit (Or.inl rfl), gd_tt, S_isTold hb.hN hb.cN, bd_mk]
  by_cases c : 1 ≤ N
  · rw [b2_t c, if_neg n10]
    by_cases c1 : p < 0
    · rw [if_pos c1, bz_0, gd_tt, b2_f]
      rw [lt_toInt] at c1
      omega
    · rw [if_neg c1, hsets, bd_mk]
      rw [lt_toInt] at c1
      by_cases c2 : nI S ≤ p
      · rw [if_pos c2, bz_0, gd_tt, b2_f]
        rw [le_toInt, nI_toInt (by omega)] at c2
        omega
      · rw [if_neg c2, bz_1, gd_tt, b2_t]
        rw [le_toInt, nI_toInt (by omega)] at c2
        omega
  · rw [b2_f c, if_pos rfl, bz_0, gd_tt, b2_f (by omega)]
theorem S_areTrains {s : St} {F : Nat → Int32} {M T S E A U Y L P N : Nat} (v : VW s F M T S E A U Y L P N) (p : Int32) : f_X12_areTrains p s = some (b2 (1 ≤ N ∧ 0 ≤ p.toInt ∧ p.toInt < S), s) := by
  have hb := v.2.2
  have h5 := hb.S512
  have hall : f_X12_allTrains s = some (nI (S - 1), s) := by
    unfold f_X12_allTrains
    rw [show inb (4 : Int32) (ln 59) = true from rfl, gd_tt, c64_4, hb.mT, nI_shl (by have := hb.hT; omega), ← hb.hS]
    obtain ⟨k, e⟩ : ∃ k, S = k + 1 := ⟨S - 1, by omega⟩
    rw [e, nI_pred, Nat.add_sub_cancel]
  unfold f_X12_areTrains f_X12_areTrains_25 f_X12_areTrains_26
  rw [S_isWar hb.hN hb.mN, bd_mk]
  by_cases c : 1 ≤ N
  · rw [b2_t c, if_neg n10, hall, bd_mk, M_inB _ 0 (nI (S - 1)).toInt64 (a := 0) (b := ((S - 1 : Nat) : Int)) rfl (by rw [Int32.toInt_toInt64, nI_toInt (by omega)]), bd_mk]
    by_cases c1 : 0 ≤ p.toInt ∧ p.toInt < S
    · rw [b2_t (by omega), if_neg n10, bz_1, gd_tt, b2_t ⟨c, c1⟩]
    · rw [b2_f (by omega), if_pos rfl, bz_0, gd_tt, b2_f (fun z => c1 z.2)]
  · rw [b2_f c, if_pos rfl, bz_0, gd_tt, b2_f (by omega)]
theorem S_isMinute (p : Int32) (σ : St) : f_X11_isMinute p σ = some (b2 (0 ≤ p.toInt ∧ p.toInt ≤ 99), σ) := by
  have z0 : (0 : Int32).toInt = 0 := rfl
  have z9 : (99 : Int32).toInt = 99 := rfl
  unfold f_X11_isMinute f_X11_isMinute_14 f_X11_isMinute_15
  rw [bz_0, bz_1, gd_tt, gd_tt]
  by_cases c : p < 0
  · rw [if_pos c, b2_f]
    rw [lt_toInt] at c
    omega
  · rw [if_neg c]
    rw [lt_toInt] at c
    by_cases c1 : (99 : Int32) < p
    · rw [if_pos c1, b2_f]
      rw [lt_toInt] at c1
      omega
    · rw [if_neg c1, b2_t]
      rw [lt_toInt] at c1
      omega
theorem S_isAny (p : Int32) (σ : St) : f_X12_isAny p σ = some (b2 (0 ≤ p.toInt ∧ p.toInt ≤ 99), σ) := by
  unfold f_X12_isAny
  rw [M_inB _ 0 99 (a := 0) (b := 99) rfl rfl, bd_mk, bz_b2, gd_tt]
/-- is TRAIN i among these -/
def bitOf (x : Int32) (i : Nat) : Int32 := (x >>> (nI i &&& 31)) &&& 1
theorem and1 (x : Int32) : x &&& 1 = 0 ∨ x &&& 1 = 1 := by
  obtain ⟨k, hk, e⟩ := and_lt (i := 1) (n := 2) x (by omega) (by omega)
  have e2 : x &&& 1 = nI k := by
    rw [← e]
    apply Int32.toBitVec.inj
    rw [Int32.toBitVec_and, Int32.toBitVec_and]
    exact BitVec.and_comm _ _
  rw [e2]
  rcases (by omega : k = 0 ∨ k = 1) with rfl | rfl
  · exact Or.inl rfl
  · exact Or.inr rfl
theorem S_isIn (x : Int32) (i : Nat) (σ : St) : f_X10_isIn x (nI i) σ = some (bitOf x i, σ) := by
  unfold f_X10_isIn f_X10_isIn_13 bitOf
  rw [bz_0, bz_1, gd_tt, gd_tt]
  rcases and1 (x >>> (nI i &&& 31)) with e | e
  · rw [e, if_pos rfl]
  · rw [e, if_neg n10]
theorem S_bit (x : Int32) (i : Nat) (σ : St) : f_X12_bit x (nI i) σ = some (bitOf x i, σ) := rfl
theorem bit01 (x : Int32) (i : Nat) : bitOf x i = 0 ∨ bitOf x i = 1 := and1 _
/-- when TRAIN i comes -/
def arrA (F : Nat → Int32) (x : Int32) (i : Nat) : Int32 := F (13 + 6 * i + 2) + bitOf x i * F (13 + 6 * i + 4)
theorem V_arrival {s : St} {F : Nat → Int32} {M T S E A U Y L P N : Nat} (v : VW s F M T S E A U Y L P N) {i : Nat} (x : Int32) (hi : i < T) : f_X10_arrival 1 (nI i) x s = some (arrA F x i, s) := by
  unfold f_X10_arrival f_X10_arrival_30 arrA
  rw [isW_lit (Or.inl rfl), gd_tt, show f_X9_cell (1 + 2) (nI i) (2 : Int32) s = some (F (13 + 6 * i + 2), s) from V_c3 v (c := 2) hi (by omega), bd_mk, S_isIn, bd_mk]
  rcases bit01 x i with e | e
  · rw [e, if_pos rfl, Int32.zero_mul]
  · rw [e, if_neg n10, isW_lit (Or.inl rfl), gd_tt, show f_X9_cell (1 + 2) (nI i) (4 : Int32) s = some (F (13 + 6 * i + 4), s) from V_c3 v (c := 4) hi (by omega), bd_mk, Int32.one_mul]
theorem M_comesAt {s : St} {F : Nat → Int32} {M T S E A U Y L P N : Nat} (v : VW s F M T S E A U Y L P N) {i : Nat} (x : Int32) (hi : i < 9) : f_X12_comesAt (nI i) x s = some (arrA F x i, s) := by
  unfold f_X12_comesAt arrA
  rw [show f_X12_of (nI i) (2 : Int32) s = some (F (13 + 6 * i + 2), s) from M_of v (c := 2) hi (by omega), bd_mk, S_bit, bd_mk, show f_X12_of (nI i) (4 : Int32) s = some (F (13 + 6 * i + 4), s) from M_of v (c := 4) hi (by omega), bd_mk]
/-- MEN of a side at a minute, of the first i TRAINS -/
def menA (F : Nat → Int32) (p m x : Int32) : Nat → Int32
  | 0 => 0
  | i + 1 => menA F p m x i + (if F (13 + 6 * i + 0) = p ∧ ¬ m < arrA F x i then F (13 + 6 * i + 1) else 0)
theorem V_men {s : St} {F : Nat → Int32} {M T S E A U Y L P N : Nat} (v : VW s F M T S E A U Y L P N) (p m x : Int32) : f_X10_menThere 1 p m x s = some (menA F p m x T, s) := by
  have hT := v.2.2.hT
  unfold f_X10_menThere
  rw [isW_lit (Or.inl rfl), gd_tt]
  refine itr_cnt (fun i => (p, m, x, menA F p m x i, nI i, s)) T _ (fun i K hi => ?_) (fun K => ?_) T 0 FU (by omega) (by unfold FU; omega)
  · unfold g_X10_menThere_6 f_X10_menThere_58
    dsimp only
    rw [isW_lit (Or.inl rfl), gd_tt, show gf s (1 + 2) 3 = nI T from v.2.2.cT, if_neg (lt_ge hi (by omega)), show f_X9_cell (1 + 2) (nI i) (0 : Int32) s = some (F (13 + 6 * i + 0), s) from V_c3 v (c := 0) hi (by omega), bd_mk, nI_1]
    show _ = K (p, m, x, menA F p m x i + (if F (13 + 6 * i + 0) = p ∧ ¬ m < arrA F x i then F (13 + 6 * i + 1) else 0), nI (i + 1), s)
    by_cases c : F (13 + 6 * i + 0) = p
    · rw [if_pos c, V_arrival v x hi, bd_mk]
      by_cases c1 : m < arrA F x i
      · rw [if_pos c1, if_neg (fun z => z.2 c1), Int32.add_zero]
        rfl
      · rw [if_neg c1, if_pos ⟨c, c1⟩, isW_lit (Or.inl rfl), gd_tt, show f_X9_cell (1 + 2) (nI i) (1 : Int32) s = some (F (13 + 6 * i + 1), s) from V_c3 v (c := 1) hi (by omega), bd_mk]
        rfl
    · rw [if_neg c, if_neg (fun z => c z.1), Int32.add_zero]
      rfl
  · unfold g_X10_menThere_6
    dsimp only
    rw [isW_lit (Or.inl rfl), gd_tt, show gf s (1 + 2) 3 = nI T from v.2.2.cT, if_pos (le_rf T)]
theorem M_men {s : St} {F : Nat → Int32} {M T S E A U Y L P N : Nat} (v : VW s F M T S E A U Y L P N) (p m x : Int32) : f_X12_menOf p m x s = some (menA F p m x T, s) := by
  have hT := v.2.2.hT
  unfold f_X12_menOf
  refine itr_cnt (fun i => (p, m, x, menA F p m x i, nI i, s)) T _ (fun i K hi => ?_) (fun K => ?_) T 0 FU (by omega) (by unfold FU; omega)
  · unfold g_X12_menOf_6 f_X12_menOf_51 f_X12_menOf_52
    dsimp only
    rw [show inb (4 : Int32) (ln 59) = true from rfl, gd_tt, show gr s 59 (4 : Int32).toNatClampNeg = nI T from v.2.2.mT, if_neg (lt_ge hi (by omega)), show f_X12_of (nI i) (0 : Int32) s = some (F (13 + 6 * i + 0), s) from M_of v (c := 0) (by omega) (by omega), bd_mk, nI_1]
    show _ = K (p, m, x, menA F p m x i + (if F (13 + 6 * i + 0) = p ∧ ¬ m < arrA F x i then F (13 + 6 * i + 1) else 0), nI (i + 1), s)
    by_cases c : F (13 + 6 * i + 0) = p
    · rw [if_pos c, M_comesAt v x (by omega), bd_mk]
      by_cases c1 : m < arrA F x i
      · rw [if_pos c1, if_neg (fun z => z.2 c1)]
        rfl
      · rw [if_neg c1, if_pos ⟨c, c1⟩, show f_X12_of (nI i) (1 : Int32) s = some (F (13 + 6 * i + 1), s) from M_of v (c := 1) (by omega) (by omega), bd_mk]
        rfl
    · rw [if_neg c, if_neg (fun z => c z.1)]
      rfl
  · unfold g_X12_menOf_6
    dsimp only
    rw [show inb (4 : Int32) (ln 59) = true from rfl, gd_tt, show gr s 59 (4 : Int32).toNatClampNeg = nI T from v.2.2.mT, if_pos (le_rf T)]
theorem D_men (a b c : Int32) (σ : St) (hI : IV σ) : ∃ r s1 s2, f_X11_men a b c σ = some (r, s1) ∧ f_X12_men a b c s1 = some (r, s2) ∧ IV s2 := by
  obtain ⟨M, T, S, E, A, U, Y, L, P, N, v⟩ := hI.vw
  have hb := v.2.2
  unfold f_X11_men f_X11_men_29 f_X12_men f_X12_men_33 f_X12_men_35
  rw [S_hasSide _ hb.hN hb.cN, bd_mk]
  by_cases c1 : 1 ≤ N ∧ (a = 0 ∨ a = 1)
  · rw [b2_t c1, if_neg n10, S_isMinute, bd_mk]
    by_cases c2 : 0 ≤ b.toInt ∧ b.toInt ≤ 99
    · rw [b2_t c2, if_neg n10, S_hasSet v, bd_mk]
      by_cases c3 : 1 ≤ N ∧ 0 ≤ c.toInt ∧ c.toInt < S
      · rw [b2_t c3, if_neg n10, V_men v, bd_mk]
        refine ⟨_, σ, σ, rfl, ?_, hI⟩
        rw [S_isSide _ hb.hN hb.mN, bd_mk, b2_t c1, if_neg n10, S_isAny, bd_mk, b2_t c2, if_neg n10, S_areTrains v, bd_mk, b2_t c3, if_neg n10, M_men v, bd_mk]
      · refine ⟨-2, σ, σ, by rw [b2_f c3, if_pos rfl], ?_, hI⟩
        rw [S_isSide _ hb.hN hb.mN, bd_mk, b2_t c1, if_neg n10, S_isAny, bd_mk, b2_t c2, if_neg n10, S_areTrains v, bd_mk, b2_f c3, if_pos rfl]
    · refine ⟨-2, σ, σ, by rw [b2_f c2, if_pos rfl], ?_, hI⟩
      rw [S_isSide _ hb.hN hb.mN, bd_mk, b2_t c1, if_neg n10, S_isAny, bd_mk, b2_f c2, if_pos rfl]
  · refine ⟨-2, σ, σ, by rw [b2_f c1, if_pos rfl], ?_, hI⟩
    rw [S_isSide _ hb.hN hb.mN, bd_mk, b2_f c1, if_pos rfl]
theorem V_need {s : St} {F : Nat → Int32} {M T S E A U Y L P N : Nat} (v : VW s F M T S E A U Y L P N) {i : Nat} (hi : i < 2) : f_X10_needOf 1 (nI i) s = some (F (11 + i), s) := by
  rw [S_needOf hi]
  obtain ⟨l, m, a, p, r, d, e, y1, y2, y3, y4, y5, y6, y7, y8, u1, u2, u3, u4, u5, u6, u7, u8, u9, u10, u11, u12, u13, u14⟩ := v.1.1
  rcases (by omega : i = 0 ∨ i = 1) with rfl | rfl
  · rw [show gr s 2 0 = nI d from u11, show F (11 + 0) = nI d from u12]
  · rw [show gr s 2 1 = nI e from u13, show F (11 + 1) = nI e from u14]
/-- has side i not enough by the last minute -/
def lateA (F : Nat → Int32) (L T : Nat) (i : Nat) (x : Int32) : Int32 := if F (11 + i) ≤ menA F (nI i) (nI L) x T then 0 else 1
theorem M_isLate {s : St} {F : Nat → Int32} {M T S E A U Y L P N : Nat} (v : VW s F M T S E A U Y L P N) {i : Nat} (x : Int32) (hi : i < 2) : f_X12_isLate (nI i) x s = some (lateA F L T i x, s) := by
  unfold f_X12_isLate f_X12_isLate_29 lateA
  rw [show inb (1 : Int32) (ln 59) = true from rfl, gd_tt, show gr s 59 (1 : Int32).toNatClampNeg = nI L from v.2.2.mL, M_men v, bd_mk, zL11, nI_add, inb_ln (n := 240) rfl (by omega) (by omega), gd_tt, nI_clamp (by omega), v.2.1, bz_0, bz_1, gd_tt, gd_tt]
  by_cases c : F (11 + i) ≤ menA F (nI i) (nI L) x T
  · rw [if_pos c, if_pos c]
  · rw [if_neg c, if_neg c]
def lat2 (F : Nat → Int32) (L T : Nat) (x : Int32) : Nat → Int32
  | 0 => 0
  | i + 1 => if F (11 + i) ≤ menA F (nI i) (nI L) x T then lat2 F L T x i else lat2 F L T x i ||| ((1 : Int32) <<< (nI i &&& 31))
theorem V_lateSides {s : St} {F : Nat → Int32} {M T S E A U Y L P N : Nat} (v : VW s F M T S E A U Y L P N) (x : Int32) : f_X10_lateSides 1 x s = some (lat2 F L T x 2, s) := by
  unfold f_X10_lateSides
  rw [isW_lit (Or.inl rfl), gd_tt]
  refine itr_cnt (fun i => (x, lat2 F L T x i, nI i, s)) 2 _ (fun i K hi => ?_) (fun K => ?_) 2 0 FU (by omega) (by unfold FU; omega)
  · unfold g_X10_lateSides_4 f_X10_lateSides_33
    dsimp only
    rw [if_neg (show ¬ (2 : Int32) ≤ nI i from lt_ge (m := 2) hi (by omega)), isW_lit (Or.inl rfl), gd_tt, show gf s 1 2 = nI L from v.2.2.cL, V_men v, bd_mk, V_need v hi, bd_mk, nI_1]
    show _ = K (x, (if F (11 + i) ≤ menA F (nI i) (nI L) x T then lat2 F L T x i else lat2 F L T x i ||| ((1 : Int32) <<< (nI i &&& 31))), nI (i + 1), s)
    by_cases c : F (11 + i) ≤ menA F (nI i) (nI L) x T
    · rw [if_pos c, if_pos c]
      rfl
    · rw [if_neg c, if_neg c]
      rfl
  · unfold g_X10_lateSides_4
    dsimp only
    rw [if_pos (show (2 : Int32) ≤ nI 2 from le_rf 2)]
theorem D_late (a : Int32) (σ : St) (hI : IV σ) : ∃ r s1 s2, f_X11_late a σ = some (r, s1) ∧ f_X12_late a s1 = some (r, s2) ∧ IV s2 := by
  obtain ⟨M, T, S, E, A, U, Y, L, P, N, v⟩ := hI.vw
  have hb := v.2.2
  unfold f_X11_late f_X11_late_24 f_X12_late f_X12_late_22 f_X12_late_36 f_X12_late_42
  rw [S_hasSet v, bd_mk]
  by_cases c : 1 ≤ N ∧ 0 ≤ a.toInt ∧ a.toInt < S
  · refine ⟨_, σ, σ, by rw [b2_t c, if_neg n10, V_lateSides v, bd_mk], ?_, hI⟩
    rw [S_areTrains v, bd_mk, b2_t c, if_neg n10, show f_X12_isLate (0 : Int32) a σ = some (lateA (gr σ 59) L T 0 a, σ) from M_isLate v (i := 0) a (by omega), bd_mk, show f_X12_isLate (1 : Int32) a σ = some (lateA (gr σ 59) L T 1 a, σ) from M_isLate v (i := 1) a (by omega), bd_mk]
    show _ = some ((if gr σ 59 (11 + 1) ≤ menA (gr σ 59) (nI 1) (nI L) a T then (if gr σ 59 (11 + 0) ≤ menA (gr σ 59) (nI 0) (nI L) a T then (0 : Int32) else 0 ||| ((1 : Int32) <<< (nI 0 &&& 31))) else (if gr σ 59 (11 + 0) ≤ menA (gr σ 59) (nI 0) (nI L) a T then (0 : Int32) else 0 ||| ((1 : Int32) <<< (nI 0 &&& 31))) ||| ((1 : Int32) <<< (nI 1 &&& 31))), σ)
    unfold lateA
    by_cases c0 : gr σ 59 (11 + 0) ≤ menA (gr σ 59) (nI 0) (nI L) a T
    · by_cases c1 : gr σ 59 (11 + 1) ≤ menA (gr σ 59) (nI 1) (nI L) a T
      · simp only [if_pos c0, if_pos c1]; rfl
      · simp only [if_pos c0, if_neg c1]; rfl
    · by_cases c1 : gr σ 59 (11 + 1) ≤ menA (gr σ 59) (nI 1) (nI L) a T
      · simp only [if_neg c0, if_pos c1]; rfl
      · simp only [if_neg c0, if_neg c1]; rfl
  · refine ⟨-2, σ, σ, by rw [b2_f c, if_pos rfl], ?_, hI⟩
    rw [S_areTrains v, bd_mk, b2_f c, if_pos rfl]
theorem D_since (a b : Int32) (σ : St) (hI : IV σ) : ∃ r s1 s2, f_X11_since a b σ = some (r, s1) ∧ f_X12_since a b s1 = some (r, s2) ∧ IV s2 := by
  obtain ⟨M, T, S, E, A, U, Y, L, P, N, v⟩ := hI.vw
  have hb := v.2.2
  unfold f_X11_since f_X11_since_22 f_X12_since f_X12_since_16
  rw [S_hasSide _ hb.hN hb.cN, bd_mk]
  by_cases c1 : 1 ≤ N ∧ (a = 0 ∨ a = 1)
  · rw [b2_t c1, if_neg n10, S_hasSet v, bd_mk]
    by_cases c3 : 1 ≤ N ∧ 0 ≤ b.toInt ∧ b.toInt < S
    · rw [b2_t c3, if_neg n10]
      obtain ⟨q, hq, rfl⟩ : ∃ i, i < 2 ∧ a = nI i := by
        rcases c1.2 with e | e
        · exact ⟨0, by omega, e⟩
        · exact ⟨1, by omega, e⟩
      have key : ∃ r, itr g_X11_since_27 FU (nI q, b, nI 0, σ) = some (r, σ) ∧ itr g_X12_since_21 FU (nI q, b, nI 0, σ) = some (r, σ) := by
        refine itr_two (fun i => (nI q, b, nI i, σ)) (fun i => (nI q, b, nI i, σ)) 100 σ σ (fun i hi => ?_) ?_ 100 0 FU FU (by omega) (by unfold FU; omega) (by unfold FU; omega)
        · have hC : ∀ K : Int32 × Int32 × Int32 × St → Option (Int32 × St), g_X11_since_27 K (nI q, b, nI i, σ) = if menA (gr σ 59) (nI q) (nI i) b T < gr σ 59 (11 + q) then K (nI q, b, nI (i + 1), σ) else some (nI i, σ) := fun K => by
            unfold g_X11_since_27
            dsimp only
            rw [if_neg (show ¬ (99 : Int32) < nI i from nI_nlt (b := i) (a := 99) (by omega) (by omega)), V_men v, bd_mk, V_need v hq, bd_mk, nI_1]
            rfl
          have hM : ∀ K : Int32 × Int32 × Int32 × St → Option (Int32 × St), g_X12_since_21 K (nI q, b, nI i, σ) = if menA (gr σ 59) (nI q) (nI i) b T < gr σ 59 (11 + q) then K (nI q, b, nI (i + 1), σ) else some (nI i, σ) := fun K => by
            unfold g_X12_since_21
            dsimp only
            rw [if_neg (show ¬ (100 : Int32) ≤ nI i from lt_ge (m := 100) hi (by omega)), M_men v, bd_mk, zL11, nI_add, inb_ln (n := 240) rfl (by omega) (by omega), gd_tt, nI_clamp (by omega), nI_1]
            rfl
          by_cases c : menA (gr σ 59) (nI q) (nI i) b T < gr σ 59 (11 + q)
          · exact Or.inr ⟨fun K => by rw [hC, if_pos c], fun K => by rw [hM, if_pos c]⟩
          · exact Or.inl ⟨nI i, fun K => by rw [hC, if_neg c], fun K => by rw [hM, if_neg c]⟩
        · refine ⟨-1, fun K => ?_, fun K => ?_⟩
          · unfold g_X11_since_27
            dsimp only
            rw [if_pos (show (99 : Int32) < nI 100 from by decide)]
          · unfold g_X12_since_21
            dsimp only
            rw [if_pos (show (100 : Int32) ≤ nI 100 from le_rf 100)]
      obtain ⟨r, h1, h2⟩ := key
      refine ⟨r, σ, σ, h1, ?_, hI⟩
      rw [S_isSide _ hb.hN hb.mN, bd_mk, b2_t c1, if_neg n10, S_areTrains v, bd_mk, b2_t c3, if_neg n10]
      exact h2
    · refine ⟨-2, σ, σ, by rw [b2_f c3, if_pos rfl], ?_, hI⟩
      rw [S_isSide _ hb.hN hb.mN, bd_mk, b2_t c1, if_neg n10, S_areTrains v, bd_mk, b2_f c3, if_pos rfl]
  · refine ⟨-2, σ, σ, by rw [b2_f c1, if_pos rfl], ?_, hI⟩
    rw [S_isSide _ hb.hN hb.mN, bd_mk, b2_f c1, if_pos rfl]
def comA (F : Nat → Int32) (m x : Int32) : Nat → Int32
  | 0 => 0
  | i + 1 => comA F m x i ||| (if arrA F x i = m then (1 : Int32) <<< (nI i &&& 31) else 0)
theorem or0 (x : Int32) : x ||| 0 = x := by
  apply Int32.toBitVec.inj
  rw [Int32.toBitVec_or]
  exact BitVec.or_zero
theorem V_comes {s : St} {F : Nat → Int32} {M T S E A U Y L P N : Nat} (v : VW s F M T S E A U Y L P N) (m x : Int32) : f_X10_comingIn 1 m x s = some (comA F m x T, s) := by
  have hT := v.2.2.hT
  unfold f_X10_comingIn
  rw [isW_lit (Or.inl rfl), gd_tt]
  refine itr_cnt (fun i => (m, x, comA F m x i, nI i, s)) T _ (fun i K hi => ?_) (fun K => ?_) T 0 FU (by omega) (by unfold FU; omega)
  · unfold g_X10_comingIn_5 f_X10_comingIn_35
    dsimp only
    rw [isW_lit (Or.inl rfl), gd_tt, show gf s (1 + 2) 3 = nI T from v.2.2.cT, if_neg (lt_ge hi (by omega)), V_arrival v x hi, bd_mk, nI_1]
    show _ = K (m, x, comA F m x i ||| (if arrA F x i = m then (1 : Int32) <<< (nI i &&& 31) else 0), nI (i + 1), s)
    by_cases c : arrA F x i = m
    · rw [if_pos c, if_pos c]
      rfl
    · rw [if_neg c, if_neg c, or0]
      rfl
  · unfold g_X10_comingIn_5
    dsimp only
    rw [isW_lit (Or.inl rfl), gd_tt, show gf s (1 + 2) 3 = nI T from v.2.2.cT, if_pos (le_rf T)]
theorem D_comes (a b : Int32) (σ : St) (hI : IV σ) : ∃ r s1 s2, f_X11_comes a b σ = some (r, s1) ∧ f_X12_comes a b s1 = some (r, s2) ∧ IV s2 := by
  obtain ⟨M, T, S, E, A, U, Y, L, P, N, v⟩ := hI.vw
  have hb := v.2.2
  have hT := v.2.2.hT
  unfold f_X11_comes f_X11_comes_18 f_X12_comes f_X12_comes_15
  rw [S_isMinute, bd_mk]
  by_cases c2 : 0 ≤ a.toInt ∧ a.toInt ≤ 99
  · rw [b2_t c2, if_neg n10, S_hasSet v, bd_mk]
    by_cases c3 : 1 ≤ N ∧ 0 ≤ b.toInt ∧ b.toInt < S
    · rw [b2_t c3, if_neg n10, V_comes v, bd_mk]
      refine ⟨_, σ, σ, rfl, ?_, hI⟩
      rw [S_isAny, bd_mk, b2_t c2, if_neg n10, S_areTrains v, bd_mk, b2_t c3, if_neg n10]
      refine itr_cnt (fun i => (a, b, comA (gr σ 59) a b i, nI i, σ)) T _ (fun i K hi => ?_) (fun K => ?_) T 0 FU (by omega) (by unfold FU; omega)
      · unfold g_X12_comes_23 f_X12_comes_54
        dsimp only
        rw [show inb (4 : Int32) (ln 59) = true from rfl, gd_tt, show gr σ 59 (4 : Int32).toNatClampNeg = nI T from v.2.2.mT, if_neg (lt_ge hi (by omega)), M_comesAt v b (by omega), bd_mk, nI_1]
        show _ = K (a, b, comA (gr σ 59) a b i ||| (if arrA (gr σ 59) b i = a then (1 : Int32) <<< (nI i &&& 31) else 0), nI (i + 1), σ)
        by_cases c : arrA (gr σ 59) b i = a
        · rw [if_pos c, if_pos c]
          rfl
        · rw [if_neg c, if_neg c]
          rfl
      · unfold g_X12_comes_23
        dsimp only
        rw [show inb (4 : Int32) (ln 59) = true from rfl, gd_tt, show gr σ 59 (4 : Int32).toNatClampNeg = nI T from v.2.2.mT, if_pos (le_rf T)]
    · refine ⟨-2, σ, σ, by rw [b2_f c3, if_pos rfl], ?_, hI⟩
      rw [S_isAny, bd_mk, b2_t c2, if_neg n10, S_areTrains v, bd_mk, b2_f c3, if_pos rfl]
  · refine ⟨-2, σ, σ, by rw [b2_f c2, if_pos rfl], ?_, hI⟩
    rw [S_isAny, bd_mk, b2_f c2, if_pos rfl]
theorem sub0 {a b : Int32} : a - b = 0 ↔ a = b := by
  constructor
  · intro h
    have h2 : a - b + b = 0 + b := by rw [h]
    rw [Int32.sub_add_cancel, Int32.zero_add] at h2
    exact h2
  · rintro rfl
    exact Int32.sub_self a
theorem V_lead {s : St} {F : Nat → Int32} {M T S E A U Y L P N : Nat} (v : VW s F M T S E A U Y L P N) (m x : Int32) : f_X10_leadIn 1 m x s = some (menA F 0 m x T - menA F 1 m x T, s) := by
  unfold f_X10_leadIn
  rw [isW_lit (Or.inl rfl), gd_tt, V_men v, bd_mk, V_men v, bd_mk]
def evA (F : Nat → Int32) (T : Nat) (x : Int32) : Nat → Int64
  | 0 => 0
  | i + 1 => evA F T x i ||| (if menA F 0 (nI i) x T = menA F 1 (nI i) x T then (1 : Int64) <<< ((nI i).toInt64 &&& 63) else 0)
theorem or0L (x : Int64) : x ||| 0 = x := by
  apply Int64.toBitVec.inj
  rw [Int64.toBitVec_or]
  exact BitVec.or_zero
theorem D_even (a : Int32) (σ : St) (hI : IV σ) : ∃ r s1 s2, f_X11_even a σ = some (r, s1) ∧ f_X12_even a s1 = some (r, s2) ∧ IV s2 := by
  obtain ⟨M, T, S, E, A, U, Y, L, P, N, v⟩ := hI.vw
  have hM := v.2.2.hM
  unfold f_X11_even f_X12_even
  rw [S_hasSet v, bd_mk]
  by_cases c : 1 ≤ N ∧ 0 ≤ a.toInt ∧ a.toInt < S
  · refine ⟨evA (gr σ 59) T a M, σ, σ, ?_, ?_, hI⟩
    · rw [b2_t c, if_neg n10]
      refine itr_cnt (fun i => (a, evA (gr σ 59) T a i, nI i, σ)) M _ (fun i K hi => ?_) (fun K => ?_) M 0 FU (by omega) (by unfold FU; omega)
      · unfold g_X11_even_20 f_X11_even_52
        dsimp only
        rw [show gf σ 1 1 = nI M from v.2.2.cM, if_neg (lt_ge hi (by omega)), V_lead v, bd_mk, nI_1]
        show _ = K (a, evA (gr σ 59) T a i ||| (if menA (gr σ 59) 0 (nI i) a T = menA (gr σ 59) 1 (nI i) a T then (1 : Int64) <<< ((nI i).toInt64 &&& 63) else 0), nI (i + 1), σ)
        by_cases e : menA (gr σ 59) 0 (nI i) a T = menA (gr σ 59) 1 (nI i) a T
        · rw [if_pos (sub0.mpr e), if_pos e]
          rfl
        · rw [if_neg (fun z => e (sub0.mp z)), if_neg e, or0L]
          rfl
      · unfold g_X11_even_20
        dsimp only
        rw [show gf σ 1 1 = nI M from v.2.2.cM, if_pos (le_rf M)]
    · rw [S_areTrains v, bd_mk, b2_t c, if_neg n10]
      refine itr_cnt (fun i => (a, evA (gr σ 59) T a i, nI i, σ)) M _ (fun i K hi => ?_) (fun K => ?_) M 0 FU (by omega) (by unfold FU; omega)
      · unfold g_X12_even_17 f_X12_even_56
        dsimp only
        rw [show inb (0 : Int32) (ln 59) = true from rfl, gd_tt, show gr σ 59 (0 : Int32).toNatClampNeg = nI M from v.2.2.mM, if_neg (lt_ge hi (by omega)), M_men v, bd_mk, M_men v, bd_mk, nI_1]
        show _ = K (a, evA (gr σ 59) T a i ||| (if menA (gr σ 59) 0 (nI i) a T = menA (gr σ 59) 1 (nI i) a T then (1 : Int64) <<< ((nI i).toInt64 &&& 63) else 0), nI (i + 1), σ)
        by_cases e : menA (gr σ 59) 0 (nI i) a T = menA (gr σ 59) 1 (nI i) a T
        · rw [if_pos e, if_pos e]
          rfl
        · rw [if_neg e, if_neg e]
          rfl
      · unfold g_X12_even_17
        dsimp only
        rw [show inb (0 : Int32) (ln 59) = true from rfl, gd_tt, show gr σ 59 (0 : Int32).toNatClampNeg = nI M from v.2.2.mM, if_pos (le_rf M)]
  · refine ⟨-2, σ, σ, by rw [b2_f c, if_pos rfl], ?_, hI⟩
    rw [S_areTrains v, bd_mk, b2_f c, if_pos rfl]
