/-! ===== values: readings of the rules ===== -/
/-- minute m breaks rule i as x reads it -/
abbrev hitQ (F : Nat → Int32) (m x : Int32) (i : Nat) : Prop := (F (107 + 2 * i)).toInt + 1 - (bitOf x (2 * i)).toInt ≤ m.toInt ∧ m.toInt ≤ (F (107 + 2 * i + 1)).toInt - 1 + (bitOf x (2 * i + 1)).toInt
def heldV (F : Nat → Int32) (U : Nat) (m x : Int32) : Int32 := allV (fun i => ¬ hitQ F m x i) U 0
theorem VW.rul {s : St} {F : Nat → Int32} {M T S E A U Y L P N : Nat} (v : VW s F M T S E A U Y L P N) {i c : Nat} (hi : i < U) (hc : c < 2) : ∃ f, f ≤ 59 ∧ F (107 + 2 * i + c) = nI f := by
  have hU := v.2.2.hU
  obtain ⟨k, a1, a2, a3, a4⟩ := v.1.2.2.2.2.1
  obtain rfl : U = k := (nI_eq (by omega) (by omega)).mp (v.2.2.cU.symm.trans a2)
  have h := (a4 i hi c hc).2
  have h2 : 0 ≤ (F (107 + 2 * i + c)).toInt ∧ (F (107 + 2 * i + c)).toInt ≤ 59 := by
    rcases (by omega : c = 0 ∨ c = 1) with rfl | rfl
    · exact h
    · exact h
  exact nI_ofT h2.1 h2.2
theorem lo_x {f : Nat} (hf : f ≤ 59) {b : Int32} (hb : b = 0 ∨ b = 1) : (nI f + 1 - b).toInt = (f : Int) + 1 - b.toInt := by
  rcases hb with rfl | rfl
  · rw [nI_1, Int32.sub_zero, nI_toInt (by omega)]
    show ((f + 1 : Nat) : Int) = f + 1 - 0
    omega
  · rw [nI_1, nI_pred, nI_toInt (by omega)]
    show (f : Int) = f + 1 - 1
    omega
theorem hi_x {f : Nat} (hf : f ≤ 59) {b : Int32} (hb : b = 0 ∨ b = 1) : (nI f - 1 + b).toInt = (f : Int) - 1 + b.toInt := by
  rcases f with _ | f
  · rcases hb with rfl | rfl
    · rfl
    · rfl
  · rw [nI_pred]
    rcases hb with rfl | rfl
    · rw [Int32.add_zero, nI_toInt (by omega)]
      show (f : Int) = ((f + 1 : Nat) : Int) - 1 + 0
      omega
    · rw [nI_1, nI_toInt (by omega)]
      show ((f + 1 : Nat) : Int) = ((f + 1 : Nat) : Int) - 1 + 1
      omega
theorem two_nI (i : Nat) : (2 : Int32) * nI i = nI (2 * i) := by rw [zL2, nI_mul]
theorem M_held {s : St} {F : Nat → Int32} {M T S E A U Y L P N : Nat} (v : VW s F M T S E A U Y L P N) (m x : Int32) : f_X12_holdsBy m x s = some (heldV F U m x, s) := by
  have hU := v.2.2.hU
  unfold f_X12_holdsBy heldV
  refine itr_all (fun i => (m, x, nI i, s)) U s (fun i => ¬ hitQ F m x i) (fun i K hi => ?_) (fun K => ?_) U 0 FU (by omega) (by unfold FU; omega)
  · obtain ⟨f, hf, ef⟩ := v.rul (c := 0) hi (by omega)
    obtain ⟨g, hg, eg⟩ := v.rul (c := 1) hi (by omega)
    have e1 : inb ((107 : Int32) + (2 : Int32) * nI i) (ln 59) = true ∧ ((107 : Int32) + (2 : Int32) * nI i).toNatClampNeg = 107 + 2 * i := by
      simp only [zL107, zL2, nI_mul, nI_add]
      exact ⟨inb_ln (n := 240) rfl (by omega) (by omega), nI_clamp (by omega)⟩
    have e2 : inb ((107 : Int32) + (2 : Int32) * nI i + 1) (ln 59) = true ∧ ((107 : Int32) + (2 : Int32) * nI i + 1).toNatClampNeg = 107 + 2 * i + 1 := by
      simp only [zL107, zL2, nI_mul, nI_add, nI_1]
      exact ⟨inb_ln (n := 240) rfl (by omega) (by omega), nI_clamp (by omega)⟩
    unfold g_X12_holdsBy_2
    dsimp only
    rw [show inb (7 : Int32) (ln 59) = true from rfl, gd_tt, show gr s 59 (7 : Int32).toNatClampNeg = nI U from v.2.2.mU, if_neg (lt_ge hi (by omega)), e1.1, gd_tt, two_nI, S_bit, bd_mk, bnd_mk, ← two_nI, e2.1, gd_tt, two_nI, nI_1, S_bit, bd_mk, bnd_mk, ← two_nI, e1.2, e2.2, v.2.1, S_in32, bd_mk, nI_1, bz_0, gd_tt]
    have q : ((F (107 + 2 * i) + 1 - bitOf x (2 * i)).toInt ≤ m.toInt ∧ m.toInt ≤ (F (107 + 2 * i + 1) - 1 + bitOf x (2 * i + 1)).toInt) ↔ hitQ F m x i := by
      have ef' : F (107 + 2 * i) = nI f := ef
      unfold hitQ
      rw [ef', eg, lo_x hf (bit01 x (2 * i)), hi_x hg (bit01 x (2 * i + 1)), nI_toInt (by omega), nI_toInt (by omega)]
    by_cases c : hitQ F m x i
    · rw [b2_t (q.mpr c), if_neg n10, if_neg (fun z => z c)]
    · rw [b2_f (fun z => c (q.mp z)), if_pos rfl, if_pos c]
      rfl
  · unfold g_X12_holdsBy_2
    dsimp only
    rw [show inb (7 : Int32) (ln 59) = true from rfl, gd_tt, show gr s 59 (7 : Int32).toNatClampNeg = nI U from v.2.2.mU, if_pos (le_rf U), bz_1, gd_tt]
theorem V_held {s : St} {F : Nat → Int32} {M T S E A U Y L P N : Nat} (v : VW s F M T S E A U Y L P N) (m x : Int32) : f_X4_isHeld m x s = some (heldV F U m x, s) := by
  have hU := v.2.2.hU
  unfold f_X4_isHeld heldV
  refine itr_all (fun i => (m, x, nI i, s)) U s (fun i => ¬ hitQ F m x i) (fun i K hi => ?_) (fun K => ?_) U 0 FU (by omega) (by unfold FU; omega)
  · have z0 : (0 : Int32).toInt = 0 := rfl
    have z1 : (1 : Int32).toInt = 1 := rfl
    have i0 : ∀ a : Int32, f_X4_isHeld_116 K m x (nI i) s = K (m, x, nI (i + 1), s) := fun _ => by
      unfold f_X4_isHeld_116
      rw [nI_1]
      rfl
    have i0' : f_X4_isHeld_116 K m x (nI i) s = K (m, x, nI (i + 1), s) := i0 0
    have h102 : ∀ v6 k0 : Int32, (v6 = 0 ∨ v6 = 1) → (k0 = 0 ∨ k0 = 1) → f_X4_isHeld_102 K m x (nI i) v6 k0 s = if v6 = 1 ∧ k0 = 1 then some (0, s) else K (m, x, nI (i + 1), s) := by
      intro v6 k0 h6 h0
      unfold f_X4_isHeld_102
      rw [i0', bz_0, gd_tt]
      rcases h6 with rfl | rfl
      · rw [if_pos rfl, if_neg (fun z => absurd z.1 (by decide))]
      · rcases h0 with rfl | rfl
        · rw [if_neg n10, if_pos rfl, if_neg (fun z => absurd z.2 (by decide))]
        · rw [if_neg n10, if_neg n10, if_pos ⟨rfl, rfl⟩]
    have h71 : ∀ v6 : Int32, (v6 = 0 ∨ v6 = 1) → f_X4_isHeld_71 K m x (nI i) (F (107 + 2 * i + 1)) v6 s = if v6 = 1 ∧ m.toInt ≤ (F (107 + 2 * i + 1)).toInt - 1 + (bitOf x (2 * i + 1)).toInt then some (0, s) else K (m, x, nI (i + 1), s) := by
      intro v6 h6
      unfold f_X4_isHeld_71 f_X4_isHeld_97 f_X4_isHeld_101
      rw [two_nI, nI_1, S_isIn, bd_mk, h102 _ _ h6 (Or.inl rfl), h102 _ _ h6 (Or.inr rfl)]
      by_cases c1 : m < F (107 + 2 * i + 1)
      · rw [if_pos c1]
        rw [lt_toInt] at c1
        have hb : 0 ≤ (bitOf x (2 * i + 1)).toInt := by
          rcases bit01 x (2 * i + 1) with e | e
          · rw [e]; decide
          · rw [e]; decide
        by_cases g : v6 = 1
        · rw [if_pos ⟨g, rfl⟩, if_pos ⟨g, by omega⟩]
        · rw [if_neg (fun z => g z.1), if_neg (fun z => g z.1)]
      · rw [if_neg c1]
        rw [lt_toInt] at c1
        by_cases c2 : m = F (107 + 2 * i + 1)
        · rw [if_pos c2]
          rcases bit01 x (2 * i + 1) with e | e
          · rw [e, if_pos rfl, if_neg (fun z => absurd z.2 (by decide)), if_neg (fun z => by have := z.2; rw [c2] at this; omega)]
          · rw [e, if_neg n10]
            by_cases g : v6 = 1
            · rw [if_pos ⟨g, rfl⟩, if_pos ⟨g, by rw [c2]; omega⟩]
            · rw [if_neg (fun z => g z.1), if_neg (fun z => g z.1)]
        · have c3 : ¬ m.toInt = (F (107 + 2 * i + 1)).toInt := fun z => c2 (Int32.toInt_inj.mp z)
          rw [if_neg c2, if_neg (fun z => absurd z.2 (by decide)), if_neg (fun z => by
            have := z.2
            rcases bit01 x (2 * i + 1) with e | e
            · rw [e] at this; omega
            · rw [e] at this; omega)]
    unfold g_X4_isHeld_2 f_X4_isHeld_66 f_X4_isHeld_70
    dsimp only
    rw [show gf s 9 3 = nI U from v.2.2.cU, if_neg (lt_ge hi (by omega)), show f_X9_cell 9 (nI i) (0 : Int32) s = some (F (107 + 2 * i), s) from V_c9 v (c := 0) hi (by omega), bd_mk, show f_X9_cell 9 (nI i) (1 : Int32) s = some (F (107 + 2 * i + 1), s) from V_c9 v (c := 1) hi (by omega), bd_mk, two_nI, S_isIn, bd_mk, h71 0 (Or.inl rfl), h71 1 (Or.inr rfl)]
    by_cases c1 : F (107 + 2 * i) < m
    · rw [if_pos c1]
      rw [lt_toInt] at c1
      have hb : 0 ≤ (bitOf x (2 * i)).toInt := by
        rcases bit01 x (2 * i) with e | e
        · rw [e]; decide
        · rw [e]; decide
      by_cases g : m.toInt ≤ (F (107 + 2 * i + 1)).toInt - 1 + (bitOf x (2 * i + 1)).toInt
      · rw [if_pos ⟨rfl, g⟩, if_neg (fun z => z ⟨by omega, g⟩)]
      · rw [if_neg (fun z => g z.2), if_pos (fun z => g z.2)]
    · rw [if_neg c1]
      rw [lt_toInt] at c1
      by_cases c2 : m = F (107 + 2 * i)
      · rw [if_pos c2]
        rcases bit01 x (2 * i) with e | e
        · rw [if_pos e, if_neg (fun z => absurd z.1 (by decide)), if_pos (fun z => by
            have h := z.1
            rw [e, c2] at h
            omega)]
        · rw [if_neg (show ¬ bitOf x (2 * i) = 0 from by rw [e]; decide)]
          by_cases g : m.toInt ≤ (F (107 + 2 * i + 1)).toInt - 1 + (bitOf x (2 * i + 1)).toInt
          · rw [if_pos ⟨rfl, g⟩, if_neg (fun z => z ⟨by rw [e, c2]; omega, g⟩)]
          · rw [if_neg (fun z => g z.2), if_pos (fun z => g z.2)]
      · have c3 : ¬ m.toInt = (F (107 + 2 * i)).toInt := fun z => c2 (Int32.toInt_inj.mp z)
        rw [if_neg c2, if_neg (fun z => absurd z.1 (by decide)), if_pos (fun z => by
          have h := z.1
          rcases bit01 x (2 * i) with e | e
          · rw [e] at h; omega
          · rw [e] at h; omega)]
  · unfold g_X4_isHeld_2
    dsimp only
    rw [show gf s 9 3 = nI U from v.2.2.cU, if_pos (le_rf U), bz_1, gd_tt]
theorem V_allR {s : St} {F : Nat → Int32} {M T S E A U Y L P N : Nat} (v : VW s F M T S E A U Y L P N) : f_X4_allReadings s = some (nI (2 ^ (2 * U)), s) := by
  unfold f_X4_allReadings
  rw [v.2.2.cU, show (2 : Int32) = nI 2 from rfl, nI_mul, nI_shl (by have := v.2.2.hU; omega)]
theorem M_allR {s : St} {F : Nat → Int32} {M T S E A U Y L P N : Nat} (v : VW s F M T S E A U Y L P N) : f_X12_allReadings s = some (nI (2 ^ (2 * U)), s) := by
  unfold f_X12_allReadings
  rw [show inb (7 : Int32) (ln 59) = true from rfl, gd_tt, c64_7, v.2.2.mU, show (2 : Int32) = nI 2 from rfl, nI_mul, nI_shl (by have := v.2.2.hU; omega)]
theorem held01 (F : Nat → Int32) (U : Nat) (m x : Int32) : heldV F U m x = 0 ∨ heldV F U m x = 1 := by
  unfold heldV
  have h := allV_eq (fun i => ¬ hitQ F m x i) U 0
  by_cases c : ∀ j, j < U → ¬ hitQ F m x (0 + j)
  · exact Or.inr (h.1 c)
  · exact Or.inl (h.2 c)
theorem held1 (F : Nat → Int32) (U : Nat) (m x : Int32) : heldV F U m x = 1 ↔ ∀ j, j < U → ¬ hitQ F m x j := by
  unfold heldV
  have h := allV_eq (fun i => ¬ hitQ F m x i) U 0
  simp only [Nat.zero_add] at h
  constructor
  · intro e
    by_cases c : ∀ j, j < U → ¬ hitQ F m x j
    · exact c
    · rw [h.2 c] at e
      exact absurd e (by decide)
  · intro c
    exact h.1 c
/-- how many readings of the first i hold -/
def rdN (F : Nat → Int32) (U : Nat) (m : Int32) : Nat → Nat
  | 0 => 0
  | i + 1 => rdN F U m i + (if heldV F U m (nI i) = 0 then 0 else 1)
theorem rdN_le (F : Nat → Int32) (U : Nat) (m : Int32) : ∀ i, rdN F U m i ≤ i := by
  intro i
  induction i with
  | zero => exact Nat.le_refl _
  | succ i ih =>
    show rdN F U m i + (if heldV F U m (nI i) = 0 then 0 else 1) ≤ i + 1
    split <;> omega
theorem rdN_0 (F : Nat → Int32) (U : Nat) (m : Int32) : ∀ i, rdN F U m i = 0 ↔ ∀ j, j < i → heldV F U m (nI j) = 0 := by
  intro i
  induction i with
  | zero => exact ⟨fun _ j hj => absurd hj (by omega), fun _ => rfl⟩
  | succ i ih =>
    have e : rdN F U m (i + 1) = rdN F U m i + (if heldV F U m (nI i) = 0 then 0 else 1) := rfl
    rw [e]
    by_cases c : heldV F U m (nI i) = 0
    · rw [if_pos c, Nat.add_zero, ih]
      constructor
      · intro h j hj
        by_cases g : j = i
        · rw [g]; exact c
        · exact h j (by omega)
      · intro h j hj
        exact h j (by omega)
    · rw [if_neg c]
      exact ⟨fun h => absurd h (by omega), fun h => absurd (h i (by omega)) c⟩
theorem rdN_all (F : Nat → Int32) (U : Nat) (m : Int32) : ∀ i, rdN F U m i = i ↔ ∀ j, j < i → heldV F U m (nI j) = 1 := by
  intro i
  induction i with
  | zero => exact ⟨fun _ j hj => absurd hj (by omega), fun _ => rfl⟩
  | succ i ih =>
    have e : rdN F U m (i + 1) = rdN F U m i + (if heldV F U m (nI i) = 0 then 0 else 1) := rfl
    have hle := rdN_le F U m i
    rw [e]
    by_cases c : heldV F U m (nI i) = 0
    · rw [if_pos c]
      exact ⟨fun h => absurd h (by omega), fun h => absurd (h i (by omega)) (by rw [c]; decide)⟩
    · have c1 := (held01 F U m (nI i)).resolve_left c
      rw [if_neg c]
      constructor
      · intro h j hj
        by_cases g : j = i
        · rw [g]; exact c1
        · exact ih.mp (by omega) j (by omega)
      · intro h
        have := ih.mpr (fun j hj => h j (by omega))
        omega
theorem V_count {s : St} {F : Nat → Int32} {M T S E A U Y L P N : Nat} (v : VW s F M T S E A U Y L P N) (m : Int32) : f_X4_countReadings m s = some (nI (rdN F U m (2 ^ (2 * U))), s) := by
  have h2 := v.2.2.U256
  unfold f_X4_countReadings
  refine itr_cnt (fun i => (m, nI (rdN F U m i), nI i, s)) (2 ^ (2 * U)) _ (fun i K hi => ?_) (fun K => ?_) (2 ^ (2 * U)) 0 FU (by omega) (by unfold FU; omega)
  · unfold g_X4_countReadings_4 f_X4_countReadings_24
    dsimp only
    rw [V_allR v, bd_mk, if_neg (lt_ge hi (by omega)), V_held v, bd_mk, nI_1]
    show _ = K (m, nI (rdN F U m i + (if heldV F U m (nI i) = 0 then 0 else 1)), nI (i + 1), s)
    by_cases c : heldV F U m (nI i) = 0
    · rw [if_pos c, if_pos c]
      rfl
    · rw [if_neg c, if_neg c, nI_1]
      rfl
  · unfold g_X4_countReadings_4
    dsimp only
    rw [V_allR v, bd_mk, if_pos (le_rf _)]
theorem M_count {s : St} {F : Nat → Int32} {M T S E A U Y L P N : Nat} (v : VW s F M T S E A U Y L P N) (m : Int32) : f_X12_readingsOf m s = some (nI (rdN F U m (2 ^ (2 * U))), s) := by
  have h2 := v.2.2.U256
  unfold f_X12_readingsOf
  refine itr_cnt (fun i => (m, nI (rdN F U m i), nI i, s)) (2 ^ (2 * U)) _ (fun i K hi => ?_) (fun K => ?_) (2 ^ (2 * U)) 0 FU (by omega) (by unfold FU; omega)
  · unfold g_X12_readingsOf_4 f_X12_readingsOf_27
    dsimp only
    rw [M_allR v, bd_mk, if_neg (lt_ge hi (by omega)), M_held v, bd_mk, nI_1]
    show _ = K (m, nI (rdN F U m i + (if heldV F U m (nI i) = 0 then 0 else 1)), nI (i + 1), s)
    by_cases c : heldV F U m (nI i) = 0
    · rw [if_pos c, if_pos c, Int32.add_zero]
      rfl
    · rw [if_neg c, if_neg c, nI_1]
      rfl
  · unfold g_X12_readingsOf_4
    dsimp only
    rw [M_allR v, bd_mk, if_pos (le_rf _)]
theorem S_isPeace {s : St} {F : Nat → Int32} {M T S E A U Y L P N : Nat} (v : VW s F M T S E A U Y L P N) (p : Int32) : f_X11_isPeaceMinute p s = some (b2 (1 ≤ N ∧ 0 ≤ p.toInt ∧ p.toInt ≤ 59), s) := by
  have z0 : (0 : Int32).toInt = 0 := rfl
  have z9 : (59 : Int32).toInt = 59 := rfl
  unfold f_X11_isPeaceMinute f_X11_isPeaceMinute_24 f_X11_isPeaceMinute_25
  rw [S_isTold v.2.2.hN v.2.2.cN, bd_mk, bz_0, bz_1, gd_tt, gd_tt]
  by_cases c0 : 1 ≤ N
  · rw [b2_t c0, if_neg n10]
    by_cases c : p < 0
    · rw [if_pos c, b2_f]
      rw [lt_toInt] at c
      omega
    · rw [if_neg c]
      rw [lt_toInt] at c
      by_cases c1 : (59 : Int32) < p
      · rw [if_pos c1, b2_f]
        rw [lt_toInt] at c1
        omega
      · rw [if_neg c1, b2_t]
        rw [lt_toInt] at c1
        omega
  · rw [b2_f c0, if_pos rfl, b2_f (fun g => c0 g.1)]
theorem M_isSigned {s : St} {F : Nat → Int32} {M T S E A U Y L P N : Nat} (v : VW s F M T S E A U Y L P N) (p : Int32) : f_X12_isSigned p s = some (b2 (1 ≤ N ∧ 0 ≤ p.toInt ∧ p.toInt ≤ 59), s) := by
  unfold f_X12_isSigned f_X12_isSigned_23 f_X12_isSigned_24
  rw [S_isWar v.2.2.hN v.2.2.mN, bd_mk]
  by_cases c0 : 1 ≤ N
  · rw [b2_t c0, if_neg n10, M_inB _ 0 59 (a := 0) (b := 59) rfl rfl, bd_mk]
    by_cases c : 0 ≤ p.toInt ∧ p.toInt ≤ 59
    · rw [b2_t c, if_neg n10, bz_1, gd_tt, b2_t ⟨c0, c⟩]
    · rw [b2_f c, if_pos rfl, bz_0, gd_tt, b2_f (fun g => c g.2)]
  · rw [b2_f c0, if_pos rfl, bz_0, gd_tt, b2_f (fun g => c0 g.1)]
theorem D_readings (a : Int32) (σ : St) (hI : IV σ) : ∃ r s1 s2, f_X11_readings a σ = some (r, s1) ∧ f_X12_readings a s1 = some (r, s2) ∧ IV s2 := by
  obtain ⟨M, T, S, E, A, U, Y, L, P, N, v⟩ := hI.vw
  unfold f_X11_readings f_X11_readings_21 f_X12_readings f_X12_readings_18
  rw [S_isPeace v, bd_mk]
  by_cases c : 1 ≤ N ∧ 0 ≤ a.toInt ∧ a.toInt ≤ 59
  · refine ⟨_, σ, σ, by rw [b2_t c, if_neg n10, V_count v, bd_mk], ?_, hI⟩
    rw [M_isSigned v, bd_mk, b2_t c, if_neg n10, M_count v, bd_mk]
  · refine ⟨-2, σ, σ, by rw [b2_f c, if_pos rfl], ?_, hI⟩
    rw [M_isSigned v, bd_mk, b2_f c, if_pos rfl]
/-! the closest and the widest reading -/
theorem bit_0 : ∀ j, j < 8 → bitOf 0 j = 0 := by decide +kernel
theorem bit_all : ∀ U, U < 5 → ∀ j, j < 2 * U → bitOf (nI (2 ^ (2 * U) - 1)) j = 1 := by decide +kernel
theorem bit_ge (x : Int32) (j : Nat) : 0 ≤ (bitOf x j).toInt ∧ (bitOf x j).toInt ≤ 1 := by
  rcases bit01 x j with e | e
  · rw [e]; decide
  · rw [e]; decide
theorem held_0 {F : Nat → Int32} {U : Nat} {m : Int32} (hU : U ≤ 4) (x : Int32) (h : heldV F U m x = 1) : heldV F U m 0 = 1 := by
  rw [held1] at h ⊢
  intro j hj q
  refine h j hj ⟨?_, ?_⟩
  · have h1 := q.1
    have h2 := bit_ge x (2 * j)
    have h3 : (0 : Int32).toInt = 0 := rfl
    rw [bit_0 _ (by omega)] at h1
    omega
  · have h1 := q.2
    have h2 := bit_ge x (2 * j + 1)
    have h3 : (0 : Int32).toInt = 0 := rfl
    rw [bit_0 _ (by omega)] at h1
    omega
theorem held_all {F : Nat → Int32} {U : Nat} {m : Int32} (hU : U ≤ 4) (x : Int32) (h : heldV F U m (nI (2 ^ (2 * U) - 1)) = 1) : heldV F U m x = 1 := by
  rw [held1] at h ⊢
  intro j hj q
  refine h j hj ⟨?_, ?_⟩
  · have h1 := q.1
    have h2 := bit_ge x (2 * j)
    have h3 : (1 : Int32).toInt = 1 := rfl
    rw [bit_all U (by omega) _ (by omega)]
    omega
  · have h1 := q.2
    have h2 := bit_ge x (2 * j + 1)
    have h3 : (1 : Int32).toInt = 1 := rfl
    rw [bit_all U (by omega) _ (by omega)]
    omega
theorem some_holds {F : Nat → Int32} {U : Nat} {m : Int32} (hU : U ≤ 4) : 1 ≤ rdN F U m (2 ^ (2 * U)) ↔ heldV F U m 0 = 1 := by
  have hp : 1 ≤ 2 ^ (2 * U) := Nat.one_le_two_pow
  have h := rdN_0 F U m (2 ^ (2 * U))
  constructor
  · intro g
    rcases held01 F U m 0 with e | e
    · exfalso
      have : rdN F U m (2 ^ (2 * U)) = 0 := h.mpr (fun j _ => by
        rcases held01 F U m (nI j) with e2 | e2
        · exact e2
        · rw [held_0 hU _ e2] at e
          exact absurd e (by decide))
      omega
    · exact e
  · intro e
    by_cases g : rdN F U m (2 ^ (2 * U)) = 0
    · have := h.mp g 0 (by omega)
      rw [show nI 0 = 0 from rfl, e] at this
      exact absurd this (by decide)
    · omega
theorem all_hold {F : Nat → Int32} {U : Nat} {m : Int32} (hU : U ≤ 4) : rdN F U m (2 ^ (2 * U)) = 2 ^ (2 * U) ↔ heldV F U m (nI (2 ^ (2 * U) - 1)) = 1 := by
  have hp : 1 ≤ 2 ^ (2 * U) := Nat.one_le_two_pow
  rw [rdN_all]
  exact ⟨fun h => h _ (by omega), fun h j _ => held_all hU _ h⟩
def lpA (F : Nat → Int32) (U : Nat) : Nat → Int64
  | 0 => 0
  | i + 1 => lpA F U i ||| (if heldV F U (nI i) 0 = 1 ∧ heldV F U (nI i) (nI (2 ^ (2 * U) - 1)) = 0 then (1 : Int64) <<< ((nI i).toInt64 &&& 63) else 0)
theorem D_loopholes (σ : St) (hI : IV σ) : ∃ r s1 s2, f_X11_loopholes σ = some (r, s1) ∧ f_X12_loopholes s1 = some (r, s2) ∧ IV s2 := by
  obtain ⟨M, T, S, E, A, U, Y, L, P, N, v⟩ := hI.vw
  have hU := v.2.2.hU
  have h2 := v.2.2.U256
  have hpr : nI (2 ^ (2 * U)) - 1 = nI (2 ^ (2 * U) - 1) := by
    obtain ⟨k, e⟩ : ∃ k, 2 ^ (2 * U) = k + 1 := ⟨2 ^ (2 * U) - 1, by omega⟩
    rw [e, nI_pred, Nat.add_sub_cancel]
  unfold f_X11_loopholes f_X11_loopholes_23 f_X12_loopholes
  rw [S_isTold v.2.2.hN v.2.2.cN, bd_mk]
  by_cases c : 1 ≤ N
  · refine ⟨lpA (gr σ 59) U 60, σ, σ, ?_, ?_, hI⟩
    · rw [b2_t c, if_neg n10]
      have key : f_X4_loopholeMinutes σ = some (lpA (gr σ 59) U 60, σ) := by
        unfold f_X4_loopholeMinutes
        refine itr_cnt (fun i => (lpA (gr σ 59) U i, nI i, σ)) 60 _ (fun i K hi => ?_) (fun K => ?_) 60 0 FU (by omega) (by unfold FU; omega)
        · unfold g_X4_loopholeMinutes_4 f_X4_loopholeMinutes_39
          dsimp only
          rw [if_neg (show ¬ (59 : Int32) < nI i from nI_nlt (b := i) (a := 59) (by omega) (by omega)), V_held v, bd_mk, V_allR v, bd_mk, hpr, V_held v, bd_mk, nI_1]
          show _ = K (lpA (gr σ 59) U i ||| (if heldV (gr σ 59) U (nI i) 0 = 1 ∧ heldV (gr σ 59) U (nI i) (nI (2 ^ (2 * U) - 1)) = 0 then (1 : Int64) <<< ((nI i).toInt64 &&& 63) else 0), nI (i + 1), σ)
          rcases held01 (gr σ 59) U (nI i) 0 with e | e
          · rw [e, if_pos rfl, if_neg (fun z => absurd z.1 (by decide)), or0L]
            rfl
          · rw [e, if_neg n10]
            by_cases g : heldV (gr σ 59) U (nI i) (nI (2 ^ (2 * U) - 1)) = 0
            · rw [if_pos g, if_pos ⟨rfl, g⟩]
              rfl
            · rw [if_neg g, if_neg (fun z => g z.2), or0L]
              rfl
        · unfold g_X4_loopholeMinutes_4
          dsimp only
          rw [if_pos (show (59 : Int32) < nI 60 from by decide)]
      rw [key, bd_mk]
    · rw [S_isWar v.2.2.hN v.2.2.mN, bd_mk, b2_t c, if_neg n10]
      refine itr_cnt (fun i => (lpA (gr σ 59) U i, nI i, σ)) 60 _ (fun i K hi => ?_) (fun K => ?_) 60 0 FU (by omega) (by unfold FU; omega)
      · unfold g_X12_loopholes_15 f_X12_loopholes_49
        dsimp only
        have hle := rdN_le (gr σ 59) U (nI i) (2 ^ (2 * U))
        rw [if_neg (show ¬ (60 : Int32) ≤ nI i from lt_ge (m := 60) hi (by omega)), M_count v, bd_mk, M_allR v, bd_mk, hpr, M_inB _ 1 (nI (2 ^ (2 * U) - 1)).toInt64 (a := 1) (b := ((2 ^ (2 * U) - 1 : Nat) : Int)) rfl (by rw [Int32.toInt_toInt64, nI_toInt (by omega)]), bd_mk, nI_1, nI_toInt (by omega)]
        show _ = K (lpA (gr σ 59) U i ||| (if heldV (gr σ 59) U (nI i) 0 = 1 ∧ heldV (gr σ 59) U (nI i) (nI (2 ^ (2 * U) - 1)) = 0 then (1 : Int64) <<< ((nI i).toInt64 &&& 63) else 0), nI (i + 1), σ)
        have s1 := some_holds (F := gr σ 59) (m := nI i) hU
        have s2 := all_hold (F := gr σ 59) (m := nI i) hU
        by_cases g : heldV (gr σ 59) U (nI i) 0 = 1 ∧ heldV (gr σ 59) U (nI i) (nI (2 ^ (2 * U) - 1)) = 0
        · have g1 := s1.mpr g.1
          have g2 : ¬ rdN (gr σ 59) U (nI i) (2 ^ (2 * U)) = 2 ^ (2 * U) := fun z => by
            rw [s2.mp z] at g
            exact absurd g.2 (by decide)
          rw [b2_t (by omega), if_neg n10, if_pos g]
          rfl
        · rw [b2_f, if_pos rfl, if_neg g]
          · rfl
          · intro z
            refine g ⟨s1.mp (by omega), ?_⟩
            rcases held01 (gr σ 59) U (nI i) (nI (2 ^ (2 * U) - 1)) with e | e
            · exact e
            · have := s2.mpr e
              omega
      · unfold g_X12_loopholes_15
        dsimp only
        rw [if_pos (show (60 : Int32) ≤ nI 60 from le_rf 60)]
  · refine ⟨-2, σ, σ, by rw [b2_f c, if_pos rfl], ?_, hI⟩
    rw [S_isWar v.2.2.hN v.2.2.mN, bd_mk, b2_f c, if_pos rfl]
theorem D_signs (σ : St) (hI : IV σ) : ∃ r s1 s2, f_X11_signs σ = some (r, s1) ∧ f_X12_signs s1 = some (r, s2) ∧ IV s2 := by
  obtain ⟨M, T, S, E, A, U, Y, L, P, N, v⟩ := hI.vw
  have hU := v.2.2.hU
  have h2 := v.2.2.U256
  have hpr : nI (2 ^ (2 * U)) - 1 = nI (2 ^ (2 * U) - 1) := by
    obtain ⟨k, e⟩ : ∃ k, 2 ^ (2 * U) = k + 1 := ⟨2 ^ (2 * U) - 1, by omega⟩
    rw [e, nI_pred, Nat.add_sub_cancel]
  unfold f_X11_signs f_X11_signs_22 f_X12_signs
  rw [S_isTold v.2.2.hN v.2.2.cN, bd_mk]
  by_cases c : 1 ≤ N
  · have key : ∃ r, itr g_X4_firstSafeMinute_2 FU (nI 0, σ) = some (r, σ) ∧ itr g_X12_signs_12 FU (nI 0, σ) = some (r, σ) := by
      refine itr_two (fun i => (nI i, σ)) (fun i => (nI i, σ)) 60 σ σ (fun i hi => ?_) ?_ 60 0 FU FU (by omega) (by unfold FU; omega) (by unfold FU; omega)
      · have hle := rdN_le (gr σ 59) U (nI i) (2 ^ (2 * U))
        have s2 := all_hold (F := gr σ 59) (m := nI i) hU
        have hC : ∀ K : Int32 × St → Option (Int32 × St), g_X4_firstSafeMinute_2 K (nI i, σ) = if heldV (gr σ 59) U (nI i) (nI (2 ^ (2 * U) - 1)) = 0 then K (nI (i + 1), σ) else some (nI i, σ) := fun K => by
          unfold g_X4_firstSafeMinute_2
          dsimp only
          rw [if_neg (show ¬ (59 : Int32) < nI i from nI_nlt (b := i) (a := 59) (by omega) (by omega)), V_allR v, bd_mk, hpr, V_held v, bd_mk, nI_1]
          rfl
        have hM : ∀ K : Int32 × St → Option (Int32 × St), g_X12_signs_12 K (nI i, σ) = if rdN (gr σ 59) U (nI i) (2 ^ (2 * U)) = 2 ^ (2 * U) then some (nI i, σ) else K (nI (i + 1), σ) := fun K => by
          unfold g_X12_signs_12
          dsimp only
          rw [if_neg (show ¬ (60 : Int32) ≤ nI i from lt_ge (m := 60) hi (by omega)), M_count v, bd_mk, M_allR v, bd_mk, nI_1]
          by_cases g : rdN (gr σ 59) U (nI i) (2 ^ (2 * U)) = 2 ^ (2 * U)
          · rw [if_pos g, if_pos (by rw [g])]
          · rw [if_neg g, if_neg (fun z => g ((nI_eq (by omega) (by omega)).mp z))]
            rfl
        rcases held01 (gr σ 59) U (nI i) (nI (2 ^ (2 * U) - 1)) with e | e
        · refine Or.inr ⟨fun K => by rw [hC, if_pos e], fun K => ?_⟩
          rw [hM, if_neg]
          intro z
          rw [s2.mp z] at e
          exact absurd e (by decide)
        · exact Or.inl ⟨nI i, fun K => by rw [hC, if_neg (by rw [e]; decide)], fun K => by rw [hM, if_pos (s2.mpr e)]⟩
      · refine ⟨-1, fun K => ?_, fun K => ?_⟩
        · unfold g_X4_firstSafeMinute_2
          dsimp only
          rw [if_pos (show (59 : Int32) < nI 60 from by decide)]
        · unfold g_X12_signs_12
          dsimp only
          rw [if_pos (show (60 : Int32) ≤ nI 60 from le_rf 60)]
    obtain ⟨r, h1, h3⟩ := key
    refine ⟨r, σ, σ, ?_, ?_, hI⟩
    · rw [b2_t c, if_neg n10]
      unfold f_X4_firstSafeMinute
      rw [show itr g_X4_firstSafeMinute_2 FU ((0 : Int32), σ) = some (r, σ) from h1, bd_mk]
    · rw [S_isWar v.2.2.hN v.2.2.mN, bd_mk, b2_t c, if_neg n10]
      exact h3
  · refine ⟨-2, σ, σ, by rw [b2_f c, if_pos rfl], ?_, hI⟩
    rw [S_isWar v.2.2.hN v.2.2.mN, bd_mk, b2_f c, if_pos rfl]
