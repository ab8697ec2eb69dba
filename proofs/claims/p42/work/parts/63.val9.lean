/-! ===== values: what is known to the spies that fit ===== -/
theorem lsb_nI {k j : Nat} (hk : k < 512) (hj : j < 32) : (nI k).toBitVec.getLsbD j = k.testBit j := by
  show (BitVec.ofNat 32 k).getLsbD j = _
  rw [BitVec.getLsbD_ofNat, decide_eq_true hj, Bool.true_and]
theorem lsb_sh {i j : Nat} (hi : i < 9) (hj : j < 32) : ((1 : Int32) <<< (nI i &&& 31)).toBitVec.getLsbD j = decide (j = i) := by
  rw [nI_sh1 i (by omega), lsb_nI (two_512 hi) hj, Nat.testBit_two_pow]
  by_cases c : j = i
  · rw [decide_eq_true c, decide_eq_true c.symm]
  · rw [decide_eq_false c, decide_eq_false (p := i = j) (fun z => c z.symm)]
theorem VW.spy {s : St} {F : Nat → Int32} {M T S E A U Y L P N : Nat} (v : VW s F M T S E A U Y L P N) {i : Nat} (hi : i < Y) : ∃ f, f < 2 ^ T ∧ f < 512 ∧ F (115 + i) = nI f := by
  have hY := v.2.2.hY
  have hT := v.2.2.hT
  obtain ⟨k, a1, a2, a3, a4⟩ := v.1.2.2.2.2.2.1
  obtain rfl : Y = k := (nI_eq (by omega) (by omega)).mp (v.2.2.cY.symm.trans a2)
  have h := (a4 i hi 0 (by omega)).2
  rw [Nat.one_mul, Nat.add_zero] at h
  replace h : 0 ≤ (F (115 + i)).toInt ∧ (F (115 + i)).toInt ≤ 511 := h
  obtain ⟨f, hf, e⟩ := nI_ofT (x := F (115 + i)) (n := 511) h.1 h.2
  have hs := v.1.2.2.2.2.2.2.2.2.1 Y T a3 hY (by rw [← v.2.1]; exact v.2.2.mT) hT i hi
  rw [e, nI_toInt (by omega)] at hs
  refine ⟨f, ?_, by omega, e⟩
  have : ((f : Nat) : Int) < ((2 ^ T : Nat) : Int) := by
    rw [Int.natCast_pow]
    exact hs
  omega
theorem cntN_lt {Q R : Nat → Bool} : ∀ n, (∀ i, i < n → Q i = true → R i = true) → cntN Q n ≤ cntN R n ∧ (cntN Q n < cntN R n ↔ ∃ i, i < n ∧ R i = true ∧ Q i = false) := by
  intro n
  induction n with
  | zero => exact fun _ => ⟨Nat.le_refl _, fun h => absurd h (by show ¬ (0 < 0); omega), fun ⟨i, hi, _⟩ => absurd hi (by omega)⟩
  | succ n ih =>
    intro h
    obtain ⟨h1, h2⟩ := ih (fun i hi => h i (by omega))
    have eQ : cntN Q (n + 1) = cntN Q n + (if Q n then 1 else 0) := rfl
    have eR : cntN R (n + 1) = cntN R n + (if R n then 1 else 0) := rfl
    have hn := h n (by omega)
    rw [eQ, eR]
    cases hq : Q n <;> cases hr : R n
    · refine ⟨by simpa using h1, ?_⟩
      simp only [Bool.false_eq_true, if_false, Nat.add_zero]
      rw [h2]
      constructor
      · rintro ⟨i, hi, a, b⟩; exact ⟨i, by omega, a, b⟩
      · rintro ⟨i, hi, a, b⟩
        by_cases g : i = n
        · subst g; rw [hr] at a; cases a
        · exact ⟨i, by omega, a, b⟩
    · simp only [Bool.false_eq_true, if_false, if_true, Nat.add_zero]
      exact ⟨by omega, fun _ => ⟨n, by omega, hr, hq⟩, fun _ => by omega⟩
    · rw [hq, hr] at hn
      exact absurd (hn rfl) (by decide)
    · simp only [if_true]
      refine ⟨by omega, ?_⟩
      constructor
      · intro g
        obtain ⟨i, hi, a, b⟩ := h2.mp (by omega)
        exact ⟨i, by omega, a, b⟩
      · rintro ⟨i, hi, a, b⟩
        by_cases g : i = n
        · subst g; rw [hq] at b; cases b
        · have := h2.mpr ⟨i, by omega, a, b⟩
          omega
theorem cntN_0 {Q : Nat → Bool} : ∀ n, cntN Q n = 0 ↔ ∀ i, i < n → Q i = false := by
  intro n
  induction n with
  | zero => exact ⟨fun _ i hi => absurd hi (by omega), fun _ => rfl⟩
  | succ n ih =>
    have eQ : cntN Q (n + 1) = cntN Q n + (if Q n then 1 else 0) := rfl
    rw [eQ]
    cases hq : Q n
    · simp only [Bool.false_eq_true, if_false, Nat.add_zero]
      rw [ih]
      constructor
      · intro h i hi
        by_cases g : i = n
        · subst g; exact hq
        · exact h i (by omega)
      · exact fun h i hi => h i (by omega)
    · simp only [if_true]
      exact ⟨fun h => absurd h (by omega), fun h => by have := h n (by omega); rw [hq] at this; cases this⟩
/-- spy i of those that fit knows TRAIN j -/
def knQ (F : Nat → Int32) (Y : Nat) (x : Int32) (j : Nat) : Nat → Bool := fun i => fitQ F Y x i && decide (bitOf (F (115 + i)) j = 1)
theorem kno_knQ (F : Nat → Int32) (Y : Nat) (x : Int32) (hY : Y ≤ 5) (j : Nat) : knoA F (fitA F x Y) j Y = nI (cntN (knQ F Y x j) Y) := by
  refine kno_cnt F (fitA F x Y) j (knQ F Y x j) Y (fun i hi => ?_)
  rw [bit_fit F x Y (by omega) (by omega)]
  unfold knQ fitQ
  by_cases c : i < Y ∧ (x &&& (F (115 + i) ^^^ (-1 : Int32))) = 0
  · rw [if_pos c, decide_eq_true c, Bool.true_and, Int32.one_mul]
    rcases bit01 (F (115 + i)) j with e | e
    · rw [e, decide_eq_false (by decide)]; rfl
    · rw [e, decide_eq_true rfl]; rfl
  · rw [if_neg c, decide_eq_false c, Bool.false_and, Int32.zero_mul]; rfl
def kaA (F : Nat → Int32) (S : Nat) (f : Int32) : Nat → Int32
  | 0 => if f = 0 then 0 else nI (S - 1)
  | i + 1 => if bitOf f i = 0 then kaA F S f i else kaA F S f i &&& F (115 + i)
def ksA (F : Nat → Int32) (f : Int32) : Nat → Int32
  | 0 => 0
  | i + 1 => if bitOf f i = 0 then ksA F f i else ksA F f i ||| F (115 + i)
theorem V_all {s : St} {F : Nat → Int32} {M T S E A U Y L P N : Nat} (v : VW s F M T S E A U Y L P N) (x : Int32) : f_X8_knownToAll x s = some (kaA F S (fitA F x Y) Y, s) := by
  have hY := v.2.2.hY
  have hb := v.2.2
  have h5 := hb.S512
  have hsets : f_X10_sets 1 s = some (nI S, s) := by
    unfold f_X10_sets
    rw [isW_lit (Or.inl rfl), gd_tt, show gf s (1 + 2) 3 = nI T from hb.cT, nI_shl (by have := hb.hT; omega), ← hb.hS, if_neg (show ¬ (512 : Int32) < nI S from nI_nlt (b := S) (a := 512) (by omega) (by omega))]
  have hpr : nI S - 1 = nI (S - 1) := by
    obtain ⟨k, e⟩ : ∃ k, S = k + 1 := ⟨S - 1, by omega⟩
    rw [e, nI_pred, Nat.add_sub_cancel]
  have key : f_X8_knownToAll_23 (fitA F x Y) (if fitA F x Y = 0 then 0 else nI (S - 1)) s = some (kaA F S (fitA F x Y) Y, s) := by
    unfold f_X8_knownToAll_23
    refine itr_cnt (fun i => (fitA F x Y, kaA F S (fitA F x Y) i, nI i, s)) Y _ (fun i K hi => ?_) (fun K => ?_) Y 0 FU (by omega) (by unfold FU; omega)
    · unfold g_X8_knownToAll_27 f_X8_knownToAll_60 f_X8_knownTo
      dsimp only
      rw [show gf s 11 3 = nI Y from v.2.2.cY, if_neg (lt_ge hi (by omega)), S_isIn, bd_mk, V_c11 v hi, bd_mk, bd_mk, nI_1]
      show _ = K (fitA F x Y, (if bitOf (fitA F x Y) i = 0 then kaA F S (fitA F x Y) i else kaA F S (fitA F x Y) i &&& F (115 + i)), nI (i + 1), s)
      by_cases c : bitOf (fitA F x Y) i = 0
      · rw [if_pos c, if_pos c]
        rfl
      · rw [if_neg c, if_neg c]
        rfl
    · unfold g_X8_knownToAll_27
      dsimp only
      rw [show gf s 11 3 = nI Y from v.2.2.cY, if_pos (le_rf Y)]
  unfold f_X8_knownToAll
  rw [V_fit v, bd_mk, hsets, bd_mk, hpr]
  by_cases c : fitA F x Y = 0
  · rw [if_pos c] at key ⊢
    exact key
  · rw [if_neg c] at key ⊢
    exact key
theorem V_some {s : St} {F : Nat → Int32} {M T S E A U Y L P N : Nat} (v : VW s F M T S E A U Y L P N) (x : Int32) : f_X8_knownToSome x s = some (ksA F (fitA F x Y) Y, s) := by
  have hY := v.2.2.hY
  unfold f_X8_knownToSome
  rw [V_fit v, bd_mk]
  refine itr_cnt (fun i => (fitA F x Y, ksA F (fitA F x Y) i, nI i, s)) Y _ (fun i K hi => ?_) (fun K => ?_) Y 0 FU (by omega) (by unfold FU; omega)
  · unfold g_X8_knownToSome_11 f_X8_knownToSome_44 f_X8_knownTo
    dsimp only
    rw [show gf s 11 3 = nI Y from v.2.2.cY, if_neg (lt_ge hi (by omega)), S_isIn, bd_mk, V_c11 v hi, bd_mk, bd_mk, nI_1]
    show _ = K (fitA F x Y, (if bitOf (fitA F x Y) i = 0 then ksA F (fitA F x Y) i else ksA F (fitA F x Y) i ||| F (115 + i)), nI (i + 1), s)
    by_cases c : bitOf (fitA F x Y) i = 0
    · rw [if_pos c, if_pos c]
      rfl
    · rw [if_neg c, if_neg c]
      rfl
  · unfold g_X8_knownToSome_11
    dsimp only
    rw [show gf s 11 3 = nI Y from v.2.2.cY, if_pos (le_rf Y)]
/-- the reference's, by a need -/
def krA (F : Nat → Int32) (Y : Nat) (f need : Int32) : Nat → Int32
  | 0 => 0
  | j + 1 => if f = 0 then krA F Y f need j else krA F Y f need j ||| (if knoA F f j Y < need then 0 else (1 : Int32) <<< (nI j &&& 31))
theorem kr_lsb (F : Nat → Int32) (Y : Nat) (f need : Int32) {j : Nat} (hj : j < 32) : ∀ n, n ≤ 9 → (krA F Y f need n).toBitVec.getLsbD j = decide (j < n ∧ ¬ f = 0 ∧ ¬ knoA F f j Y < need) := by
  intro n
  induction n with
  | zero =>
    intro _
    rw [decide_eq_false (by omega)]
    exact lsb_0 j
  | succ n ih =>
    intro hn
    have e : krA F Y f need (n + 1) = if f = 0 then krA F Y f need n else krA F Y f need n ||| (if knoA F f n Y < need then 0 else (1 : Int32) <<< (nI n &&& 31)) := rfl
    rw [e]
    by_cases c : f = 0
    · rw [if_pos c, ih (by omega), decide_eq_false (fun z => z.2.1 c), decide_eq_false (fun z => z.2.1 c)]
    · rw [if_neg c, Int32.toBitVec_or, BitVec.getLsbD_or, ih (by omega)]
      by_cases g : knoA F f n Y < need
      · rw [if_pos g, lsb_0, Bool.or_false]
        apply decide_eq_decide.mpr
        constructor
        · exact fun z => ⟨by omega, z.2⟩
        · intro z
          refine ⟨?_, z.2⟩
          by_cases h : j = n
          · subst h; exact absurd g z.2.2
          · omega
      · rw [if_neg g, lsb_sh (by omega) hj]
        by_cases h : j = n
        · subst h
          rw [decide_eq_true (rfl : j = j), Bool.or_true, decide_eq_true ⟨by omega, c, g⟩]
        · rw [decide_eq_false h, Bool.or_false]
          apply decide_eq_decide.mpr
          constructor
          · exact fun z => ⟨by omega, z.2⟩
          · exact fun z => ⟨by omega, z.2⟩
theorem spy_lsb {s : St} {F : Nat → Int32} {M T S E A U Y L P N : Nat} (v : VW s F M T S E A U Y L P N) {i j : Nat} (hi : i < Y) (hj : j < 32) : (F (115 + i)).toBitVec.getLsbD j = decide (j < T ∧ bitOf (F (115 + i)) j = 1) := by
  have hT := v.2.2.hT
  obtain ⟨f, hf, hf5, e⟩ := v.spy hi
  by_cases c : j < T
  · rw [bit_lsb _ (show j < 31 by omega)]
    cases (F (115 + i)).toBitVec.getLsbD j
    · symm; apply decide_eq_false; intro z; exact absurd z.2 (by decide)
    · symm; apply decide_eq_true; exact ⟨c, rfl⟩
  · rw [decide_eq_false (fun z => c z.1), e, lsb_nI hf5 hj]
    apply Nat.testBit_lt_two_pow
    exact Nat.lt_of_lt_of_le hf (Nat.pow_le_pow_right (by decide) (by omega))
theorem ka_lsb {s : St} {F : Nat → Int32} {M T S E A U Y L P N : Nat} (v : VW s F M T S E A U Y L P N) (x : Int32) {j : Nat} (hj : j < 32) : ∀ n, n ≤ Y → (kaA F S (fitA F x Y) n).toBitVec.getLsbD j = decide (¬ fitA F x Y = 0 ∧ j < T ∧ ∀ i, i < n → fitQ F Y x i = true → bitOf (F (115 + i)) j = 1) := by
  have hY := v.2.2.hY
  have hb := v.2.2
  have h5 := hb.S512
  intro n
  induction n with
  | zero =>
    intro _
    show (if fitA F x Y = 0 then 0 else nI (S - 1)).toBitVec.getLsbD j = _
    by_cases c : fitA F x Y = 0
    · rw [if_pos c, lsb_0, decide_eq_false (fun z => z.1 c)]
    · rw [if_neg c, lsb_nI (by omega) hj, hb.hS, Nat.testBit_two_pow_sub_one]
      apply decide_eq_decide.mpr
      constructor
      · exact fun z => ⟨c, z, fun i hi => absurd hi (by omega)⟩
      · exact fun z => z.2.1
  | succ n ih =>
    intro hn
    have hQ : bitOf (fitA F x Y) n = if fitQ F Y x n then 1 else 0 := by
      rw [bit_fit F x Y (by omega) (by omega)]
      unfold fitQ
      by_cases c : n < Y ∧ (x &&& (F (115 + n) ^^^ (-1 : Int32))) = 0
      · rw [if_pos c, decide_eq_true c]; rfl
      · rw [if_neg c, decide_eq_false c]; rfl
    have e : kaA F S (fitA F x Y) (n + 1) = if bitOf (fitA F x Y) n = 0 then kaA F S (fitA F x Y) n else kaA F S (fitA F x Y) n &&& F (115 + n) := rfl
    rw [e, hQ]
    cases hq : fitQ F Y x n
    · rw [if_neg (show ¬ (false = true) from by decide), if_pos rfl, ih (by omega)]
      apply decide_eq_decide.mpr
      constructor
      · rintro ⟨a, b, c⟩
        refine ⟨a, b, fun i hi h => ?_⟩
        by_cases g : i = n
        · subst g; rw [hq] at h; cases h
        · exact c i (by omega) h
      · rintro ⟨a, b, c⟩
        exact ⟨a, b, fun i hi h => c i (by omega) h⟩
    · rw [if_pos rfl, if_neg n10, Int32.toBitVec_and, BitVec.getLsbD_and, ih (by omega), spy_lsb v (by omega) hj, ← Bool.decide_and]
      apply decide_eq_decide.mpr
      constructor
      · rintro ⟨⟨a, b, c⟩, d⟩
        refine ⟨a, b, fun i hi h => ?_⟩
        by_cases g : i = n
        · subst g; exact d.2
        · exact c i (by omega) h
      · rintro ⟨a, b, c⟩
        exact ⟨⟨a, b, fun i hi h => c i (by omega) h⟩, b, c n (by omega) hq⟩
theorem ks_lsb {s : St} {F : Nat → Int32} {M T S E A U Y L P N : Nat} (v : VW s F M T S E A U Y L P N) (x : Int32) {j : Nat} (hj : j < 32) : ∀ n, n ≤ Y → (ksA F (fitA F x Y) n).toBitVec.getLsbD j = decide (j < T ∧ ∃ i, i < n ∧ fitQ F Y x i = true ∧ bitOf (F (115 + i)) j = 1) := by
  have hY := v.2.2.hY
  intro n
  induction n with
  | zero =>
    intro _
    rw [decide_eq_false (by rintro ⟨-, i, hi, -⟩; omega)]
    exact lsb_0 j
  | succ n ih =>
    intro hn
    have hQ : bitOf (fitA F x Y) n = if fitQ F Y x n then 1 else 0 := by
      rw [bit_fit F x Y (by omega) (by omega)]
      unfold fitQ
      by_cases c : n < Y ∧ (x &&& (F (115 + n) ^^^ (-1 : Int32))) = 0
      · rw [if_pos c, decide_eq_true c]; rfl
      · rw [if_neg c, decide_eq_false c]; rfl
    have e : ksA F (fitA F x Y) (n + 1) = if bitOf (fitA F x Y) n = 0 then ksA F (fitA F x Y) n else ksA F (fitA F x Y) n ||| F (115 + n) := rfl
    rw [e, hQ]
    cases hq : fitQ F Y x n
    · rw [if_neg (show ¬ (false = true) from by decide), if_pos rfl, ih (by omega)]
      apply decide_eq_decide.mpr
      constructor
      · rintro ⟨a, i, hi, b, c⟩
        exact ⟨a, i, by omega, b, c⟩
      · rintro ⟨a, i, hi, b, c⟩
        by_cases g : i = n
        · subst g; rw [hq] at b; cases b
        · exact ⟨a, i, by omega, b, c⟩
    · rw [if_pos rfl, if_neg n10, Int32.toBitVec_or, BitVec.getLsbD_or, ih (by omega), spy_lsb v (by omega) hj, ← Bool.decide_or]
      apply decide_eq_decide.mpr
      constructor
      · rintro (⟨a, i, hi, b, c⟩ | ⟨a, b⟩)
        · exact ⟨a, i, by omega, b, c⟩
        · exact ⟨a, n, by omega, hq, b⟩
      · rintro ⟨a, i, hi, b, c⟩
        by_cases g : i = n
        · subst g; exact Or.inr ⟨a, c⟩
        · exact Or.inl ⟨a, i, by omega, b, c⟩
theorem fit_ne {s : St} {F : Nat → Int32} {M T S E A U Y L P N : Nat} (v : VW s F M T S E A U Y L P N) (x : Int32) {i : Nat} (h : fitQ F Y x i = true) : ¬ fitA F x Y = 0 := by
  have hY := v.2.2.hY
  intro z
  have hi : i < Y ∧ (x &&& (F (115 + i) ^^^ (-1 : Int32))) = 0 := by
    unfold fitQ at h
    exact of_decide_eq_true h
  have := bit_fit F x Y (by omega) (i := i) (by omega)
  rw [if_pos hi, z] at this
  have h0 : ∀ i, i < 5 → bitOf 0 i = 0 := fun i hi => bit_0 i (by omega)
  rw [h0 i (by omega)] at this
  exact absurd this (by decide)
theorem known_all {s : St} {F : Nat → Int32} {M T S E A U Y L P N : Nat} (v : VW s F M T S E A U Y L P N) (x : Int32) : kaA F S (fitA F x Y) Y = krA F Y (fitA F x Y) (bitsA (fitA F x Y) 12) T := by
  have hY := v.2.2.hY
  have hT := v.2.2.hT
  apply Int32.toBitVec.inj
  apply BitVec.eq_of_getLsbD_eq
  intro j hj
  rw [ka_lsb v x hj Y (by omega), kr_lsb F Y _ _ hj T (by omega)]
  apply decide_eq_decide.mpr
  have hsub : ∀ i, i < Y → knQ F Y x j i = true → fitQ F Y x i = true := fun i _ h => by
    unfold knQ at h
    rw [Bool.and_eq_true] at h
    exact h.1
  have hlt := (cntN_lt (Q := knQ F Y x j) (R := fitQ F Y x) Y hsub).2
  have hiff : knoA F (fitA F x Y) j Y < bitsA (fitA F x Y) 12 ↔ ∃ i, i < Y ∧ fitQ F Y x i = true ∧ knQ F Y x j i = false := by
    have q1 := cntN_le (knQ F Y x j) Y
    have q2 := cntN_le (fitQ F Y x) Y
    rw [kno_knQ F Y x hY j, fit_bits F Y x hY, nI_ltI (by omega) (by omega)]
    exact hlt
  constructor
  · rintro ⟨a, b, c⟩
    refine ⟨b, a, fun z => ?_⟩
    obtain ⟨i, hi, h1, h2⟩ := hiff.mp z
    unfold knQ at h2
    rw [h1, Bool.true_and, decide_eq_true (c i hi h1)] at h2
    cases h2
  · rintro ⟨a, b, c⟩
    refine ⟨b, a, fun i hi h => ?_⟩
    rcases bit01 (F (115 + i)) j with e | e
    · exfalso
      refine c (hiff.mpr ⟨i, hi, h, ?_⟩)
      unfold knQ
      rw [h, Bool.true_and, e]
      decide
    · exact e
theorem known_some {s : St} {F : Nat → Int32} {M T S E A U Y L P N : Nat} (v : VW s F M T S E A U Y L P N) (x : Int32) : ksA F (fitA F x Y) Y = krA F Y (fitA F x Y) 1 T := by
  have hY := v.2.2.hY
  have hT := v.2.2.hT
  apply Int32.toBitVec.inj
  apply BitVec.eq_of_getLsbD_eq
  intro j hj
  rw [ks_lsb v x hj Y (by omega), kr_lsb F Y _ _ hj T (by omega)]
  apply decide_eq_decide.mpr
  have hiff : knoA F (fitA F x Y) j Y < 1 ↔ ∀ i, i < Y → knQ F Y x j i = false := by
    have q1 := cntN_le (knQ F Y x j) Y
    rw [kno_knQ F Y x hY j, show (1 : Int32) = nI 1 from rfl, nI_ltI (by omega) (by omega), ← cntN_0]
    omega
  constructor
  · rintro ⟨a, i, hi, h, c⟩
    refine ⟨a, fit_ne v x h, fun z => ?_⟩
    have := hiff.mp z i hi
    unfold knQ at this
    rw [h, Bool.true_and, decide_eq_true c] at this
    cases this
  · rintro ⟨a, b, c⟩
    refine ⟨a, ?_⟩
    by_cases g : ∃ i, i < Y ∧ knQ F Y x j i = true
    · obtain ⟨i, hi, h⟩ := g
      unfold knQ at h
      rw [Bool.and_eq_true] at h
      exact ⟨i, hi, h.1, of_decide_eq_true h.2⟩
    · exfalso
      refine c (hiff.mpr (fun i hi => ?_))
      cases h : knQ F Y x j i
      · rfl
      · exact absurd ⟨i, hi, h⟩ g
theorem S_isPart (p : Int32) (σ : St) : f_X11_isPart p σ = some (b2 (p = 0 ∨ p = 1), σ) := by
  unfold f_X11_isPart f_X11_isPart_9 f_X11_isPart_14
  rw [bz_1, bz_0, gd_tt, gd_tt]
  by_cases c0 : p = 0
  · rw [if_pos c0, b2_t (Or.inl c0)]
  · rw [if_neg c0]
    by_cases c1 : p = 1
    · rw [if_pos c1, b2_t (Or.inr c1)]
    · rw [if_neg c1, b2_f (fun z => z.elim c0 c1)]
theorem D_known (a b : Int32) (σ : St) (hI : IV σ) : ∃ r s1 s2, f_X11_known a b σ = some (r, s1) ∧ f_X12_known a b s1 = some (r, s2) ∧ IV s2 := by
  obtain ⟨M, T, S, E, A, U, Y, L, P, N, v⟩ := hI.vw
  have hT := v.2.2.hT
  unfold f_X11_known f_X11_known_18 f_X11_known_44 f_X12_known f_X12_known_18
  rw [S_hasSet v, bd_mk]
  by_cases c : 1 ≤ N ∧ 0 ≤ a.toInt ∧ a.toInt < S
  · rw [b2_t c, if_neg n10, S_isPart, bd_mk]
    by_cases c1 : b = 0 ∨ b = 1
    · rw [b2_t c1, if_neg n10]
      have ref : f_X12_known a b σ = some (krA (gr σ 59) Y (fitA (gr σ 59) a Y) (if b = 0 then bitsA (fitA (gr σ 59) a Y) 12 else 1) T, σ) := by
        unfold f_X12_known f_X12_known_18
        rw [S_areTrains v, bd_mk, b2_t c, if_neg n10, S_in, b2_t ((side_in b).mpr c1), bd_mk, if_neg n10, M_fit v, bd_mk]
        refine itr_cnt (fun j => (b, fitA (gr σ 59) a Y, krA (gr σ 59) Y (fitA (gr σ 59) a Y) (if b = 0 then bitsA (fitA (gr σ 59) a Y) 12 else 1) j, nI j, σ)) T _ (fun j K hj => ?_) (fun K => ?_) T 0 FU (by omega) (by unfold FU; omega)
        · unfold g_X12_known_33 f_X12_known_69 f_X12_known_80 f_X12_known_83
          dsimp only
          rw [show inb (4 : Int32) (ln 59) = true from rfl, gd_tt, show gr σ 59 (4 : Int32).toNatClampNeg = nI T from v.2.2.mT, if_neg (lt_ge hj (by omega)), M_knowing v, bd_mk, S_bits, bd_mk, nI_1]
          show _ = K (b, fitA (gr σ 59) a Y, (if fitA (gr σ 59) a Y = 0 then krA (gr σ 59) Y (fitA (gr σ 59) a Y) (if b = 0 then bitsA (fitA (gr σ 59) a Y) 12 else 1) j else krA (gr σ 59) Y (fitA (gr σ 59) a Y) (if b = 0 then bitsA (fitA (gr σ 59) a Y) 12 else 1) j ||| (if knoA (gr σ 59) (fitA (gr σ 59) a Y) j Y < (if b = 0 then bitsA (fitA (gr σ 59) a Y) 12 else 1) then 0 else (1 : Int32) <<< (nI j &&& 31))), nI (j + 1), σ)
          by_cases g0 : fitA (gr σ 59) a Y = 0
          · rw [if_pos g0, if_pos g0]
            rfl
          · rw [if_neg g0, if_neg g0]
            by_cases g1 : b = 0
            · rw [if_pos g1, if_pos g1]
              by_cases g2 : knoA (gr σ 59) (fitA (gr σ 59) a Y) j Y < bitsA (fitA (gr σ 59) a Y) 12
              · rw [if_pos g2, if_pos g2]
                rfl
              · rw [if_neg g2, if_neg g2]
                rfl
            · rw [if_neg g1, if_neg g1]
              by_cases g2 : knoA (gr σ 59) (fitA (gr σ 59) a Y) j Y < 1
              · rw [if_pos g2, if_pos g2]
                rfl
              · rw [if_neg g2, if_neg g2]
                rfl
        · unfold g_X12_known_33
          dsimp only
          rw [show inb (4 : Int32) (ln 59) = true from rfl, gd_tt, show gr σ 59 (4 : Int32).toNatClampNeg = nI T from v.2.2.mT, if_pos (le_rf T)]
      unfold f_X12_known f_X12_known_18 at ref
      by_cases g1 : b = 0
      · refine ⟨_, σ, σ, by rw [if_pos g1, V_all v, bd_mk], ?_, hI⟩
        rw [ref, if_pos g1, known_all v]
      · refine ⟨_, σ, σ, by rw [if_neg g1, V_some v, bd_mk], ?_, hI⟩
        rw [ref, if_neg g1, known_some v]
    · refine ⟨-2, σ, σ, by rw [b2_f c1, if_pos rfl], ?_, hI⟩
      rw [S_areTrains v, bd_mk, b2_t c, if_neg n10, S_in, b2_f (fun z => c1 ((side_in b).mp z)), bd_mk, if_pos rfl]
  · refine ⟨-2, σ, σ, by rw [b2_f c, if_pos rfl], ?_, hI⟩
    rw [S_areTrains v, bd_mk, b2_f c, if_pos rfl]
