/-! ===== values: the answer to a purse ===== -/
def mxA (Q : Nat → Prop) [DecidablePred Q] (g : Nat → Int32) : Nat → Int32
  | 0 => -1000000
  | i + 1 => if Q i then (if mxA Q g i < g i then g i else mxA Q g i) else mxA Q g i
def miA (Q : Nat → Prop) [DecidablePred Q] (g : Nat → Int32) : Nat → Int32
  | 0 => 1000000
  | i + 1 => if Q i then (if g i < miA Q g i then g i else miA Q g i) else miA Q g i
theorem mx_s (Q : Nat → Prop) [DecidablePred Q] (g : Nat → Int32) (i : Nat) : mxA Q g (i + 1) = if Q i then (if mxA Q g i < g i then g i else mxA Q g i) else mxA Q g i := rfl
theorem mi_s (Q : Nat → Prop) [DecidablePred Q] (g : Nat → Int32) (i : Nat) : miA Q g (i + 1) = if Q i then (if g i < miA Q g i then g i else miA Q g i) else miA Q g i := rfl
theorem mx_step (Q : Nat → Prop) [DecidablePred Q] (g : Nat → Int32) (i : Nat) : (mxA Q g i).toInt ≤ (mxA Q g (i + 1)).toInt ∧ (Q i → (g i).toInt ≤ (mxA Q g (i + 1)).toInt) := by
  rw [mx_s]
  by_cases c : Q i
  · rw [if_pos c]
    by_cases c1 : mxA Q g i < g i
    · rw [if_pos c1]
      rw [lt_toInt] at c1
      exact ⟨by omega, fun _ => by omega⟩
    · rw [if_neg c1]
      rw [lt_toInt] at c1
      exact ⟨by omega, fun _ => by omega⟩
  · rw [if_neg c]
    exact ⟨Int.le_refl _, fun z => absurd z c⟩
theorem mx_ge (Q : Nat → Prop) [DecidablePred Q] (g : Nat → Int32) : ∀ n, -1000000 ≤ (mxA Q g n).toInt ∧ ∀ i, i < n → Q i → (g i).toInt ≤ (mxA Q g n).toInt := by
  intro n
  induction n with
  | zero =>
    refine ⟨?_, fun i hi => absurd hi (by omega)⟩
    show -1000000 ≤ (-1000000 : Int32).toInt
    decide
  | succ n ih =>
    obtain ⟨h1, h2⟩ := mx_step Q g n
    refine ⟨Int.le_trans ih.1 h1, fun i hi hq => ?_⟩
    by_cases e : i = n
    · subst e
      exact h2 hq
    · exact Int.le_trans (ih.2 i (by omega) hq) h1
theorem mx_at (Q : Nat → Prop) [DecidablePred Q] (g : Nat → Int32) : ∀ n, mxA Q g n = -1000000 ∨ ∃ i, i < n ∧ Q i ∧ mxA Q g n = g i := by
  intro n
  induction n with
  | zero => exact Or.inl rfl
  | succ n ih =>
    rw [mx_s]
    have old : mxA Q g n = -1000000 ∨ ∃ i, i < n + 1 ∧ Q i ∧ mxA Q g n = g i := by
      rcases ih with h | ⟨i, hi, h⟩
      · exact Or.inl h
      · exact Or.inr ⟨i, by omega, h⟩
    by_cases c : Q n
    · rw [if_pos c]
      by_cases c1 : mxA Q g n < g n
      · rw [if_pos c1]
        exact Or.inr ⟨n, by omega, c, rfl⟩
      · rw [if_neg c1]
        exact old
    · rw [if_neg c]
      exact old
theorem mx_le (Q Q' : Nat → Prop) [DecidablePred Q] [DecidablePred Q'] (g g' : Nat → Int32) (n n' : Nat) (h : ∀ i, i < n → Q i → ∃ j, j < n' ∧ Q' j ∧ g i = g' j) : (mxA Q g n).toInt ≤ (mxA Q' g' n').toInt := by
  obtain ⟨b1, b2'⟩ := mx_ge Q' g' n'
  rcases mx_at Q g n with e | ⟨i, hi, hq, e⟩
  · rw [e]
    have z : (-1000000 : Int32).toInt = -1000000 := by decide
    rw [z]
    exact b1
  · obtain ⟨j, hj, hq', e'⟩ := h i hi hq
    rw [e, e']
    exact b2' j hj hq'
theorem mx_eq (Q Q' : Nat → Prop) [DecidablePred Q] [DecidablePred Q'] (g g' : Nat → Int32) (n n' : Nat) (h : ∀ i, i < n → Q i → ∃ j, j < n' ∧ Q' j ∧ g i = g' j) (h' : ∀ j, j < n' → Q' j → ∃ i, i < n ∧ Q i ∧ g' j = g i) : mxA Q g n = mxA Q' g' n' :=
  Int32.toInt_inj.mp (Int.le_antisymm (mx_le Q Q' g g' n n' h) (mx_le Q' Q g' g n' n h'))
theorem mi_mx (Q : Nat → Prop) [DecidablePred Q] (g g' : Nat → Int32) (h : ∀ i, (g' i).toInt = -(g i).toInt) : ∀ n, (mxA Q g' n).toInt = -(miA Q g n).toInt := by
  intro n
  induction n with
  | zero =>
    show (-1000000 : Int32).toInt = -(1000000 : Int32).toInt
    decide
  | succ n ih =>
    rw [mx_s, mi_s]
    have hn := h n
    by_cases c : Q n
    · rw [if_pos c, if_pos c]
      by_cases c1 : g n < miA Q g n
      · rw [if_pos c1, if_pos]
        · exact hn
        · rw [lt_toInt] at c1 ⊢
          omega
      · rw [if_neg c1, if_neg]
        · exact ih
        · rw [lt_toInt] at c1 ⊢
          omega
    · rw [if_neg c, if_neg c]
      exact ih
theorem mi_congr (Q : Nat → Prop) [DecidablePred Q] (g g' : Nat → Int32) : ∀ n, (∀ i, i < n → Q i → g i = g' i) → miA Q g n = miA Q g' n := by
  intro n
  induction n with
  | zero => exact fun _ => rfl
  | succ n ih =>
    intro h
    rw [mi_s, mi_s, ih (fun i hi => h i (by omega))]
    by_cases c : Q n
    · rw [if_pos c, if_pos c, h n (by omega) c]
    · rw [if_neg c, if_neg c]
/-! sets and their sides -/
def hiN (i k : Nat) : Nat := i ^^^ (i &&& k)
theorem hi_bit (i k j : Nat) : (hiN i k).testBit j = (i.testBit j && !k.testBit j) := by
  unfold hiN
  rw [Nat.testBit_xor, Nat.testBit_and]
  cases i.testBit j <;> cases k.testBit j <;> rfl
theorem hi_lt {i k t : Nat} (hi : i < 2 ^ t) : hiN i k < 2 ^ t := Nat.xor_lt_two_pow hi (Nat.lt_of_le_of_lt Nat.and_le_left hi)
theorem lo_lt {i k n : Nat} (hi : i < n) : i &&& k < n := Nat.lt_of_le_of_lt Nat.and_le_left hi
theorem nI_hi {i k : Nat} (hi : i < 512) (hk : k < 512) : nI i &&& (nI k ^^^ (-1 : Int32)) = nI (hiN i k) := by
  apply Int32.toBitVec.inj
  apply BitVec.eq_of_getLsbD_eq
  intro j hj
  have h3 : (Int32.toBitVec (-1)).getLsbD j = true := by
    show (BitVec.allOnes 32).getLsbD j = true
    rw [BitVec.getLsbD_allOnes]
    exact decide_eq_true hj
  rw [Int32.toBitVec_and, Int32.toBitVec_xor, BitVec.getLsbD_and, BitVec.getLsbD_xor, lsb_nI hi hj, lsb_nI hk hj, lsb_nI (hi_lt (t := 9) hi) hj, hi_bit, h3]
  cases i.testBit j <;> cases k.testBit j <;> rfl
theorem sub_hi {i k : Nat} (hi : i < 512) (hk : k < 512) : (nI i &&& (nI k ^^^ (-1 : Int32))) = 0 ↔ hiN i k = 0 := by
  have h := hi_lt (k := k) (t := 9) hi
  rw [nI_hi hi hk, show (0 : Int32) = nI 0 from rfl, nI_eq (by omega) (by omega)]
theorem bitz {n : Nat} (h : n = 0) (j : Nat) : n.testBit j = false := by rw [h, Nat.zero_testBit]
theorem hi0_lo {i k : Nat} (h : hiN i k = 0) : i &&& k = i := by
  apply Nat.eq_of_testBit_eq
  intro j
  have h' := bitz h j
  rw [hi_bit] at h'
  rw [Nat.testBit_and]
  revert h'
  cases i.testBit j <;> cases k.testBit j <;> decide
theorem lo_or_hi (i k : Nat) : (i &&& k) ||| hiN i k = i := by
  apply Nat.eq_of_testBit_eq
  intro j
  rw [Nat.testBit_or, Nat.testBit_and, hi_bit]
  cases i.testBit j <;> cases k.testBit j <;> rfl
theorem lo_hi0 (i k : Nat) : hiN (i &&& k) k = 0 := by
  apply Nat.eq_of_testBit_eq
  intro j
  rw [hi_bit, Nat.testBit_and, Nat.zero_testBit]
  cases i.testBit j <;> cases k.testBit j <;> rfl
theorem hi_lo0 (i k : Nat) : hiN i k &&& k = 0 := by
  apply Nat.eq_of_testBit_eq
  intro j
  rw [Nat.testBit_and, hi_bit, Nat.zero_testBit]
  cases i.testBit j <;> cases k.testBit j <;> rfl
theorem or_lo {x y k : Nat} (hx : hiN x k = 0) (hy : y &&& k = 0) : (x ||| y) &&& k = x := by
  apply Nat.eq_of_testBit_eq
  intro j
  have a := bitz hx j
  have b := bitz hy j
  rw [hi_bit] at a
  rw [Nat.testBit_and] at b
  rw [Nat.testBit_and, Nat.testBit_or]
  revert a b
  cases x.testBit j <;> cases y.testBit j <;> cases k.testBit j <;> decide
theorem or_hi {x y k : Nat} (hx : hiN x k = 0) (hy : y &&& k = 0) : hiN (x ||| y) k = y := by
  apply Nat.eq_of_testBit_eq
  intro j
  have a := bitz hx j
  have b := bitz hy j
  rw [hi_bit] at a
  rw [Nat.testBit_and] at b
  rw [hi_bit, Nat.testBit_or]
  revert a b
  cases x.testBit j <;> cases y.testBit j <;> cases k.testBit j <;> decide
theorem mask_c {T k k' y : Nat} (hm : ∀ t, t < T → k'.testBit t = !k.testBit t) (hy : y < 2 ^ T) : hiN y k' = y &&& k := by
  apply Nat.eq_of_testBit_eq
  intro j
  rw [hi_bit, Nat.testBit_and]
  by_cases hj : j < T
  · rw [hm j hj, Bool.not_not]
  · rw [Nat.testBit_lt_two_pow (Nat.lt_of_lt_of_le hy (Nat.pow_le_pow_right (by decide) (by omega))), Bool.false_and, Bool.false_and]
theorem VW.sid {s : St} {F : Nat → Int32} {M T S E A U Y L P N : Nat} (v : VW s F M T S E A U Y L P N) {t : Nat} (ht : t < T) : F (13 + 6 * t + 0) = nI 0 ∨ F (13 + 6 * t + 0) = nI 1 := by
  have hT := v.2.2.hT
  obtain ⟨k, a1, a2, a3, a4⟩ := v.1.2.1
  obtain rfl : T = k := (nI_eq (by omega) (by omega)).mp (v.2.2.cT.symm.trans a2)
  have h1 : (0 : Int) ≤ (F (13 + 6 * t + 0)).toInt ∧ (F (13 + 6 * t + 0)).toInt ≤ 1 := (a4 t ht 0 (by omega)).2
  obtain ⟨a, ha, e⟩ := nI_ofT (x := F (13 + 6 * t + 0)) (n := 1) h1.1 h1.2
  rw [e]
  rcases Nat.eq_zero_or_pos a with z | z
  · exact Or.inl (by rw [z])
  · exact Or.inr (by rw [show a = 1 by omega])
theorem masks {s : St} {F : Nat → Int32} {M T S E A U Y L P N : Nat} (v : VW s F M T S E A U Y L P N) {q k k' : Nat} (hq : q < 2) (hk : k < 2 ^ T) (hk' : k' < 2 ^ T) (ek : tofA F (nI q) T = nI k) (ek' : tofA F (nI (1 - q)) T = nI k') : ∀ t, t < T → k'.testBit t = !k.testBit t := by
  have hT := v.2.2.hT
  intro t ht
  have h1 := tof_bits hT hk ek t ht
  have h2 := tof_bits hT hk' ek' t ht
  have e : F (13 + 6 * t + 0) = nI (1 - q) ↔ ¬ F (13 + 6 * t + 0) = nI q := by
    have n01 : ¬ nI 0 = nI 1 := by decide
    have n10' : ¬ nI 1 = nI 0 := by decide
    have hq' : q = 0 ∨ q = 1 := by omega
    rcases v.sid ht with e | e <;> rcases hq' with e2 | e2 <;> rw [e, e2]
    · exact ⟨fun z => absurd z n01, fun z => absurd rfl z⟩
    · exact ⟨fun _ => n01, fun _ => rfl⟩
    · exact ⟨fun _ => n10', fun _ => rfl⟩
    · exact ⟨fun z => absurd z n10', fun z => absurd rfl z⟩
  rw [e] at h2
  cases hb : k.testBit t
  · rw [hb] at h1
    exact h2.mpr (fun z => absurd (h1.mpr z) (by decide))
  · cases hb' : k'.testBit t
    · rfl
    · exact absurd (h1.mp hb) (h2.mp hb')
abbrev bgQ (F : Nat → Int32) (T : Nat) (m : Int32) (k i : Nat) : Prop := ¬ m < prcA F (nI (i &&& k)) T ∧ ¬ m < prcA F (nI (hiN i k)) T
abbrev loQ (F : Nat → Int32) (T : Nat) (m : Int32) (k x i : Nat) : Prop := bgQ F T m k i ∧ i &&& k = x
abbrev upQ (F : Nat → Int32) (T : Nat) (m : Int32) (k y i : Nat) : Prop := bgQ F T m k i ∧ hiN i k = y
theorem V_bgt {s : St} {F : Nat → Int32} {M T S E A U Y L P N : Nat} (v : VW s F M T S E A U Y L P N) {i k : Nat} (m : Int32) (hi : i < S) (hk : k < S) (h37 : ∀ x, x < S → gr s 37 x = prcA F (nI x) T) : f_X3_isBought (nI i) (nI k) m s = some (b2 (bgQ F T m k i), s) := by
  have h5 := v.2.2.S512
  have h1 : i &&& k < S := lo_lt hi
  have h2 : hiN i k < S := by
    rw [v.2.2.hS] at hi ⊢
    exact hi_lt hi
  unfold f_X3_isBought f_X3_isBought_41 f_X3_isBought_42
  rw [if_neg (nI_pos (by omega)), if_neg (show ¬ (512 : Int32) ≤ nI i from lt_ge (m := 512) (by omega) (by omega)), nI_hi (by omega) (by omega), nI_and i k (by omega) (by omega), inb_ln (n := 512) rfl (show i &&& k < 512 by omega) (by omega), gd_tt, inb_ln (n := 512) rfl (show hiN i k < 512 by omega) (by omega), gd_tt, nI_clamp (show i &&& k < 2 ^ 31 by omega), nI_clamp (show hiN i k < 2 ^ 31 by omega), h37 _ h1, h37 _ h2, bz_0, bz_1, gd_tt, gd_tt]
  by_cases c : m < prcA F (nI (i &&& k)) T
  · rw [if_pos c, b2_f (fun z => z.1 c)]
  · rw [if_neg c]
    by_cases c1 : m < prcA F (nI (hiN i k)) T
    · rw [if_pos c1, b2_f (fun z => z.2 c1)]
    · rw [if_neg c1, b2_t ⟨c, c1⟩]
theorem V_meet {s : St} {F : Nat → Int32} {M T S E A U Y L P N : Nat} (v : VW s F M T S E A U Y L P N) {q k : Nat} (m : Int32) (hk : k < S) (ek : tofA F (nI q) T = nI k) (h34 : ∀ x, x < S → gr s 34 x = frA F E T (nI x) M) : Ok (fun _ s' => Fr [37, 41, 42] s s' ∧ (∀ x, x < S → gr s' 37 x = prcA F (nI x) T) ∧ (∀ x, x < S → gr s' 41 x = mxA (loQ F T m k x) (gfA F M E T (nI q)) S) ∧ ∀ x, x < S → gr s' 42 x = miA (upQ F T m k x) (gfA F M E T (nI q)) S) (f_X3_meetAnswers (nI q) m s) := by
  have h5 := v.2.2.S512
  unfold f_X3_meetAnswers
  refine okB (V_prices v) ?_
  rintro _ s1 ⟨f1, g1⟩
  refine okB (V_fill (u := 41) (n := 512) (p := -1000000) (s := s1) ⟨by decide, by decide⟩ rfl (by omega)) ?_
  rintro _ s2 ⟨f2, g2⟩
  refine okB (V_fill (u := 42) (n := 512) (p := 1000000) (s := s2) ⟨by decide, by decide⟩ rfl (by omega)) ?_
  rintro _ s3 ⟨f3, g3⟩
  have f03 : Fr [37, 41, 42] s s3 := ((f1.mo (by simp)).tr (f2.mo (by simp))).tr (f3.mo (by simp))
  have v3 := v.fr f03 (by decide)
  rw [V_tof v3, bd_mk, ek]
  refine okC (fun (i : Nat) (y : Int32 × Int32 × Int32 × Int32 × St) => y.1 = nI q ∧ y.2.1 = m ∧ y.2.2.1 = nI k ∧ y.2.2.2.1 = nI i ∧ Fr [37, 41, 42] s y.2.2.2.2 ∧ (∀ x, x < S → gr y.2.2.2.2 37 x = prcA F (nI x) T) ∧ (∀ x, x < S → gr y.2.2.2.2 41 x = mxA (loQ F T m k x) (gfA F M E T (nI q)) i) ∧ ∀ x, x < S → gr y.2.2.2.2 42 x = miA (upQ F T m k x) (gfA F M E T (nI q)) i) S ?_ (i := 0) (by unfold FU; omega) (by omega) ⟨rfl, rfl, rfl, rfl, f03, fun x hx => by
    show gr s3 37 x = _
    rw [(f3.1 37 (by decide)).2.1, (f2.1 37 (by decide)).2.1]
    exact g1 x hx, fun x hx => by
    show gr s3 41 x = -1000000
    rw [(f3.1 41 (by decide)).2.1]
    exact g2 x (by omega), fun x hx => g3 x (by omega)⟩
  rintro i ⟨y1, y2, y3, y4, s4⟩ K hi ⟨e1, e2, e3, e4, hf, h37, h41, h42⟩ hK
  dsimp only at e1 e2 e3 e4 hf h37 h41 h42
  subst e1 e2 e3 e4
  have v4 := v.fr hf (by decide)
  unfold g_X3_meetAnswers_34
  dsimp only
  rw [V_sets v4, bd_mk]
  refine okI (fun g => okR ?_) (fun g => ?_)
  · have : i = S := by
      rw [le_toInt, nI_toInt (by omega), nI_toInt (by omega)] at g
      omega
    rw [this] at h41 h42
    exact ⟨hf, h37, h41, h42⟩
  · replace g : i < S := cnt_le rfl (by omega) g hi
    have h1 : i &&& k < S := lo_lt g
    have h2 : hiN i k < S := by
      have g' := g
      rw [v.2.2.hS] at g' ⊢
      exact hi_lt g'
    rw [V_bgt v4 y2 g hk h37, bd_mk]
    by_cases cb : bgQ F T y2 k i
    · rw [b2_t cb, if_neg n10, S_goodEnd (nI q) (show i < 512 by omega), bd_mk, (hf.1 34 (by decide)).2.1, h34 i g, nI_hi (by omega) (by omega), nI_and i k (by omega) (by omega), inb_ln (n := 512) rfl (show i &&& k < 512 by omega) (by omega), gd_tt, gd_tt, nI_clamp (show i &&& k < 2 ^ 31 by omega), bnd_mk, inb_ln (n := 512) rfl (show hiN i k < 512 by omega) (by omega), gd_tt, gd_tt, nI_clamp (show hiN i k < 2 ^ 31 by omega), bnd_mk]
      unfold f_X3_meetAnswers_119
      rw [bnd_mk, nI_1, gr_sr_n _ _ _ _ (by decide), h41 _ h1, h42 _ h2]
      refine hK _ g ⟨rfl, rfl, rfl, rfl, (hf.tr (Fr.c2 (by simp))).tr (Fr.c2 (by simp)), fun x hx => ?_, fun x hx => ?_, fun x hx => ?_⟩
      · show gr (sr (sr s4 41 (i &&& k) _) 42 (hiN i k) _) 37 x = _
        rw [gr_sr_n _ _ _ _ (by decide), gr_sr_n _ _ _ _ (by decide)]
        exact h37 x hx
      · show gr (sr (sr s4 41 (i &&& k) _) 42 (hiN i k) _) 41 x = _
        rw [gr_sr_n _ _ _ _ (by decide), gr_sr_s, mx_s]
        by_cases e : x = i &&& k
        · rw [if_pos e, if_pos (show loQ F T y2 k x i from ⟨cb, e.symm⟩), e]
          rfl
        · rw [if_neg e, if_neg (show ¬ loQ F T y2 k x i from fun z => e z.2.symm)]
          exact h41 x hx
      · show gr (sr (sr s4 41 (i &&& k) _) 42 (hiN i k) _) 42 x = _
        rw [gr_sr_s, mi_s]
        by_cases e : x = hiN i k
        · rw [if_pos e, if_pos (show upQ F T y2 k x i from ⟨cb, e.symm⟩), e]
          rfl
        · rw [if_neg e, if_neg (show ¬ upQ F T y2 k x i from fun z => e z.2.symm), gr_sr_n _ _ _ _ (by decide)]
          exact h42 x hx
    · rw [b2_f cb, if_pos rfl]
      unfold f_X3_meetAnswers_119
      rw [bnd_mk, nI_1]
      refine hK _ g ⟨rfl, rfl, rfl, rfl, hf, h37, fun x hx => ?_, fun x hx => ?_⟩
      · show gr s4 41 x = _
        rw [mx_s, if_neg (show ¬ loQ F T y2 k x i from fun z => cb z.1)]
        exact h41 x hx
      · show gr s4 42 x = _
        rw [mi_s, if_neg (show ¬ upQ F T y2 k x i from fun z => cb z.1)]
        exact h42 x hx
abbrev beA (F : Nat → Int32) (M E T S q : Nat) (m : Int32) (x : Nat) : Int32 := mxA (buQ F T (1 - q) m) (fun y => gfA F M E T (nI q) (x ||| y)) S
theorem M_best {s : St} {F : Nat → Int32} {M T S E A U Y L P N : Nat} (v : VW s F M T S E A U Y L P N) {q x : Nat} (m : Int32) (hq : q < 2) (hx : x < S) (h67 : ∀ x, x < S → gr s 67 x = frA F E T (nI x) M) : f_X12_bestGood (nI q) (nI x) m s = some (beA F M E T S q m x, s) := by
  have h5 := v.2.2.S512
  unfold f_X12_bestGood
  refine itr_cnt (fun i => (nI q, nI x, m, mxA (buQ F T (1 - q) m) (fun y => gfA F M E T (nI q) (x ||| y)) i, nI i, s)) S _ (fun i K hi => ?_) (fun K => ?_) S 0 FU (by omega) (by unfold FU; omega)
  · have ho : x ||| i < S := by
      have hi' := hi
      have hx' := hx
      rw [v.2.2.hS] at hi' hx' ⊢
      exact Nat.or_lt_two_pow hx' hi'
    unfold g_X12_bestGood_8 f_X12_bestGood_50
    dsimp only
    rw [M_allT v, bd_mk, if_neg (show ¬ nI (S - 1) < nI i from nI_nlt (by omega) (by omega)), show (1 : Int32) - nI q = nI (1 - q) from nI_subl (a := 1) (by omega), M_bought v, bd_mk, nI_or, inb_ln (n := 512) rfl (show x ||| i < 512 by omega) (by omega), gd_tt, nI_clamp (by omega), h67 _ ho, S_goodBy, bd_mk, nI_1]
    rw [mx_s]
    generalize mxA (buQ F T (1 - q) m) (fun y => gfA F M E T (nI q) (x ||| y)) i = w at *
    by_cases c : buQ F T (1 - q) m i
    · rw [b2_t c, if_neg n10, if_pos c, bnd_mk, bnd_mk]
      rfl
    · rw [b2_f c, if_pos rfl, if_neg c, bnd_mk]
  · unfold g_X12_bestGood_8
    dsimp only
    rw [M_allT v, bd_mk, if_pos (nI_lt (by omega) (by omega))]
/-- the class's best of set x and the reference's -/
theorem bs_be {s : St} {F : Nat → Int32} {M T S E A U Y L P N : Nat} (v : VW s F M T S E A U Y L P N) {q k k' x : Nat} (m : Int32) (hq : q < 2) (hk : k < 2 ^ T) (hk' : k' < 2 ^ T) (ek : tofA F (nI q) T = nI k) (ek' : tofA F (nI (1 - q)) T = nI k') (hx : x < S) (hb : buQ F T q m x) : mxA (loQ F T m k x) (gfA F M E T (nI q)) S = beA F M E T S q m x := by
  have h5 := v.2.2.S512
  have hS := v.2.2.hS
  have hm := masks v hq hk hk' ek ek'
  have hb1 := hb.1
  rw [ek] at hb1
  have hx0 : hiN x k = 0 := (sub_hi (by omega) (by omega)).mp hb1
  refine mx_eq _ _ _ _ _ _ (fun i hi hQ => ?_) (fun y hy hQ => ?_)
  · have hl : hiN i k < S := by
      rw [hS] at hi ⊢
      exact hi_lt hi
    refine ⟨hiN i k, hl, ⟨?_, hQ.1.2⟩, ?_⟩
    · rw [ek', sub_hi (by omega) (by omega), mask_c hm (by omega)]
      exact hi_lo0 i k
    · show gfA F M E T (nI q) i = gfA F M E T (nI q) (x ||| hiN i k)
      rw [← hQ.2, lo_or_hi]
  · have hy0 : y &&& k = 0 := by
      have h1 := hQ.1
      rw [ek', sub_hi (by omega) (by omega), mask_c hm (by omega)] at h1
      exact h1
    refine ⟨x ||| y, ?_, ⟨⟨?_, ?_⟩, or_lo hx0 hy0⟩, rfl⟩
    · rw [hS] at hx hy ⊢
      exact Nat.or_lt_two_pow hx hy
    · rw [or_lo hx0 hy0]
      exact hb.2
    · rw [or_hi hx0 hy0]
      exact hQ.2
theorem D_answer (a b : Int32) (σ : St) (hI : JW σ) : ∃ r s1 s2, f_X11_answer a b σ = some (r, s1) ∧ f_X12_answer a b s1 = some (r, s2) := by
  obtain ⟨M, T, S, E, A, U, Y, L, P, N, v⟩ := hI.1.vw
  have hb := v.2.2
  have h5 := hb.S512
  have hS := hb.hS
  unfold f_X11_answer f_X11_answer_24 f_X12_answer f_X12_answer_15
  rw [S_isPurse v, bd_mk]
  by_cases c1 : (1 ≤ N ∧ (a = 0 ∨ a = 1)) ∧ 0 ≤ b.toInt ∧ b.toInt ≤ 999
  · obtain ⟨q, hq, rfl⟩ : ∃ i, i < 2 ∧ a = nI i := by
      rcases c1.1.2 with e | e
      · exact ⟨0, by omega, e⟩
      · exact ⟨1, by omega, e⟩
    obtain ⟨k, hk, ek⟩ := tof_nI (gr σ 59) (nI q) T hb.hT
    obtain ⟨k', hk', ek'⟩ := tof_nI (gr σ 59) (nI (1 - q)) T hb.hT
    obtain ⟨r, s1, e1, f1, -, g34, -⟩ := V_reck v hI.2
    have v1 : VW s1 (gr σ 59) M T S E A U Y L P N := v.fr f1 (by decide)
    rw [(f1.1 59 (by decide)).2.1] at g34
    obtain ⟨r2, s2, e2, f2, g37, g41, -⟩ := V_meet v1 (q := q) b (by omega) ek g34
    have v2 : VW s2 (gr σ 59) M T S E A U Y L P N := v1.fr f2 (by decide)
    obtain ⟨r3, s3, e3, f3, g67⟩ := M_fill v2
    have v3 : VW s3 (gr σ 59) M T S E A U Y L P N := v2.fr f3 (by decide)
    have hC : f_X3_answeredGood (nI q) b σ = some (miA (buQ (gr σ 59) T q b) (fun x => mxA (loQ (gr σ 59) T b k x) (gfA (gr σ 59) M E T (nI q)) S) S, s2) := by
      unfold f_X3_answeredGood
      rw [e1, bd_mk, e2, bd_mk, V_tof v2, bd_mk]
      refine itr_cnt (fun i => (b, tofA (gr σ 59) (nI q) T, miA (buQ (gr σ 59) T q b) (fun x => mxA (loQ (gr σ 59) T b k x) (gfA (gr σ 59) M E T (nI q)) S) i, nI i, s2)) S _ (fun i K hi => ?_) (fun K => ?_) S 0 FU (by omega) (by unfold FU; omega)
      · unfold g_X3_answeredGood_29 f_X3_answeredGood_75
        dsimp only
        rw [V_sets v2, bd_mk, if_neg (lt_ge hi (by omega)), inb_ln (n := 512) rfl (show i < 512 by omega) (by omega), gd_tt, inb_ln (n := 512) rfl (show i < 512 by omega) (by omega), gd_tt, nI_clamp (by omega), g37 i hi, g41 i hi, nI_1, mi_s]
        generalize miA (buQ (gr σ 59) T q b) (fun x => mxA (loQ (gr σ 59) T b k x) (gfA (gr σ 59) M E T (nI q)) S) i = w at *
        by_cases c : (nI i &&& (tofA (gr σ 59) (nI q) T ^^^ (-1 : Int32))) = 0
        · rw [if_pos c]
          by_cases c2 : b < prcA (gr σ 59) (nI i) T
          · rw [if_pos c2, if_neg (show ¬ buQ (gr σ 59) T q b i from fun z => z.2 c2), bnd_mk]
          · rw [if_neg c2, if_pos (show buQ (gr σ 59) T q b i from ⟨c, c2⟩), bnd_mk, bnd_mk]
        · rw [if_neg c, if_neg (show ¬ buQ (gr σ 59) T q b i from fun z => c z.1), bnd_mk]
      · unfold g_X3_answeredGood_29
        dsimp only
        rw [V_sets v2, bd_mk, if_pos (le_rf S)]
    have hM : itr g_X12_answer_30 FU (nI q, b, 1000000, 0, s3) = some (miA (buQ (gr σ 59) T q b) (beA (gr σ 59) M E T S q b) S, s3) := by
      refine itr_cnt (fun i => (nI q, b, miA (buQ (gr σ 59) T q b) (beA (gr σ 59) M E T S q b) i, nI i, s3)) S _ (fun i K hi => ?_) (fun K => ?_) S 0 FU (by omega) (by unfold FU; omega)
      · unfold g_X12_answer_30 f_X12_answer_63
        dsimp only
        rw [M_allT v3, bd_mk, if_neg (show ¬ nI (S - 1) < nI i from nI_nlt (by omega) (by omega)), M_bought v3, bd_mk, M_best v3 b hq hi g67, bd_mk, nI_1, mi_s]
        generalize miA (buQ (gr σ 59) T q b) (beA (gr σ 59) M E T S q b) i = w at *
        by_cases c : buQ (gr σ 59) T q b i
        · rw [b2_t c, if_neg n10, if_pos c, bnd_mk, bnd_mk]
        · rw [b2_f c, if_pos rfl, if_neg c, bnd_mk]
      · unfold g_X12_answer_30
        dsimp only
        rw [M_allT v3, bd_mk, if_pos (nI_lt (by omega) (by omega))]
    refine ⟨_, s2, s3, by rw [b2_t c1, if_neg n10, hC, bd_mk], ?_⟩
    rw [S_isSide _ hb.hN v2.2.2.mN, bd_mk, b2_t c1.1, if_neg n10, S_isPrice, bd_mk, b2_t c1.2, if_neg n10, e3, bd_mk, hM, mi_congr (buQ (gr σ 59) T q b) _ (beA (gr σ 59) M E T S q b) S (fun x hx hB => bs_be v b hq hk hk' ek ek' hx hB)]
  · refine ⟨-1000, σ, σ, by rw [b2_f c1, if_pos rfl], ?_⟩
    rw [S_isSide _ hb.hN hb.mN, bd_mk]
    by_cases c2 : 1 ≤ N ∧ (a = 0 ∨ a = 1)
    · rw [b2_t c2, if_neg n10, S_isPrice, bd_mk, b2_f (fun z => c1 ⟨c2, z⟩), if_pos rfl]
    · rw [b2_f c2, if_pos rfl]
