/-! ===== values: enough ===== -/
theorem bx_tab : ∀ i, i < 512 → ∀ t, t < 9 → (i.testBit t = true → (i &&& 2 ^ t) < 512 ∧ 0 < (i &&& 2 ^ t) ∧ i ^^^ 2 ^ t < i ∧ (i ^^^ 2 ^ t).testBit t = false) ∧ (i.testBit t = false → (i &&& 2 ^ t) = 0) := by decide +kernel
theorem nI_xo (a b : Nat) (ha : a < 512) (hb : b < 512) : nI a ^^^ nI b = nI (a ^^^ b) := by
  have h3 : a ^^^ b < 512 := Nat.xor_lt_two_pow (n := 9) ha hb
  apply Int32.toBitVec.inj
  apply BitVec.eq_of_toNat_eq
  rw [Int32.toBitVec_xor, BitVec.toNat_xor]
  show (BitVec.ofNat 32 a).toNat ^^^ (BitVec.ofNat 32 b).toNat = (BitVec.ofNat 32 (a ^^^ b)).toNat
  rw [BitVec.toNat_ofNat, BitVec.toNat_ofNat, BitVec.toNat_ofNat, Nat.mod_eq_of_lt (by omega), Nat.mod_eq_of_lt (by omega), Nat.mod_eq_of_lt (by omega)]
theorem xo_bit {x t j : Nat} (h : t ≠ j) : (x ^^^ 2 ^ t).testBit j = x.testBit j := by
  rw [Nat.testBit_xor, Nat.testBit_two_pow, decide_eq_false h, Bool.xor_false]
/-- what TRAIN t brings side q, if it is not late -/
def coA (F : Nat → Int32) (L q t : Nat) : Int32 := if F (13 + 6 * t + 0) = nI q ∧ ¬ nI L < arrA F 0 t then F (13 + 6 * t + 1) else 0
/-- how often it is late to any purpose -/
def olN (F : Nat → Int32) (L t : Nat) : Nat := if lostA F t (nI L) ≤ 0 then 0 else odN F t
def mnA (F : Nat → Int32) (L q x : Nat) : Nat → Int32
  | 0 => 0
  | i + 1 => mnA F L q x i + (if x.testBit i then coA F L q i else 0)
/-- row 39 of the class behind t TRAINS -/
def ptN (F : Nat → Int32) (L T q : Nat) : Nat → Nat → Nat
  | 0, x => if mnA F L q x T < F (11 + q) then 0 else 1
  | t + 1, x => if x.testBit t then (100 - olN F L t) * ptN F L T q t x + olN F L t * ptN F L T q t (x ^^^ 2 ^ t) else ptN F L T q t x
/-- the same, TRAIN by TRAIN -/
def heN (F : Nat → Int32) (L q y : Nat) : Nat → Int32 → Nat
  | 0, m => if m < F (11 + q) then 0 else 1
  | t + 1, m => if y.testBit t then (100 - olN F L t) * heN F L q y t (m + coA F L q t) + olN F L t * heN F L q y t m else heN F L q y t m
theorem he_congr (F : Nat → Int32) (L q : Nat) {x y : Nat} : ∀ t, (∀ i, i < t → x.testBit i = y.testBit i) → ∀ m, heN F L q x t m = heN F L q y t m := by
  intro t
  induction t with
  | zero => exact fun _ _ => rfl
  | succ t ih =>
    intro h m
    have ih' := ih (fun i hi => h i (by omega))
    show (if x.testBit t then (100 - olN F L t) * heN F L q x t (m + coA F L q t) + olN F L t * heN F L q x t m else heN F L q x t m) = (if y.testBit t then (100 - olN F L t) * heN F L q y t (m + coA F L q t) + olN F L t * heN F L q y t m else heN F L q y t m)
    rw [ih', ih', h t (by omega)]
theorem mn_congr (F : Nat → Int32) (L q : Nat) {x y : Nat} : ∀ t, (∀ i, i < t → x.testBit i = y.testBit i) → mnA F L q x t = mnA F L q y t := by
  intro t
  induction t with
  | zero => exact fun _ => rfl
  | succ t ih =>
    intro h
    show mnA F L q x t + (if x.testBit t then coA F L q t else 0) = mnA F L q y t + (if y.testBit t then coA F L q t else 0)
    rw [ih (fun i hi => h i (by omega)), h t (by omega)]
theorem mn_more (F : Nat → Int32) (L q : Nat) {x t : Nat} (hb : x.testBit t = true) (hb' : (x ^^^ 2 ^ t).testBit t = false) : ∀ n, mnA F L q x n = mnA F L q (x ^^^ 2 ^ t) n + (if t < n then coA F L q t else 0) := by
  intro n
  induction n with
  | zero =>
    rw [if_neg (by omega), Int32.add_zero]
    rfl
  | succ n ih =>
    show mnA F L q x n + (if x.testBit n then coA F L q n else 0) = (mnA F L q (x ^^^ 2 ^ t) n + (if (x ^^^ 2 ^ t).testBit n then coA F L q n else 0)) + _
    rw [ih]
    by_cases e : t = n
    · subst e
      rw [hb, hb', if_neg (show ¬ t < t by omega), if_pos (show t < t + 1 by omega), if_pos rfl, if_neg nfT, Int32.add_zero]
    · rw [xo_bit e, Int32.add_assoc, Int32.add_assoc]
      congr 1
      by_cases g : t < n
      · rw [if_pos g, if_pos (show t < n + 1 by omega), Int32.add_comm]
      · rw [if_neg g, if_neg (show ¬ t < n + 1 by omega), Int32.add_comm]
theorem pt_he (F : Nat → Int32) (L T q : Nat) (hT : T ≤ 9) : ∀ t, t ≤ T → ∀ x m, x < 512 → mnA F L q x T = mnA F L q x t + m → ptN F L T q t x = heN F L q x t m := by
  intro t
  induction t with
  | zero =>
    intro _ x m _ h
    show (if mnA F L q x T < F (11 + q) then 0 else 1) = (if m < F (11 + q) then 0 else 1)
    rw [h, show mnA F L q x 0 = 0 from rfl, Int32.zero_add]
  | succ t ih =>
    intro ht x m hx h
    have e : mnA F L q x (t + 1) = mnA F L q x t + (if x.testBit t then coA F L q t else 0) := rfl
    show (if x.testBit t then (100 - olN F L t) * ptN F L T q t x + olN F L t * ptN F L T q t (x ^^^ 2 ^ t) else ptN F L T q t x) = (if x.testBit t then (100 - olN F L t) * heN F L q x t (m + coA F L q t) + olN F L t * heN F L q x t m else heN F L q x t m)
    cases hb : x.testBit t
    · rw [if_neg nfT, if_neg nfT]
      rw [hb, if_neg nfT, Int32.add_zero] at e
      exact ih (by omega) x m hx (by rw [h, e])
    · rw [if_pos rfl, if_pos rfl]
      rw [hb, if_pos rfl] at e
      obtain ⟨-, -, hlt, hb'⟩ := (bx_tab x hx t (by omega)).1 hb
      have m1 := mn_more F L q hb hb' T
      have m2 := mn_more F L q hb hb' t
      rw [if_pos (by omega)] at m1
      rw [if_neg (by omega), Int32.add_zero] at m2
      rw [ih (by omega) x (m + coA F L q t) hx (by rw [h, e, Int32.add_assoc, Int32.add_comm m]), ih (by omega) (x ^^^ 2 ^ t) m (by omega) ?_, he_congr F L q (x := x ^^^ 2 ^ t) (y := x) t (fun i hi => xo_bit (by omega))]
      rw [h, e, m2, Int32.add_assoc, Int32.add_comm (coA F L q t) m, ← Int32.add_assoc] at m1
      exact ((Int32.add_left_inj (coA F L q t)).mp m1).symm
def zbN (y : Nat) : Nat → Nat
  | 0 => 0
  | i + 1 => zbN y i + (if y.testBit i then 0 else 1)
def obN (y : Nat) : Nat → Nat
  | 0 => 0
  | i + 1 => obN y i + (if y.testBit i then 1 else 0)
theorem zo_bn (y : Nat) : ∀ n, zbN y n + obN y n = n := by
  intro n
  induction n with
  | zero => rfl
  | succ n ih =>
    show zbN y n + (if y.testBit n then 0 else 1) + (obN y n + (if y.testBit n then 1 else 0)) = n + 1
    split <;> omega
theorem he_le (F : Nat → Int32) (L q y : Nat) : ∀ n, (∀ t, t < n → odN F t ≤ 100) → ∀ m, heN F L q y n m ≤ 100 ^ obN y n := by
  intro n
  induction n with
  | zero =>
    intro _ m
    rw [show obN y 0 = 0 from rfl, Nat.pow_zero]
    show (if m < F (11 + q) then 0 else 1) ≤ 1
    split <;> omega
  | succ n ih =>
    intro h m
    have ih' := ih (fun t ht => h t (by omega))
    show (if y.testBit n then (100 - olN F L n) * heN F L q y n (m + coA F L q n) + olN F L n * heN F L q y n m else heN F L q y n m) ≤ 100 ^ (obN y n + (if y.testBit n then 1 else 0))
    cases hb : y.testBit n
    · rw [if_neg nfT, if_neg nfT]
      exact ih' m
    · rw [if_pos rfl, if_pos rfl, Nat.pow_succ, Nat.mul_comm (100 ^ obN y n) 100]
      have ho : olN F L n ≤ 100 := by
        unfold olN
        split
        · omega
        · exact h n (by omega)
      calc (100 - olN F L n) * heN F L q y n (m + coA F L q n) + olN F L n * heN F L q y n m ≤ (100 - olN F L n) * 100 ^ obN y n + olN F L n * 100 ^ obN y n := Nat.add_le_add (Nat.mul_le_mul_left _ (ih' _)) (Nat.mul_le_mul_left _ (ih' _))
        _ = 100 * 100 ^ obN y n := by rw [← Nat.add_mul, show 100 - olN F L n + olN F L n = 100 by omega]
/-- MEN of the TRAINS y by the last minute, if x are late -/
def msA (F : Nat → Int32) (L y x : Nat) : Nat → Int32
  | 0 => 0
  | i + 1 => msA F L y x i + (if y.testBit i = true ∧ ¬ nI L < arrA F (nI x) i then F (13 + 6 * i + 1) else 0)
/-- on time, late -/
def onA (F : Nat → Int32) (L y t : Nat) (b : Int32) : Int32 := if y.testBit t = true ∧ ¬ nI L < F (13 + 6 * t + 2) + b * F (13 + 6 * t + 4) then F (13 + 6 * t + 1) else 0
theorem ms_hi (F : Nat → Int32) (L y : Nat) {x n : Nat} (hn : n < 9) (hx : x < 2 ^ n) : ∀ i, i ≤ n → msA F L y (2 ^ n + x) i = msA F L y x i := by
  have h2 := two_512 hn
  have h3 : 2 ^ n + x < 512 := by rw [← or_add hx]; exact or_512 (by omega) h2
  intro i
  induction i with
  | zero => exact fun _ => rfl
  | succ i ih =>
    intro hi
    show msA F L y (2 ^ n + x) i + (if y.testBit i = true ∧ ¬ nI L < arrA F (nI (2 ^ n + x)) i then F (13 + 6 * i + 1) else 0) = msA F L y x i + (if y.testBit i = true ∧ ¬ nI L < arrA F (nI x) i then F (13 + 6 * i + 1) else 0)
    unfold arrA
    rw [ih (by omega), bit_nI h3 (by omega), bit_nI (show x < 512 by omega) (by omega), Nat.testBit_two_pow_add_gt (by omega)]
theorem ms_lo (F : Nat → Int32) (L y : Nat) {x n : Nat} (hn : n < 9) (hx : x < 2 ^ n) : msA F L y x (n + 1) = msA F L y x n + onA F L y n 0 ∧ msA F L y (2 ^ n + x) (n + 1) = msA F L y x n + onA F L y n 1 := by
  have h2 := two_512 hn
  have h3 : 2 ^ n + x < 512 := by rw [← or_add hx]; exact or_512 (by omega) h2
  constructor
  · show msA F L y x n + (if y.testBit n = true ∧ ¬ nI L < arrA F (nI x) n then F (13 + 6 * n + 1) else 0) = _
    unfold arrA onA
    rw [bit_nI (show x < 512 by omega) (by omega), Nat.testBit_lt_two_pow hx, if_neg nfT]
  · show msA F L y (2 ^ n + x) n + (if y.testBit n = true ∧ ¬ nI L < arrA F (nI (2 ^ n + x)) n then F (13 + 6 * n + 1) else 0) = _
    unfold arrA onA
    rw [ms_hi F L y hn hx n (Nat.le_refl _), bit_nI h3 (by omega), Nat.testBit_two_pow_add_eq, Nat.testBit_lt_two_pow hx, if_pos (show (!false) = true from rfl)]
/-- late: either it costs nothing, or all -/
theorem on_cases {s : St} {F : Nat → Int32} {M T S E A U Y L P N : Nat} (v : VW s F M T S E A U Y L P N) {q y t : Nat} (ht : t < T) (hy : y.testBit t = true) (hs : F (13 + 6 * t + 0) = nI q) : onA F L y t 0 = coA F L q t ∧ ((olN F L t = 0 ∧ onA F L y t 1 = coA F L q t) ∨ (olN F L t = odN F t ∧ onA F L y t 1 = 0)) := by
  have hL := v.2.2.hL
  have hT := v.2.2.hT
  have h0 : onA F L y t 0 = coA F L q t := by
    unfold onA coA arrA
    rw [show bitOf 0 t = 0 from bit_00 (by omega)]
    by_cases c : nI L < F (13 + 6 * t + 2) + 0 * F (13 + 6 * t + 4)
    · rw [if_neg (fun z => z.2 c), if_neg (fun z => z.2 c)]
    · rw [if_pos ⟨hy, c⟩, if_pos ⟨hs, c⟩]
  refine ⟨h0, ?_⟩
  have h1 := men1 v ht (show L ≤ 99 by omega)
  have e0 : onA F L y t 0 = if ¬ nI L < F (13 + 6 * t + 2) + 0 * F (13 + 6 * t + 4) then F (13 + 6 * t + 1) else 0 := by
    unfold onA
    by_cases c : nI L < F (13 + 6 * t + 2) + 0 * F (13 + 6 * t + 4)
    · rw [if_neg (fun z => z.2 c), if_neg (fun z => z c)]
    · rw [if_pos ⟨hy, c⟩, if_pos c]
  have e1 : onA F L y t 1 = if ¬ nI L < F (13 + 6 * t + 2) + 1 * F (13 + 6 * t + 4) then F (13 + 6 * t + 1) else 0 := by
    unfold onA
    by_cases c : nI L < F (13 + 6 * t + 2) + 1 * F (13 + 6 * t + 4)
    · rw [if_neg (fun z => z.2 c), if_neg (fun z => z c)]
    · rw [if_pos ⟨hy, c⟩, if_pos c]
  rw [← e0, ← e1] at h1
  obtain ⟨a, ha1, ha, ea⟩ := v.mnn ht
  unfold olN
  by_cases c : lostA F t (nI L) = 0
  · left
    rw [if_pos (show lostA F t (nI L) ≤ 0 from by rw [c]; decide), h1, c, h0, show -(0 : Int32) = 0 from by decide, Int32.add_zero]
    exact ⟨rfl, rfl⟩
  · right
    have hl : lostA F t (nI L) = F (13 + 6 * t + 1) := by
      unfold lostA at c ⊢
      by_cases c1 : nI L - F (13 + 6 * t + 2) < 0
      · rw [if_pos c1] at c
        exact absurd rfl c
      · rw [if_neg c1] at c ⊢
        by_cases c2 : F (13 + 6 * t + 4) ≤ nI L - F (13 + 6 * t + 2)
        · rw [if_pos c2] at c
          exact absurd rfl c
        · rw [if_neg c2]
    have h2 : onA F L y t 1 = 0 ∨ onA F L y t 1 = F (13 + 6 * t + 1) := by
      unfold onA
      split
      · exact Or.inr rfl
      · exact Or.inl rfl
    have h3 : onA F L y t 0 = 0 ∨ onA F L y t 0 = F (13 + 6 * t + 1) := by
      unfold onA
      split
      · exact Or.inr rfl
      · exact Or.inl rfl
    have tb : ∀ a, a < 100 → 1 ≤ a → ¬ (0 : Int32) = 0 + -(nI a) ∧ ¬ nI a = 0 + -(nI a) ∧ ¬ nI a = nI a + -(nI a) ∧ ¬ nI a ≤ 0 := by decide +kernel
    obtain ⟨t1, t2, t3, t4⟩ := tb a (by omega) ha1
    rw [hl, ea, if_neg t4]
    refine ⟨rfl, ?_⟩
    rw [hl] at h1
    rcases h2 with h2 | h2
    · exact h2
    · exfalso
      rcases h3 with h3 | h3
      · rw [h2, h3, ea] at h1
        exact t2 h1
      · rw [h2, h3, ea] at h1
        exact t3 h1
/-- the reference's sum over all sets is the class's -/
theorem gs_he {s : St} {F : Nat → Int32} {M T S E A U Y L P N : Nat} (v : VW s F M T S E A U Y L P N) {q y : Nat} (hy : ∀ t, t < T → y.testBit t = true → F (13 + 6 * t + 0) = nI q) : ∀ n, n ≤ T → ∀ m, smN (fun x => if m + msA F L y x n < F (11 + q) then 0 else ofN F x n) (2 ^ n) = 100 ^ zbN y n * heN F L q y n m := by
  have hT := v.2.2.hT
  intro n
  induction n with
  | zero =>
    intro _ m
    rw [show zbN y 0 = 0 from rfl, Nat.pow_zero]
    show 0 + (if m + 0 < F (11 + q) then 0 else 1) = 1 * (if m < F (11 + q) then 0 else 1)
    rw [Int32.add_zero, Nat.zero_add, Nat.one_mul]
  | succ n ih =>
    intro hn m
    have ho := (v.odd (show n < T by omega)).1
    rw [smN_two, smN_congr (f := fun x => if m + msA F L y x (n + 1) < F (11 + q) then 0 else ofN F x (n + 1)) (g := fun x => (if (m + onA F L y n 0) + msA F L y x n < F (11 + q) then 0 else ofN F x n) * (100 - odN F n)) (2 ^ n) (fun x hx => ?_), smN_congr (f := fun x => if m + msA F L y (2 ^ n + x) (n + 1) < F (11 + q) then 0 else ofN F (2 ^ n + x) (n + 1)) (g := fun x => (if (m + onA F L y n 1) + msA F L y x n < F (11 + q) then 0 else ofN F x n) * odN F n) (2 ^ n) (fun x hx => ?_), smN_mul (fun x => if (m + onA F L y n 0) + msA F L y x n < F (11 + q) then 0 else ofN F x n), smN_mul (fun x => if (m + onA F L y n 1) + msA F L y x n < F (11 + q) then 0 else ofN F x n), ih (by omega), ih (by omega)]
    · show _ = 100 ^ (zbN y n + (if y.testBit n then 0 else 1)) * (if y.testBit n then (100 - olN F L n) * heN F L q y n (m + coA F L q n) + olN F L n * heN F L q y n m else heN F L q y n m)
      cases hb : y.testBit n
      · have e0 : ∀ b, onA F L y n b = 0 := fun b => by
          unfold onA
          rw [if_neg]
          rw [hb]
          exact fun z => nfT z.1
        rw [if_neg nfT, if_neg nfT, e0, e0, Int32.add_zero, ← Nat.mul_add, show 100 - odN F n + odN F n = 100 by omega, Nat.pow_succ, Nat.mul_right_comm]
      · rw [if_pos rfl, if_pos rfl, Nat.add_zero (zbN y n)]
        obtain ⟨e0, ⟨o1, e1⟩ | ⟨o1, e1⟩⟩ := on_cases v (show n < T by omega) hb (hy n (by omega) hb)
        · rw [e0, e1, o1, ← Nat.mul_add, show 100 - odN F n + odN F n = 100 by omega, Nat.zero_mul, Nat.add_zero ((100 - 0) * heN F L q y n (m + coA F L q n)), Nat.sub_zero, Nat.mul_assoc, Nat.mul_comm 100]
        · rw [e0, e1, o1, Int32.add_zero, Nat.mul_add, Nat.mul_assoc, Nat.mul_assoc, Nat.mul_comm (heN F L q y n (m + coA F L q n)), Nat.mul_comm (heN F L q y n m)]
    · rw [(ms_lo F L y (show n < 9 by omega) hx).2, (of_lo F hx).2, Int32.add_assoc, Int32.add_comm (msA F L y x n)]
      split
      · rw [Nat.zero_mul]
      · rfl
    · rw [(ms_lo F L y (show n < 9 by omega) hx).1, (of_lo F hx).1, Int32.add_assoc, Int32.add_comm (msA F L y x n)]
      split
      · rw [Nat.zero_mul]
      · rfl
theorem nI_two {i t : Nat} (hi : i < 512) (ht : t < 9) : (nI i &&& nI (2 ^ t)) = 0 ↔ i.testBit t = false := by
  have h2 := two_512 ht
  rw [nI_and i (2 ^ t) (by omega) (by omega)]
  cases hb : i.testBit t
  · rw [(bx_tab i hi t ht).2 hb]
    exact ⟨fun _ => rfl, fun _ => rfl⟩
  · obtain ⟨h1, h0, -⟩ := (bx_tab i hi t ht).1 hb
    exact ⟨fun z => absurd z (nI_ne0 h0 (by omega)), fun z => absurd z (by decide)⟩
theorem ol_le {s : St} {F : Nat → Int32} {M T S E A U Y L P N : Nat} (v : VW s F M T S E A U Y L P N) {t : Nat} (ht : t < T) : olN F L t ≤ 100 := by
  have h := (v.odd ht).1
  unfold olN
  split <;> omega
theorem V_late {s : St} {F : Nat → Int32} {M T S E A U Y L P N : Nat} (v : VW s F M T S E A U Y L P N) {q t : Nat} (ht : t < T) (h39 : ∀ x, x < S → gj s 39 x = lN (ptN F L T q t x)) : Ok (fun _ s' => Fr [39] s s' ∧ ∀ x, x < S → gj s' 39 x = lN (ptN F L T q (t + 1) x)) (f_X3_mayBeLate (nI t) s) := by
  have hT := v.2.2.hT
  have h5 := v.2.2.S512
  have h2 := two_512 (show t < 9 by omega)
  obtain ⟨ho, eo⟩ := v.odd ht
  have loop : Ok (fun _ s' => Fr [39] s s' ∧ ∀ x, x < S → gj s' 39 x = lN (ptN F L T q (t + 1) x)) (f_X3_mayBeLate_38 (nI (2 ^ t)) (nI (olN F L t)) s) := by
    obtain ⟨eA, eB⟩ := od_l (ol_le v ht)
    unfold f_X3_mayBeLate_38
    refine okC (fun (i : Nat) (y : Int32 × Int32 × Int32 × St) => y.1 = nI (2 ^ t) ∧ y.2.1 = nI (olN F L t) ∧ y.2.2.1 = nI i ∧ Fr [39] s y.2.2.2 ∧ ∀ x, x < S → gj y.2.2.2 39 x = if x < i then lN (ptN F L T q (t + 1) x) else lN (ptN F L T q t x)) S ?_ (i := 0) (by unfold FU; omega) (by omega) ⟨rfl, rfl, rfl, Fr.rf, fun x hx => by rw [if_neg (by omega)]; exact h39 x hx⟩
    rintro i ⟨y1, y2, y3, s1⟩ K hi ⟨e1, e2, e3, hf, hr⟩ hK
    dsimp only at e1 e2 e3 hf hr
    subst e1 e2 e3
    have v1 := v.fr hf (by decide)
    unfold g_X3_mayBeLate_42 f_X3_mayBeLate_94
    dsimp only
    rw [V_sets v1, bd_mk]
    refine okI (fun g => okR ⟨hf, fun x hx => ?_⟩) (fun g => ?_)
    · have : i = S := by
        rw [le_toInt, nI_toInt (by omega), nI_toInt (by omega)] at g
        omega
      rw [hr x hx, if_pos (by omega)]
    · replace g : i < S := cnt_le rfl (by omega) g hi
      have nx : ptN F L T q (t + 1) i = if i.testBit t then (100 - olN F L t) * ptN F L T q t i + olN F L t * ptN F L T q t (i ^^^ 2 ^ t) else ptN F L T q t i := rfl
      refine okI (fun c => ?_) (fun c => ?_)
      · have hb := (nI_two (show i < 512 by omega) (show t < 9 by omega)).mp c
        rw [hb, if_neg nfT] at nx
        rw [bnd_mk, nI_1]
        refine hK _ g ⟨rfl, rfl, rfl, hf, fun x hx => ?_⟩
        rw [hr x hx]
        by_cases e : x = i
        · rw [if_neg (show ¬ x < i by omega), if_pos (show x < i + 1 by omega), e, nx]
        · by_cases e2 : x < i
          · rw [if_pos e2, if_pos (show x < i + 1 by omega)]
          · rw [if_neg e2, if_neg (show ¬ x < i + 1 by omega)]
      · have hb : i.testBit t = true := by
          cases h : i.testBit t
          · exact absurd ((nI_two (show i < 512 by omega) (show t < 9 by omega)).mpr h) c
          · rfl
        obtain ⟨-, -, hlt, hb'⟩ := (bx_tab i (by omega) t (by omega)).1 hb
        rw [hb, if_pos rfl] at nx
        have nx2 : ptN F L T q (t + 1) (i ^^^ 2 ^ t) = ptN F L T q t (i ^^^ 2 ^ t) := by
          show (if (i ^^^ 2 ^ t).testBit t then _ else _) = _
          rw [hb', if_neg nfT]
        have g1 : gj s1 39 i = lN (ptN F L T q t i) := by rw [hr i g, if_neg (show ¬ i < i by omega)]
        have g2 : gj s1 39 (i ^^^ 2 ^ t) = lN (ptN F L T q t (i ^^^ 2 ^ t)) := by rw [hr _ (show i ^^^ 2 ^ t < S by omega), if_pos hlt, nx2]
        rw [nI_xo i (2 ^ t) (by omega) h2, inb_ln (n := 512) rfl (show i < 512 by omega) (by omega), gd_tt, inb_ln (n := 512) rfl (show i ^^^ 2 ^ t < 512 by omega) (by omega), gd_tt, gd_tt, nI_clamp (show i < 2 ^ 31 by omega), nI_clamp (show i ^^^ 2 ^ t < 2 ^ 31 by omega), g1, g2, eA, eB, lN_mul, lN_mul, lN_add, bnd_mk, bnd_mk, nI_1]
        refine hK _ g ⟨rfl, rfl, rfl, hf.tr (Fr.c3 (by simp)), fun x hx => ?_⟩
        show gj (sj s1 39 i _) 39 x = _
        rw [gj_sj_s]
        by_cases e : x = i
        · rw [if_pos e, if_pos (show x < i + 1 by omega), e, nx]
        · rw [if_neg e, hr x hx]
          by_cases e2 : x < i
          · rw [if_pos e2, if_pos (show x < i + 1 by omega)]
          · rw [if_neg e2, if_neg (show ¬ x < i + 1 by omega)]
  unfold f_X3_mayBeLate
  rw [bnd_mk, nI_sh1 t (by omega), show gf s 1 2 = nI L from v.2.2.cL, V_lost v _ ht, bd_mk]
  refine okI (fun c => ?_) (fun c => ?_)
  · have e : olN F L t = 0 := if_pos c
    rw [e] at loop
    exact loop
  · have e : olN F L t = odN F t := if_neg c
    rw [e] at loop
    rw [show f_X9_cell 3 (nI t) (3 : Int32) s = some (F (13 + 6 * t + 3), s) from V_c3 v (c := 3) ht (by omega), bd_mk, eo]
    exact loop
theorem V_parts {s : St} {F : Nat → Int32} {M T S E A U Y L P N : Nat} (v : VW s F M T S E A U Y L P N) {q : Nat} (hq : q < 2) : Ok (fun _ s' => Fr [38, 39] s s' ∧ ∀ x, x < S → gj s' 39 x = lN (ptN F L T q T x)) (f_X3_takeParts (nI q) s) := by
  have hT := v.2.2.hT
  have h5 := v.2.2.S512
  unfold f_X3_takeParts
  refine okD rfl ?_
  rw [bnd_mk]
  refine okC (fun (t : Nat) (y : Int32 × Int32 × St) => y.1 = nI q ∧ y.2.1 = nI t ∧ Fr [38] s y.2.2 ∧ ∀ x, x < 2 ^ t → gr y.2.2 38 x = mnA F L q x t) T ?_ (i := 0) (by unfold FU; omega) (by omega) ⟨rfl, rfl, Fr.c2 (by simp), fun x hx => by
    obtain rfl : x = 0 := by
      rw [Nat.pow_zero] at hx
      omega
    show gr (sr s 38 0 0) 38 0 = _
    rw [gr_sr_s, if_pos rfl]
    rfl⟩
  rintro t ⟨y1, y2, s1⟩ K hi ⟨e1, e2, hf, hr⟩ hK
  dsimp only at e1 e2 hf hr
  subst e1 e2
  have v1 := v.fr hf (by decide)
  unfold g_X3_takeParts_9
  dsimp only
  rw [show gf s1 3 3 = nI T from v1.2.2.cT]
  refine okI (fun c => ?_) (fun c => ?_)
  · have hr' : ∀ x, x < S → gr s1 38 x = mnA F L q x T := by
      have : t = T := by
        rw [le_toInt, nI_toInt (by omega), nI_toInt (by omega)] at c
        omega
      rw [v.2.2.hS, ← this]
      exact hr
    refine okC (fun (i : Nat) (y : Int32 × Int32 × St) => y.1 = nI q ∧ y.2.1 = nI i ∧ Fr [38, 39] s y.2.2 ∧ (∀ x, x < S → gr y.2.2 38 x = mnA F L q x T) ∧ ∀ x, x < i → gj y.2.2 39 x = lN (ptN F L T q 0 x)) S ?_ (i := 0) (by unfold FU; omega) (by omega) ⟨rfl, rfl, hf.mo (by simp), hr', fun x hx => absurd hx (by omega)⟩
    rintro i ⟨y1, y2, s2⟩ K2 hi2 ⟨e1, e2, hf2, hr2, h39⟩ hK2
    dsimp only at e1 e2 hf2 hr2 h39
    subst e1 e2
    have v2 := v.fr hf2 (by decide)
    unfold g_X3_takeParts_100
    dsimp only
    rw [V_sets v2, bd_mk]
    refine okI (fun g => ?_) (fun g => ?_)
    · have hiS : i = S := by
        rw [le_toInt, nI_toInt (by omega), nI_toInt (by omega)] at g
        omega
      rw [hiS] at h39
      refine okC (fun (u : Nat) (y : Int32 × St) => y.1 = nI u ∧ Fr [38, 39] s y.2 ∧ ∀ x, x < S → gj y.2 39 x = lN (ptN F L T q u x)) T ?_ (i := 0) (by unfold FU; omega) (by omega) ⟨rfl, hf2, h39⟩
      rintro u ⟨y1, s3⟩ K3 hu ⟨e1, hf3, h393⟩ hK3
      dsimp only at e1 hf3 h393
      subst e1
      have v3 := v.fr hf3 (by decide)
      unfold g_X3_takeParts_147
      dsimp only
      rw [show gf s3 3 3 = nI T from v3.2.2.cT]
      refine okI (fun d => okR ⟨hf3, ?_⟩) (fun d => ?_)
      · have : u = T := by
          rw [le_toInt, nI_toInt (by omega), nI_toInt (by omega)] at d
          omega
        rw [this] at h393
        exact h393
      · replace d : u < T := cnt_le rfl (by omega) d hu
        refine okB (V_late v3 (q := q) d h393) ?_
        rintro _ s4 ⟨f4, g4⟩
        rw [bnd_mk, nI_1]
        exact hK3 _ d ⟨rfl, hf3.tr (f4.mo (by simp)), g4⟩
    · replace g : i < S := cnt_le rfl (by omega) g hi2
      rw [inb_ln (n := 512) rfl (show i < 512 by omega) (by omega), gd_tt, V_need v2 hq, bd_mk, nI_clamp (by omega), hr2 i g]
      have key : ∀ k0, k0 = lN (ptN F L T q 0 i) → Ok (fun _ s' => Fr [38, 39] s s' ∧ ∀ x, x < S → gj s' 39 x = lN (ptN F L T q T x)) (f_X3_takeParts_138 K2 (nI q) (nI i) k0 (nI i) s2) := by
        intro k0 hk
        unfold f_X3_takeParts_138
        rw [inb_ln (n := 512) rfl (show i < 512 by omega) (by omega), gd_tt, nI_clamp (by omega), bnd_mk, bnd_mk, nI_1, hk]
        refine hK2 _ g ⟨rfl, rfl, hf2.tr (Fr.c3 (by simp)), fun x hx => ?_, fun x hx => ?_⟩
        · show gr s2 38 x = _
          exact hr2 x hx
        · show gj (sj s2 39 i _) 39 x = _
          rw [gj_sj_s]
          by_cases e : x = i
          · rw [if_pos e, e]
          · rw [if_neg e]; exact h39 x (by omega)
      exact okI (fun e => key _ (by rw [show ptN F L T q 0 i = 0 from if_pos e]; rfl)) (fun e => key _ (by rw [show ptN F L T q 0 i = 1 from if_neg e]; rfl))
  · replace c : t < T := cnt_le rfl (by omega) c hi
    have k89 : ∀ k0, k0 = coA F L q t → Ok (fun _ s' => Fr [38, 39] s s' ∧ ∀ x, x < S → gj s' 39 x = lN (ptN F L T q T x)) (f_X3_takeParts_89 K (nI q) (nI t) k0 (nI t) s1) := by
      intro k0 hk
      unfold f_X3_takeParts_89
      refine okB (V_spread (u := 38) (p := k0) (s := s1) (show t < 9 by omega) ⟨by decide, by decide⟩ rfl) ?_
      rintro _ s2 ⟨f2, g1, g2⟩
      rw [bnd_mk, nI_1]
      refine hK _ c ⟨rfl, rfl, hf.tr f2, fun x hx => ?_⟩
      show gr s2 38 x = mnA F L q x t + (if x.testBit t then coA F L q t else 0)
      by_cases e : x < 2 ^ t
      · rw [g2 x e, hr x e, Nat.testBit_lt_two_pow e, if_neg nfT, Int32.add_zero]
      · obtain ⟨h1, h2⟩ := or_split (by omega) hx
        have hb : x.testBit t = true := by
          have := Nat.testBit_two_pow_add_eq (x - 2 ^ t) t
          rw [show 2 ^ t + (x - 2 ^ t) = x by omega, Nat.testBit_lt_two_pow h1] at this
          exact this
        have hy : ∀ i, i < t → (x - 2 ^ t).testBit i = x.testBit i := fun i hi => by
          have := Nat.testBit_two_pow_add_gt hi (x - 2 ^ t)
          rw [show 2 ^ t + (x - 2 ^ t) = x by omega] at this
          exact this.symm
        have e3 : gr s2 38 x = gr s1 38 (x - 2 ^ t) + k0 := by
          have := g1 _ h1
          rw [← h2] at this
          exact this
        rw [e3, hr _ h1, hk, mn_congr F L q t hy, hb, if_pos rfl]
    rw [show f_X9_cell 3 (nI t) (0 : Int32) s1 = some (F (13 + 6 * t + 0), s1) from V_c3 v1 (c := 0) c (by omega), bd_mk]
    refine okI (fun e => ?_) (fun e => ?_)
    · rw [V_arrival v1 0 c, bd_mk, show gf s1 1 2 = nI L from v1.2.2.cL]
      refine okI (fun e2 => ?_) (fun e2 => ?_)
      · unfold f_X3_takeParts_62 f_X3_takeParts_63
        rw [if_pos rfl]
        exact k89 _ (by unfold coA; rw [if_neg (fun z => z.2 e2)])
      · unfold f_X3_takeParts_63
        rw [if_neg n10, show f_X9_cell 3 (nI t) (1 : Int32) s1 = some (F (13 + 6 * t + 1), s1) from V_c3 v1 (c := 1) c (by omega), bd_mk]
        exact k89 _ (by unfold coA; rw [if_pos ⟨e, e2⟩])
    · unfold f_X3_takeParts_62 f_X3_takeParts_63
      rw [if_pos rfl]
      exact k89 _ (by unfold coA; rw [if_neg (fun z => e z.1)])
theorem ms_men {F : Nat → Int32} {L q y T : Nat} (x : Nat) (hy : ∀ t, t < T → (y.testBit t = true ↔ F (13 + 6 * t + 0) = nI q)) : ∀ n, n ≤ T → msA F L y x n = menA F (nI q) (nI L) (nI x) n := by
  intro n
  induction n with
  | zero => exact fun _ => rfl
  | succ n ih =>
    intro hn
    show msA F L y x n + (if y.testBit n = true ∧ ¬ nI L < arrA F (nI x) n then F (13 + 6 * n + 1) else 0) = menA F (nI q) (nI L) (nI x) n + (if F (13 + 6 * n + 0) = nI q ∧ ¬ nI L < arrA F (nI x) n then F (13 + 6 * n + 1) else 0)
    rw [ih (by omega)]
    have h := hy n (by omega)
    by_cases g : F (13 + 6 * n + 0) = nI q ∧ ¬ nI L < arrA F (nI x) n
    · rw [if_pos g, if_pos ⟨h.mpr g.1, g.2⟩]
    · rw [if_neg g, if_neg (fun z => g ⟨h.mp z.1, z.2⟩)]
theorem tof_bits {F : Nat → Int32} {p : Int32} {T y : Nat} (hT : T ≤ 9) (hy : y < 2 ^ T) (e : tofA F p T = nI y) : ∀ t, t < T → (y.testBit t = true ↔ F (13 + 6 * t + 0) = p) := by
  intro t ht
  have h5 : y < 512 := Nat.lt_of_lt_of_le hy (by
    calc 2 ^ T ≤ 2 ^ 9 := Nat.pow_le_pow_right (by decide) hT
      _ = 512 := rfl)
  have h := tof_lsb F p (show t < 32 by omega) T hT
  rw [e, lsb_nI h5 (by omega)] at h
  rw [h, decide_eq_true_iff]
  exact ⟨fun z => z.2, fun z => ⟨ht, z⟩⟩
theorem bits_ob {y : Nat} (hy : y < 512) : ∀ n, n ≤ 12 → bitsA (nI y) n = nI (obN y n) := by
  intro n
  induction n with
  | zero => exact fun _ => rfl
  | succ n ih =>
    intro hn
    show bitsA (nI y) n + bitOf (nI y) n = nI (obN y n + (if y.testBit n then 1 else 0))
    rw [ih (by omega), bit_nI hy (by omega)]
    cases hb : y.testBit n
    · rw [if_neg nfT, if_neg nfT, Int32.add_zero, Nat.add_zero (obN y n)]
    · rw [if_pos rfl, if_pos rfl, nI_1]
theorem ob_cut {y T : Nat} (hy : y < 2 ^ T) : ∀ c, obN y (T + c) = obN y T := by
  intro c
  induction c with
  | zero => rfl
  | succ c ih =>
    show obN y (T + c) + (if y.testBit (T + c) then 1 else 0) = obN y T
    rw [ih, Nat.testBit_lt_two_pow (Nat.lt_of_lt_of_le hy (Nat.pow_le_pow_right (by decide) (by omega))), if_neg nfT, Nat.add_zero (obN y T)]
theorem bc_ob {y T : Nat} (hT : T ≤ 9) (hy : y < 2 ^ T) : bcV (nI y) = nI (obN y T) := by
  have h5 : y < 512 := Nat.lt_of_lt_of_le hy (by
    calc 2 ^ T ≤ 2 ^ 9 := Nat.pow_le_pow_right (by decide) hT
      _ = 512 := rfl)
  have h := ob_cut hy (12 - T)
  rw [show T + (12 - T) = 12 by omega] at h
  rw [bc_bits y h5, bits_ob h5 12 (by omega), h]
def enN (F : Nat → Int32) (L T q x : Nat) : Nat := if lateA F L T q (nI x) = 0 then ofN F x T else 0
theorem D_enough (a b : Int32) (σ : St) (hI : IV σ) : ∃ r s1 s2, f_X11_enough a b σ = some (r, s1) ∧ f_X12_enough a b s1 = some (r, s2) ∧ IV s2 := by
  obtain ⟨M, T, S, E, A, U, Y, L, P, N, v⟩ := hI.vw
  have hb := v.2.2
  have h5 := hb.S512
  have hT := hb.hT
  unfold f_X11_enough f_X11_enough_18 f_X12_enough f_X12_enough_18
  rw [S_hasSide _ hb.hN hb.cN, bd_mk]
  by_cases c1 : 1 ≤ N ∧ (a = 0 ∨ a = 1)
  · obtain ⟨q, hq, rfl⟩ : ∃ i, i < 2 ∧ a = nI i := by
      rcases c1.2 with e | e
      · exact ⟨0, by omega, e⟩
      · exact ⟨1, by omega, e⟩
    rw [b2_t c1, if_neg n10, S_isPart, bd_mk]
    by_cases c2 : b = 0 ∨ b = 1
    · rw [b2_t c2, if_neg n10]
      obtain ⟨r, s1, e1, f1, g39⟩ := V_parts v hq
      have v1 : VW s1 (gr σ 59) M T S E A U Y L P N := v.fr f1 (by decide)
      have iv1 : IV s1 := hI.fr0 f1 (by decide) (fun c _ => by rw [(f1.1 58 (by decide)).1])
      obtain ⟨y, hy, ey⟩ := tof_nI (gr σ 59) (nI q) T hT
      have hyS : y < S := by rw [hb.hS]; exact hy
      have hbits := tof_bits hT hy ey
      have hC : f_X3_enoughParts (nI q) σ = some (lN (ptN (gr σ 59) L T q T y), s1) := by
        unfold f_X3_enoughParts f_X3_enoughParts_31
        rw [e1, bd_mk, V_tof v1, bd_mk, ey, if_neg (show ¬ (512 : Int32) ≤ nI y from lt_ge (m := 512) (by omega) (by omega)), inb_ln (n := 512) rfl (show y < 512 by omega) (by omega), gd_tt, nI_clamp (by omega), g39 y hyS]
      have hpt : ptN (gr σ 59) L T q T y = heN (gr σ 59) L q y T 0 := pt_he (gr σ 59) L T q hT T (Nat.le_refl _) y 0 (by omega) (by rw [Int32.add_zero])
      have hsum : smN (enN (gr σ 59) L T q) S = 100 ^ zbN y T * ptN (gr σ 59) L T q T y := by
        rw [hpt, ← gs_he v (q := q) (y := y) (fun t ht => (hbits t ht).mp) T (Nat.le_refl _) 0, hb.hS]
        refine smN_congr _ (fun x hx => ?_)
        show (if lateA (gr σ 59) L T q (nI x) = 0 then ofN (gr σ 59) x T else 0) = (if 0 + msA (gr σ 59) L y x T < gr σ 59 (11 + q) then 0 else ofN (gr σ 59) x T)
        rw [Int32.zero_add, ms_men x hbits T (Nat.le_refl _)]
        unfold lateA
        by_cases c : gr σ 59 (11 + q) ≤ menA (gr σ 59) (nI q) (nI L) (nI x) T
        · rw [if_pos c, if_pos rfl, if_neg]
          rw [le_toInt] at c
          rw [lt_toInt]
          omega
        · rw [if_neg c, if_neg n10, if_pos]
          rw [le_toInt] at c
          rw [lt_toInt]
          omega
      have hz := zo_bn y T
      have hle : ptN (gr σ 59) L T q T y ≤ 100 ^ obN y T := by
        rw [hpt]
        exact he_le (gr σ 59) L q y T (fun t ht => (v.odd ht).1) 0
      have hcb : 100 ^ zbN y T * 100 ^ obN y T = 100 ^ T := by rw [← Nat.pow_add, hz]
      obtain ⟨hh, hh0⟩ := h100 hT
      obtain ⟨r2, l1, l2⟩ := low_same (a := ptN (gr σ 59) L T q T y) (b := 100 ^ obN y T) (c := 100 ^ zbN y T) (Nat.pow_pos (by decide)) (Nat.pow_pos (by decide)) hle (by rw [hcb]; exact hh) b s1 s1
      rw [← hsum, hcb] at l2
      refine ⟨r2, s1, s1, by rw [hC, bd_mk, V_tof v1, bd_mk, ey, S_bc, bd_mk, bc_ob hT hy, V_hund (by omega), bd_mk, l1, bd_mk], ?_, iv1⟩
      rw [S_isSide _ hb.hN v1.2.2.mN, bd_mk, b2_t c1, if_neg n10, S_in, b2_t ((side_in b).mpr c2), bd_mk, if_neg n10]
      refine itr_cnt (fun i => (nI q, b, lN (smN (enN (gr σ 59) L T q) i), nI i, s1)) S _ (fun i K hi => ?_) (fun K => ?_) S 0 FU (by omega) (by unfold FU; omega)
      · unfold g_X12_enough_27 f_X12_enough_57
        dsimp only
        rw [M_allT v1, bd_mk, if_neg (show ¬ nI (S - 1) < nI i from nI_nlt (by omega) (by omega)), M_isLate v1 (nI i) hq, bd_mk, M_often v1 (show i < 512 by omega), bd_mk, nI_1]
        show _ = K (nI q, b, lN (smN (enN (gr σ 59) L T q) i + enN (gr σ 59) L T q i), nI (i + 1), s1)
        rw [show enN (gr σ 59) L T q i = if lateA (gr σ 59) L T q (nI i) = 0 then ofN (gr σ 59) i T else 0 from rfl]
        by_cases c : lateA (gr σ 59) L T q (nI i) = 0
        · rw [if_pos c, if_pos c, bnd_mk, bnd_mk, lN_add]
        · rw [if_neg c, if_neg c, bnd_mk, bnd_mk, Int64.add_zero]
          rfl
      · unfold g_X12_enough_27
        dsimp only
        rw [M_allT v1, bd_mk, if_pos (nI_lt (by omega) (by omega)), M_all v1, bd_mk, l2, bd_mk]
    · refine ⟨-2, σ, σ, by rw [b2_f c2, if_pos rfl], ?_, hI⟩
      rw [S_isSide _ hb.hN hb.mN, bd_mk, b2_t c1, if_neg n10, S_in, b2_f (fun z => c2 ((side_in b).mp z)), bd_mk, if_pos rfl]
  · refine ⟨-2, σ, σ, by rw [b2_f c1, if_pos rfl], ?_, hI⟩
    rw [S_isSide _ hb.hN hb.mN, bd_mk, b2_f c1, if_pos rfl]
