/-! ===== values: Wednesdays without rain ===== -/
/-- Euclid's steps -/
def eu (a b : Int64) : Nat → Int64 × Int64
  | 0 => (a, b)
  | i + 1 => ((eu a b i).2, (eu a b i).1 - (eu a b i).1 / (eu a b i).2 * (eu a b i).2)
theorem eu_dec (a b : Int64) (i : Nat) (h : (eu a b i).2 ≠ 0) : eum (eu a b (i + 1)).1.toInt.natAbs (eu a b (i + 1)).2.toInt.natAbs < eum (eu a b i).1.toInt.natAbs (eu a b i).2.toInt.natAbs := by
  show eum (eu a b i).2.toInt.natAbs ((eu a b i).1 - (eu a b i).1 / (eu a b i).2 * (eu a b i).2).toInt.natAbs < _
  rw [i64_rem, Int.natAbs_tmod]
  exact eum_lt (na0 h)
theorem eu_end (a b : Int64) : ∃ m, m ≤ 200 ∧ (eu a b m).2 = 0 ∧ ∀ i, i < m → (eu a b i).2 ≠ 0 := by
  by_cases c : ∃ n, n ≤ 200 ∧ (eu a b n).2 = 0
  · obtain ⟨n, hn, h0⟩ := c
    obtain ⟨k, hk, hq, hl⟩ := least (Q := fun n => (eu a b n).2 = 0) n h0
    exact ⟨k, by omega, hq, hl⟩
  · exfalso
    have hne : ∀ n, n ≤ 200 → (eu a b n).2 ≠ 0 := fun n hn h0 => c ⟨n, hn, h0⟩
    have key : ∀ i, i ≤ 200 → eum (eu a b i).1.toInt.natAbs (eu a b i).2.toInt.natAbs + i ≤ 200 := by
      intro i
      induction i with
      | zero =>
        intro _
        have := eum_le (na64 a) (na64 b)
        show eum a.toInt.natAbs b.toInt.natAbs + 0 ≤ 200
        omega
      | succ i ih =>
        intro hi
        have h1 := ih (by omega)
        have h2 := eu_dec a b i (hne i (by omega))
        omega
    have h1 := key 200 (by omega)
    have h2 := na0 (hne 200 (by omega))
    have h3 : 1 ≤ eum (eu a b 200).1.toInt.natAbs (eu a b 200).2.toInt.natAbs := by
      unfold eum
      rw [if_neg h2]
      omega
    omega
theorem lcmp_00 : lg_cmp 0 0 = 0 := by decide
theorem lcmp_n0 {x : Int64} (h : x ≠ 0) : ¬ lg_cmp x 0 = 0 := fun z => h (cmp0' z)
theorem V_gcd (a b : Int64) (s : St) {m : Nat} (hm : m ≤ 200) (h0 : (eu a b m).2 = 0) (hn : ∀ i, i < m → (eu a b i).2 ≠ 0) : f_X1_commonDivisor a b s = some ((eu a b m).1, s) := by
  unfold f_X1_commonDivisor
  refine itr_cnt (fun i => ((eu a b i).1, (eu a b i).2, nI i, s)) m _ (fun i K hi => ?_) (fun K => ?_) m 0 FU (by omega) (by unfold FU; omega)
  · unfold g_X1_commonDivisor_3
    dsimp only
    rw [if_neg (show ¬ (200 : Int32) ≤ nI i from lt_ge (m := 200) (by omega) (by omega)), if_neg (lcmp_n0 (hn i hi)), ndz (lcmp_n0 (hn i hi)), gd_tt, nI_1]
    rfl
  · unfold g_X1_commonDivisor_3 f_X1_commonDivisor_33
    dsimp only
    by_cases c : (200 : Int32) ≤ nI m
    · rw [if_pos c]
    · rw [if_neg c, h0, if_pos lcmp_00]
theorem M_gcd (a b : Int64) (s : St) {m : Nat} (hm : m ≤ 200) (h0 : (eu a b m).2 = 0) (hn : ∀ i, i < m → (eu a b i).2 ≠ 0) : f_X12_divisor a b s = some ((eu a b m).1, s) := by
  unfold f_X12_divisor
  refine itr_cnt (fun i => ((eu a b i).1, (eu a b i).2, s)) m _ (fun i K hi => ?_) (fun K => ?_) m 0 FU (by omega) (by unfold FU; omega)
  · unfold g_X12_divisor_6
    dsimp only
    rw [if_neg (lcmp_n0 (hn i hi)), ndz (lcmp_n0 (hn i hi)), gd_tt]
    rfl
  · unfold g_X12_divisor_6
    dsimp only
    rw [h0, if_pos lcmp_00]
theorem eu_pos {a b : Int64} (ha : 0 ≤ a.toInt) (hb : 1 ≤ b.toInt) : ∀ i, 0 ≤ (eu a b i).1.toInt ∧ 0 ≤ (eu a b i).2.toInt ∧ ((eu a b i).1 ≠ 0 ∨ (eu a b i).2 ≠ 0) ∨ ∃ j, j < i ∧ (eu a b j).2 = 0 := by
  intro i
  induction i with
  | zero =>
    refine Or.inl ⟨ha, by show 0 ≤ b.toInt; omega, Or.inr ?_⟩
    show b ≠ 0
    rintro rfl
    have z0 : (0 : Int64).toInt = 0 := rfl
    omega
  | succ i ih =>
    rcases ih with ⟨h1, h2, h3⟩ | ⟨j, hj, h⟩
    · by_cases c : (eu a b i).2 = 0
      · exact Or.inr ⟨i, by omega, c⟩
      · refine Or.inl ⟨h2, ?_, Or.inl c⟩
        show 0 ≤ ((eu a b i).1 - (eu a b i).1 / (eu a b i).2 * (eu a b i).2).toInt
        rw [i64_rem]
        exact Int.tmod_nonneg _ h1
    · exact Or.inr ⟨j, by omega, h⟩
theorem low_part {a b : Int64} (ha : 0 ≤ a.toInt) (hb : 1 ≤ b.toInt) (p : Int32) (s s' : St) : ∃ r, f_X1_lowest a b p s = some (r, s) ∧ f_X12_part a b p s' = some (r, s') := by
  obtain ⟨m, hm, h0, hn⟩ := eu_end a b
  have z0 : (0 : Int64).toInt = 0 := rfl
  have z1 : (1 : Int64).toInt = 1 := rfl
  have hg : 1 ≤ (eu a b m).1.toInt := by
    rcases eu_pos ha hb m with ⟨h1, h2, h3⟩ | ⟨j, hj, h⟩
    · have hne := h3.resolve_right (fun z => z h0)
      by_cases c : (eu a b m).1.toInt = 0
      · exact absurd (Int64.toInt_inj.mp (c.trans z0.symm)) hne
      · omega
    · exact absurd h (hn j hj)
  have hne : (eu a b m).1 ≠ 0 := fun z => by rw [z] at hg; omega
  have hx : (if (eu a b m).1 < (1 : Int64) then (1 : Int64) else (eu a b m).1) = (eu a b m).1 := by
    rw [if_neg]
    rw [Int64.lt_iff_toInt_lt]
    omega
  have hd : (!decide ((eu a b m).1 = 0)) = true := by
    rw [Bool.not_eq_true', decide_eq_false_iff_not]
    exact hne
  unfold f_X1_lowest f_X1_lowest_21 f_X12_part f_X12_part_10
  rw [V_gcd a b s hm h0 hn, bd_mk, bnd_mk, hx, M_gcd a b s' hm h0 hn, bd_mk, hd, gd_tt, gd_tt, bd_mk, gd_tt]
  by_cases c : p = 0
  · exact ⟨_, by rw [if_pos c], by rw [if_pos c]⟩
  · exact ⟨_, by rw [if_neg c], by rw [if_neg c, hd, gd_tt]⟩
/-! powers, choices -/
def pwL (b : Int64) : Nat → Int64
  | 0 => 1
  | j + 1 => pwL b j * b
theorem V_power (p : Int32) {k : Nat} (hk : k ≤ 1000) (s : St) : f_X1_power p (nI k) s = some (pwL p.toInt64 k, s) := by
  unfold f_X1_power
  refine itr_cnt (fun i => (p, nI k, pwL p.toInt64 i, nI i, s)) k _ (fun i K hi => ?_) (fun K => ?_) k 0 FU (by omega) (by unfold FU; omega)
  · unfold g_X1_power_5
    dsimp only
    rw [if_neg (lt_ge hi (by omega)), nI_1]
    rfl
  · unfold g_X1_power_5
    dsimp only
    rw [if_pos (le_rf k)]
def chC (n k : Nat) : Nat → Int64
  | 0 => 1
  | j + 1 => (chC n k j * ((nI n - nI k) + nI (j + 1)).toInt64) / (nI (j + 1)).toInt64
def chM (n : Nat) : Nat → Int64
  | 0 => 1
  | j + 1 => (chM n j * (nI n - nI j).toInt64) / (nI j + 1).toInt64
def binT : List (List Nat) := [[1], [1, 1], [1, 2, 1], [1, 3, 3, 1], [1, 4, 6, 4, 1], [1, 5, 10, 10, 5, 1], [1, 6, 15, 20, 15, 6, 1], [1, 7, 21, 35, 35, 21, 7, 1], [1, 8, 28, 56, 70, 56, 28, 8, 1], [1, 9, 36, 84, 126, 126, 84, 36, 9, 1]]
def binN (n k : Nat) : Nat := (binT.getD n []).getD k 0
theorem ch_eq : ∀ n, n < 10 → ∀ k, k < 10 → k ≤ n → chC n k k = Int64.ofNat (binN n k) ∧ chM n k = Int64.ofNat (binN n k) := by decide +kernel
theorem bin_le : ∀ n, n < 10 → ∀ k, k < 10 → k ≤ n → ∀ r, r < 101 → binN n k * (100 - r) ^ k * r ^ (n - k) ≤ 100 ^ n := by decide +kernel
theorem nz64 {j : Nat} (h1 : 1 ≤ j) (h2 : j ≤ 100) : (!decide ((nI j).toInt64 = 0)) = true := by
  rw [Bool.not_eq_true', decide_eq_false_iff_not]
  intro e
  have e2 := congrArg Int64.toInt e
  rw [Int32.toInt_toInt64, nI_toInt (by omega)] at e2
  have z0 : (0 : Int64).toInt = 0 := rfl
  omega
theorem V_choices {n k : Nat} (hk : k ≤ 9) (s : St) : f_X1_choices (nI n) (nI k) s = some (chC n k k, s) := by
  unfold f_X1_choices
  refine itr_cnt (fun i => (nI n, nI k, chC n k i, nI (i + 1), s)) k _ (fun i K hi => ?_) (fun K => ?_) k 0 FU (by omega) (by unfold FU; omega)
  · unfold g_X1_choices_5
    dsimp only
    rw [if_neg (nI_nlt (by omega) (by omega)), nz64 (by omega) (by omega), gd_tt, nI_1]
    rfl
  · unfold g_X1_choices_5
    dsimp only
    rw [if_pos (nI_lt (by omega) (by omega))]
theorem pwL_lN (x : Nat) : ∀ k, pwL (lN x) k = lN (x ^ k) := by
  intro k
  induction k with
  | zero => rfl
  | succ k ih =>
    show pwL (lN x) k * lN x = lN (x ^ (k + 1))
    rw [ih, lN_mul, Nat.pow_succ]
/-- the reference's product -/
def prA (c a b : Int64) (k : Nat) : Nat → Int64
  | 0 => c
  | j + 1 => prA c a b k j * (if k ≤ j then b else a)
theorem prA_eq (c a b : Int64) (k : Nat) : ∀ j, prA c a b k j = if j ≤ k then c * pwL a j else (c * pwL a k) * pwL b (j - k) := by
  intro j
  induction j with
  | zero =>
    rw [if_pos (by omega)]
    show c = c * 1
    rw [Int64.mul_one]
  | succ j ih =>
    show prA c a b k j * (if k ≤ j then b else a) = _
    rw [ih]
    by_cases c1 : j + 1 ≤ k
    · rw [if_pos (by omega), if_neg (by omega), if_pos c1, Int64.mul_assoc]
      rfl
    · rw [if_neg c1]
      by_cases c2 : j = k
      · subst c2
        rw [if_pos (by omega), if_pos (by omega), show j + 1 - j = 1 by omega]
        show _ = (c * pwL a j) * (1 * b)
        rw [Int64.one_mul]
      · rw [if_neg (by omega), if_pos (by omega), Int64.mul_assoc, show j + 1 - k = (j - k) + 1 by omega]
        rfl
theorem D_dry (a b c : Int32) (σ : St) (hI : IV σ) : ∃ r s1 s2, f_X11_dry a b c σ = some (r, s1) ∧ f_X12_dry a b c s1 = some (r, s2) ∧ IV s2 := by
  obtain ⟨M, T, S, E, A, U, Y, L, P, N, v⟩ := hI.vw
  have hN := v.2.2.hN
  have z0 : (0 : Int32).toInt = 0 := rfl
  have z1 : (1 : Int32).toInt = 1 := rfl
  have z9 : (9 : Int32).toInt = 9 := rfl
  obtain ⟨q, hq, q1, q2⟩ : ∃ q, q ≤ 100 ∧ gf σ 1 4 = nI q ∧ gr σ 59 3 = nI q := by
    obtain ⟨l, m, a', p, r, d, e, y1, y2, y3, y4, y5, y6, y7, y8, u1, u2, u3, u4, u5, u6, u7, u8, u9, u10, -⟩ := v.1.1
    exact ⟨r, y5, u9, u10⟩
  unfold f_X11_dry f_X11_dry_37 f_X12_dry f_X12_dry_40
  rw [S_isTold hN v.2.2.cN, bd_mk]
  by_cases c0 : 1 ≤ N
  · rw [b2_t c0, if_neg n10]
    by_cases c1 : 1 ≤ a.toInt ∧ a.toInt ≤ 9
    · obtain ⟨n, hn, rfl⟩ := nI_ofT (x := a) (n := 9) (by omega) c1.2
      rw [if_neg (by rw [lt_toInt]; omega), if_neg (show ¬ (9 : Int32) < nI n from by rw [lt_toInt]; omega)]
      by_cases c2 : 0 ≤ b.toInt ∧ b.toInt ≤ (nI n).toInt
      · obtain ⟨k, hk, rfl⟩ := nI_ofT (x := b) (n := 9) c2.1 (by omega)
        have hkn : k ≤ n := by
          have := c2.2
          rw [nI_toInt (by omega), nI_toInt (by omega)] at this
          omega
        rw [if_neg (nI_pos (by omega)), if_neg (nI_nlt hkn (by omega)), S_isPart, bd_mk]
        by_cases c3 : c = 0 ∨ c = 1
        · rw [b2_t c3, if_neg n10]
          obtain ⟨ec, em⟩ := ch_eq n (by omega) k (by omega) hkn
          have hle := bin_le n (by omega) k (by omega) hkn q (by omega)
          have h100 : (100 : Nat) ^ n ≤ 100 ^ 9 := Nat.pow_le_pow_right (by decide) hn
          have h1n : 1 ≤ (100 : Nat) ^ n := Nat.one_le_pow _ _ (by decide)
          have e9 : (100 : Nat) ^ 9 = 1000000000000000000 := by decide
          have eA : ((100 : Int32) - nI q).toInt64 = lN (100 - q) := by
            rw [show (100 : Int32) = nI 100 from rfl, nI_subl hq, nI_l (by omega)]
          have eB : (nI q).toInt64 = lN q := nI_l (by omega)
          have eX : (Int64.ofNat (binN n k) * pwL (lN (100 - q)) k) * pwL (lN q) (n - k) = lN (binN n k * (100 - q) ^ k * q ^ (n - k)) := by
            rw [pwL_lN, pwL_lN, show Int64.ofNat (binN n k) = lN (binN n k) from rfl, lN_mul, lN_mul]
          have hX : (lN (binN n k * (100 - q) ^ k * q ^ (n - k))).toInt = ((binN n k * (100 - q) ^ k * q ^ (n - k) : Nat) : Int) := Int64.toInt_ofNat_of_lt (by omega)
          have hH : (lN (100 ^ n)).toInt = ((100 ^ n : Nat) : Int) := Int64.toInt_ofNat_of_lt (by omega)
          obtain ⟨r, l1, l2⟩ := low_part (a := lN (binN n k * (100 - q) ^ k * q ^ (n - k))) (b := lN (100 ^ n)) (by omega) (by omega) c σ σ
          refine ⟨r, σ, σ, ?_, ?_, hI⟩
          · unfold f_X1_dryParts f_X1_hundreds
            rw [q1, V_choices hk, bd_mk, V_power _ (by omega), bd_mk, nI_subl hkn, V_power _ (by omega), bd_mk, bd_mk, V_power _ (by omega), bd_mk, bd_mk, eA, eB, ec, eX, show (100 : Int32).toInt64 = lN 100 from rfl, pwL_lN, l1, bd_mk]
          · rw [S_isWar hN v.2.2.mN, bd_mk, b2_t c0, if_neg n10, M_inB _ 1 9 (a := 1) (b := 9) rfl rfl, bd_mk, b2_t c1, if_neg n10, M_inB _ 0 (nI n).toInt64 (a := 0) (b := (nI n).toInt) rfl (by rw [Int32.toInt_toInt64]), bd_mk, b2_t c2, if_neg n10, S_in, b2_t ((side_in c).mpr c3), bd_mk, if_neg n10]
            refine itr_cnt (fun j => (nI n, nI k, c, chM n j, (1 : Int64), nI j, σ)) k _ (fun j K hj => ?_) (fun K => ?_) k 0 FU (by omega) (by unfold FU; omega)
            · unfold g_X12_dry_53
              dsimp only
              rw [if_neg (lt_ge hj (by omega)), show (!decide ((nI j + 1).toInt64 = 0)) = true from by rw [nI_1]; exact nz64 (by omega) (by omega), gd_tt, bnd_mk, bnd_mk, nI_1 j]
              show K (nI n, nI k, c, (chM n j * (nI n - nI j).toInt64) / (nI (j + 1)).toInt64, 1, nI (j + 1), σ) = K (nI n, nI k, c, (chM n j * (nI n - nI j).toInt64) / (nI j + 1).toInt64, 1, nI (j + 1), σ)
              rw [nI_1]
            · unfold g_X12_dry_53
              dsimp only
              rw [if_pos (le_rf k)]
              refine itr_cnt (fun j => (nI n, nI k, c, prA (chM n k) (lN (100 - q)) (lN q) k j, pwL (lN 100) j, nI j, σ)) n _ (fun j Z hj => ?_) (fun Z => ?_) n 0 FU (by omega) (by unfold FU; omega)
              · unfold g_X12_dry_84 f_X12_dry_118
                dsimp only
                rw [if_neg (lt_ge hj (by omega)), show inb (3 : Int32) (ln 59) = true from rfl, gd_tt, gd_tt, show gr σ 59 (3 : Int32).toNatClampNeg = nI q from q2, eA, eB, nI_1]
                show _ = Z (nI n, nI k, c, prA (chM n k) (lN (100 - q)) (lN q) k j * (if k ≤ j then lN q else lN (100 - q)), pwL (lN 100) j * lN 100, nI (j + 1), σ)
                by_cases g : k ≤ j
                · rw [if_pos (nI_le g (by omega)), if_pos g]
                  rfl
                · rw [if_neg (nI_ge (by omega) (by omega)), if_neg g]
                  rfl
              · unfold g_X12_dry_84
                dsimp only
                rw [if_pos (le_rf n), prA_eq]
                have eP : (if n ≤ k then chM n k * pwL (lN (100 - q)) n else (chM n k * pwL (lN (100 - q)) k) * pwL (lN q) (n - k)) = lN (binN n k * (100 - q) ^ k * q ^ (n - k)) := by
                  by_cases g : n ≤ k
                  · obtain rfl : n = k := by omega
                    rw [if_pos g, ← eX, em, Nat.sub_self]
                    show _ = _ * 1
                    rw [Int64.mul_one]
                  · rw [if_neg g, em, eX]
                rw [eP, pwL_lN, l2, bd_mk]
        · refine ⟨-2, σ, σ, by rw [b2_f c3, if_pos rfl], ?_, hI⟩
          rw [S_isWar hN v.2.2.mN, bd_mk, b2_t c0, if_neg n10, M_inB _ 1 9 (a := 1) (b := 9) rfl rfl, bd_mk, b2_t c1, if_neg n10, M_inB _ 0 (nI n).toInt64 (a := 0) (b := (nI n).toInt) rfl (by rw [Int32.toInt_toInt64]), bd_mk, b2_t c2, if_neg n10, S_in, b2_f (fun z => c3 ((side_in c).mp z)), bd_mk, if_pos rfl]
      · refine ⟨-2, σ, σ, ?_, ?_, hI⟩
        · by_cases e : b < 0
          · rw [if_pos e]
          · rw [if_neg e, if_pos]
            rw [lt_toInt] at e
            rw [lt_toInt]
            omega
        · rw [S_isWar hN v.2.2.mN, bd_mk, b2_t c0, if_neg n10, M_inB _ 1 9 (a := 1) (b := 9) rfl rfl, bd_mk, b2_t c1, if_neg n10, M_inB _ 0 (nI n).toInt64 (a := 0) (b := (nI n).toInt) rfl (by rw [Int32.toInt_toInt64]), bd_mk, b2_f c2, if_pos rfl]
    · refine ⟨-2, σ, σ, ?_, ?_, hI⟩
      · by_cases e : a < (1 : Int32)
        · rw [if_pos e]
        · rw [if_neg e, if_pos]
          rw [lt_toInt] at e
          rw [lt_toInt]
          omega
      · rw [S_isWar hN v.2.2.mN, bd_mk, b2_t c0, if_neg n10, M_inB _ 1 9 (a := 1) (b := 9) rfl rfl, bd_mk, b2_f c1, if_pos rfl]
  · refine ⟨-2, σ, σ, by rw [b2_f c0, if_pos rfl], ?_, hI⟩
    rw [S_isWar hN v.2.2.mN, bd_mk, b2_f c0, if_pos rfl]
