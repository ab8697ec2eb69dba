/-! ===== values: chances ===== -/
theorem gj_sj_s (σ : St) (i k j : Nat) (v : Int64) : gj (sj σ i k v) i j = if j = k then v else gj σ i j := by
  unfold sj
  rw [gj_sJ, if_pos rfl]
  rfl
theorem eu_gcd {a b : Nat} (ha : a < 2 ^ 63) (hb : b < 2 ^ 63) {m : Nat} (hn : ∀ i, i < m → (eu (lN a) (lN b) i).2 ≠ 0) : ∀ i, i ≤ m → ∃ u w : Nat, u < 2 ^ 63 ∧ w < 2 ^ 63 ∧ eu (lN a) (lN b) i = (lN u, lN w) ∧ Nat.gcd u w = Nat.gcd a b := by
  intro i
  induction i with
  | zero => exact fun _ => ⟨a, b, ha, hb, rfl, rfl⟩
  | succ i ih =>
    intro hi
    obtain ⟨u, w, hu, hw, e, g⟩ := ih (by omega)
    have h0 := hn i (by omega)
    rw [e] at h0
    have hw0 : 0 < w := by
      rcases Nat.eq_zero_or_pos w with z | z
      · exact absurd (show lN w = 0 by rw [z]; rfl) h0
      · exact z
    refine ⟨w, u % w, hw, Nat.lt_trans (Nat.mod_lt _ hw0) hw, ?_, ?_⟩
    · show ((eu (lN a) (lN b) i).2, (eu (lN a) (lN b) i).1 - (eu (lN a) (lN b) i).1 / (eu (lN a) (lN b) i).2 * (eu (lN a) (lN b) i).2) = _
      rw [e]
      dsimp only
      rw [pk_lRem hu hw0 hw]
    · rw [← g, Nat.gcd_comm u w, Nat.gcd_rec w u]
      exact Nat.gcd_comm _ _
theorem low_val {a b : Nat} (ha : a < 2 ^ 63) (hb : b < 2 ^ 63) (h1 : 0 < b) (p : Int32) (s : St) : f_X1_lowest (lN a) (lN b) p s = some (if p = 0 then lN (a / Nat.gcd a b) else lN (b / Nat.gcd a b), s) ∧ f_X12_part (lN a) (lN b) p s = some (if p = 0 then lN (a / Nat.gcd a b) else lN (b / Nat.gcd a b), s) := by
  obtain ⟨m, hm, h0, hn⟩ := eu_end (lN a) (lN b)
  obtain ⟨u, w, hu, hw, e, g⟩ := eu_gcd ha hb hn m (Nat.le_refl _)
  have hw0 : w = 0 := by
    have h2 := h0
    rw [e] at h2
    exact (pk_lEQ hw (by decide)).mp (show lN w = lN 0 from h2)
  have hd1 : 0 < Nat.gcd a b := Nat.gcd_pos_of_pos_right a h1
  have hdl : Nat.gcd a b < 2 ^ 63 := Nat.lt_of_le_of_lt (Nat.le_of_dvd h1 (Nat.gcd_dvd_right a b)) hb
  have e1 : (eu (lN a) (lN b) m).1 = lN (Nat.gcd a b) := by
    rw [hw0, Nat.gcd_zero_right] at g
    rw [e]
    show lN u = _
    rw [g]
  have hx : (if lN (Nat.gcd a b) < (1 : Int64) then (1 : Int64) else lN (Nat.gcd a b)) = lN (Nat.gcd a b) := if_neg (show ¬ lN (Nat.gcd a b) < lN 1 from fun z => by
    have := (pk_lLT hdl (by decide)).mp z
    omega)
  have hd : (!decide (lN (Nat.gcd a b) = 0)) = true := by
    rw [Bool.not_eq_true', decide_eq_false_iff_not]
    intro z
    have := (pk_lEQ hdl (by decide)).mp (show lN (Nat.gcd a b) = lN 0 from z)
    omega
  have hq : ∀ c : Nat, c < 2 ^ 63 → lN c / lN (Nat.gcd a b) = lN (c / Nat.gcd a b) := fun c hc => pk_lDiv hc hd1 hdl
  constructor
  · unfold f_X1_lowest f_X1_lowest_21
    rw [V_gcd _ _ s hm h0 hn, bd_mk, bnd_mk, e1, hx, hd, gd_tt, gd_tt]
    by_cases c : p = 0
    · rw [if_pos c, if_pos c, hq a ha]
    · rw [if_neg c, if_neg c, hq b hb]
  · unfold f_X12_part f_X12_part_10
    by_cases c : p = 0
    · rw [if_pos c, if_pos c, M_gcd _ _ s hm h0 hn, bd_mk, e1, hd, gd_tt, hq a ha]
    · rw [if_neg c, if_neg c, M_gcd _ _ s hm h0 hn, bd_mk, e1, hd, gd_tt, hq b hb]
theorem low_same {a b c : Nat} (hc : 0 < c) (hb0 : 0 < b) (hab : a ≤ b) (hb : c * b < 2 ^ 63) (p : Int32) (s s' : St) : ∃ r, f_X1_lowest (lN a) (lN b) p s = some (r, s) ∧ f_X12_part (lN (c * a)) (lN (c * b)) p s' = some (r, s') := by
  have h1 : b ≤ c * b := Nat.le_mul_of_pos_left b hc
  have h2 : c * a ≤ c * b := Nat.mul_le_mul_left c hab
  refine ⟨_, (low_val (by omega) (by omega) hb0 p s).1, ?_⟩
  rw [(low_val (a := c * a) (b := c * b) (by omega) hb (Nat.mul_pos hc hb0) p s').2, Nat.gcd_mul_left, Nat.mul_div_mul_left _ _ hc, Nat.mul_div_mul_left _ _ hc]
/-! sums -/
def smN (f : Nat → Nat) : Nat → Nat
  | 0 => 0
  | k + 1 => smN f k + f k
theorem smN_add (f : Nat → Nat) (a : Nat) : ∀ b, smN f (a + b) = smN f a + smN (fun i => f (a + i)) b := by
  intro b
  induction b with
  | zero => rfl
  | succ b ih =>
    show smN f (a + b) + f (a + b) = smN f a + (smN (fun i => f (a + i)) b + f (a + b))
    rw [ih, Nat.add_assoc]
theorem smN_mul (f : Nat → Nat) (k : Nat) : ∀ n, smN (fun i => f i * k) n = smN f n * k := by
  intro n
  induction n with
  | zero => exact (Nat.zero_mul k).symm
  | succ n ih =>
    show smN (fun i => f i * k) n + f n * k = (smN f n + f n) * k
    rw [ih, Nat.add_mul]
theorem smN_congr {f g : Nat → Nat} : ∀ n, (∀ i, i < n → f i = g i) → smN f n = smN g n := by
  intro n
  induction n with
  | zero => exact fun _ => rfl
  | succ n ih =>
    intro h
    show smN f n + f n = smN g n + g n
    rw [ih (fun i hi => h i (by omega)), h n (by omega)]
theorem smN_le {f g : Nat → Nat} : ∀ n, (∀ i, i < n → f i ≤ g i) → smN f n ≤ smN g n := by
  intro n
  induction n with
  | zero => exact fun _ => Nat.le_refl _
  | succ n ih =>
    intro h
    show smN f n + f n ≤ smN g n + g n
    exact Nat.add_le_add (ih (fun i hi => h i (by omega))) (h n (by omega))
theorem smN_two (f : Nat → Nat) (n : Nat) : smN f (2 ^ (n + 1)) = smN f (2 ^ n) + smN (fun i => f (2 ^ n + i)) (2 ^ n) := by
  rw [Nat.pow_succ, Nat.mul_two, smN_add]
/-! how often just these are late -/
def odN (F : Nat → Int32) (t : Nat) : Nat := (F (13 + 6 * t + 3)).toInt.toNat
theorem VW.odd {s : St} {F : Nat → Int32} {M T S E A U Y L P N : Nat} (v : VW s F M T S E A U Y L P N) {t : Nat} (ht : t < T) : odN F t ≤ 100 ∧ F (13 + 6 * t + 3) = nI (odN F t) := by
  have hT := v.2.2.hT
  obtain ⟨k, a1, a2, a3, a4⟩ := v.1.2.1
  obtain rfl : T = k := (nI_eq (by omega) (by omega)).mp (v.2.2.cT.symm.trans a2)
  have h3 : (0 : Int) ≤ (F (13 + 6 * t + 3)).toInt ∧ (F (13 + 6 * t + 3)).toInt ≤ 100 := (a4 t ht 3 (by omega)).2
  obtain ⟨a, ha, e⟩ := nI_ofT (x := F (13 + 6 * t + 3)) (n := 100) h3.1 h3.2
  have : odN F t = a := by
    unfold odN
    rw [e, nI_toInt (by omega), Int.toNat_natCast]
  rw [this]
  exact ⟨ha, e⟩
theorem VW.mnn {s : St} {F : Nat → Int32} {M T S E A U Y L P N : Nat} (v : VW s F M T S E A U Y L P N) {t : Nat} (ht : t < T) : ∃ a, 1 ≤ a ∧ a ≤ 99 ∧ F (13 + 6 * t + 1) = nI a := by
  have hT := v.2.2.hT
  obtain ⟨k, a1, a2, a3, a4⟩ := v.1.2.1
  obtain rfl : T = k := (nI_eq (by omega) (by omega)).mp (v.2.2.cT.symm.trans a2)
  have h1 : (1 : Int) ≤ (F (13 + 6 * t + 1)).toInt ∧ (F (13 + 6 * t + 1)).toInt ≤ 99 := (a4 t ht 1 (by omega)).2
  obtain ⟨a, ha, e⟩ := nI_ofT (x := F (13 + 6 * t + 1)) (n := 99) (by omega) h1.2
  refine ⟨a, ?_, ha, e⟩
  rw [e, nI_toInt (by omega)] at h1
  omega
def ofN (F : Nat → Int32) (x : Nat) : Nat → Nat
  | 0 => 1
  | i + 1 => ofN F x i * (if x.testBit i then odN F i else 100 - odN F i)
theorem nfT : ¬ (false = true) := by decide
theorem od_l {o : Nat} (h : o ≤ 100) : ((100 : Int32) - nI o).toInt64 = lN (100 - o) ∧ (nI o).toInt64 = lN o := by
  rw [show (100 : Int32) = nI 100 from rfl, nI_subl h, nI_l (by omega), nI_l (by omega)]
  exact ⟨rfl, rfl⟩
theorem V_often {s : St} {F : Nat → Int32} {M T S E A U Y L P N : Nat} (v : VW s F M T S E A U Y L P N) {x : Nat} (hx : x < 512) : f_X1_delayParts 1 (nI x) s = some (lN (ofN F x T), s) := by
  have hT := v.2.2.hT
  unfold f_X1_delayParts
  rw [isW_lit (Or.inl rfl), gd_tt]
  refine itr_cnt (fun i => (nI x, lN (ofN F x i), nI i, s)) T _ (fun i K hi => ?_) (fun K => ?_) T 0 FU (by omega) (by unfold FU; omega)
  · obtain ⟨ho, eo⟩ := v.odd hi
    obtain ⟨eA, eB⟩ := od_l ho
    unfold g_X1_delayParts_5 f_X1_delayParts_51
    dsimp only
    rw [isW_lit (Or.inl rfl), gd_tt, show gf s (1 + 2) 3 = nI T from v.2.2.cT, if_neg (lt_ge hi (by omega)), show f_X9_cell (1 + 2) (nI i) (3 : Int32) s = some (F (13 + 6 * i + 3), s) from V_c3 v (c := 3) hi (by omega), bd_mk, S_isIn, bd_mk, bit_nI hx (by omega), eo, eA, eB, nI_1]
    show _ = K (nI x, lN (ofN F x i * (if x.testBit i then odN F i else 100 - odN F i)), nI (i + 1), s)
    cases hb : x.testBit i
    · rw [if_neg nfT, if_neg nfT, if_pos rfl, bnd_mk, bnd_mk, lN_mul]
    · rw [if_pos rfl, if_pos rfl, if_neg n10, bnd_mk, bnd_mk, lN_mul]
  · unfold g_X1_delayParts_5
    dsimp only
    rw [isW_lit (Or.inl rfl), gd_tt, show gf s (1 + 2) 3 = nI T from v.2.2.cT, if_pos (le_rf T)]
theorem M_often {s : St} {F : Nat → Int32} {M T S E A U Y L P N : Nat} (v : VW s F M T S E A U Y L P N) {x : Nat} (hx : x < 512) : f_X12_oftenOf (nI x) s = some (lN (ofN F x T), s) := by
  have hT := v.2.2.hT
  unfold f_X12_oftenOf
  refine itr_cnt (fun i => (nI x, lN (ofN F x i), nI i, s)) T _ (fun i K hi => ?_) (fun K => ?_) T 0 FU (by omega) (by unfold FU; omega)
  · obtain ⟨ho, eo⟩ := v.odd hi
    obtain ⟨eA, eB⟩ := od_l ho
    unfold g_X12_oftenOf_5 f_X12_oftenOf_49
    dsimp only
    rw [show inb (4 : Int32) (ln 59) = true from rfl, gd_tt, show gr s 59 (4 : Int32).toNatClampNeg = nI T from v.2.2.mT, if_neg (lt_ge hi (by omega)), S_bit, bd_mk, bit_nI hx (by omega), show f_X12_of (nI i) (3 : Int32) s = some (F (13 + 6 * i + 3), s) from M_of v (c := 3) (by omega) (by omega), bd_mk, bd_mk, eo, eA, eB, nI_1]
    show _ = K (nI x, lN (ofN F x i * (if x.testBit i then odN F i else 100 - odN F i)), nI (i + 1), s)
    cases hb : x.testBit i
    · rw [if_neg nfT, if_neg nfT, if_neg (show ¬ (0 : Int32) = 1 from by decide), bnd_mk, bnd_mk, lN_mul]
    · rw [if_pos rfl, if_pos rfl, if_pos rfl, bnd_mk, bnd_mk, lN_mul]
  · unfold g_X12_oftenOf_5
    dsimp only
    rw [show inb (4 : Int32) (ln 59) = true from rfl, gd_tt, show gr s 59 (4 : Int32).toNatClampNeg = nI T from v.2.2.mT, if_pos (le_rf T)]
theorem M_all {s : St} {F : Nat → Int32} {M T S E A U Y L P N : Nat} (v : VW s F M T S E A U Y L P N) : f_X12_allOften s = some (lN (100 ^ T), s) := by
  have hT := v.2.2.hT
  unfold f_X12_allOften
  refine itr_cnt (fun i => (lN (100 ^ i), nI i, s)) T _ (fun i K hi => ?_) (fun K => ?_) T 0 FU (by omega) (by unfold FU; omega)
  · unfold g_X12_allOften_4
    dsimp only
    rw [show inb (4 : Int32) (ln 59) = true from rfl, gd_tt, show gr s 59 (4 : Int32).toNatClampNeg = nI T from v.2.2.mT, if_neg (lt_ge hi (by omega)), nI_1, bnd_mk, bnd_mk, show (100 : Int64) = lN 100 from rfl, lN_mul, Nat.pow_succ]
  · unfold g_X12_allOften_4
    dsimp only
    rw [show inb (4 : Int32) (ln 59) = true from rfl, gd_tt, show gr s 59 (4 : Int32).toNatClampNeg = nI T from v.2.2.mT, if_pos (le_rf T)]
theorem V_hund {k : Nat} (hk : k ≤ 1000) (s : St) : f_X1_hundreds (nI k) s = some (lN (100 ^ k), s) := by
  unfold f_X1_hundreds
  rw [V_power _ hk, bd_mk, show (100 : Int32).toInt64 = lN 100 from rfl, pwL_lN]
theorem of_hi (F : Nat → Int32) {x n : Nat} : ∀ i, i ≤ n → ofN F (2 ^ n + x) i = ofN F x i := by
  intro i
  induction i with
  | zero => exact fun _ => rfl
  | succ i ih =>
    intro hi
    show ofN F (2 ^ n + x) i * (if (2 ^ n + x).testBit i then odN F i else 100 - odN F i) = ofN F x i * (if x.testBit i then odN F i else 100 - odN F i)
    rw [ih (by omega), Nat.testBit_two_pow_add_gt (by omega)]
theorem of_lo (F : Nat → Int32) {x n : Nat} (hx : x < 2 ^ n) : ofN F x (n + 1) = ofN F x n * (100 - odN F n) ∧ ofN F (2 ^ n + x) (n + 1) = ofN F x n * odN F n := by
  constructor
  · show ofN F x n * (if x.testBit n then odN F n else 100 - odN F n) = _
    rw [Nat.testBit_lt_two_pow hx, if_neg nfT]
  · show ofN F (2 ^ n + x) n * (if (2 ^ n + x).testBit n then odN F n else 100 - odN F n) = _
    rw [of_hi F n (Nat.le_refl _), Nat.testBit_two_pow_add_eq, Nat.testBit_lt_two_pow hx, if_pos (show (!false) = true from rfl)]
theorem of_sum (F : Nat → Int32) : ∀ n, (∀ t, t < n → odN F t ≤ 100) → smN (fun x => ofN F x n) (2 ^ n) = 100 ^ n := by
  intro n
  induction n with
  | zero =>
    intro _
    rw [Nat.pow_zero]
    rfl
  | succ n ih =>
    intro h
    have ho := h n (by omega)
    rw [smN_two, smN_congr (f := fun x => ofN F x (n + 1)) (g := fun x => ofN F x n * (100 - odN F n)) (2 ^ n) (fun x hx => (of_lo F hx).1), smN_congr (f := fun x => ofN F (2 ^ n + x) (n + 1)) (g := fun x => ofN F x n * odN F n) (2 ^ n) (fun x hx => (of_lo F hx).2), smN_mul (fun x => ofN F x n), smN_mul (fun x => ofN F x n), ih (fun t ht => h t (by omega)), ← Nat.mul_add, show 100 - odN F n + odN F n = 100 by omega, Nat.pow_succ]
theorem h100 {T : Nat} (hT : T ≤ 9) : 100 ^ T < 2 ^ 63 ∧ 0 < 100 ^ T := by
  have h1 : (100 : Nat) ^ T ≤ 100 ^ 9 := Nat.pow_le_pow_right (by decide) hT
  have e9 : (100 : Nat) ^ 9 = 1000000000000000000 := by decide
  exact ⟨by omega, Nat.pow_pos (by decide)⟩
def cwN (F : Nat → Int32) (M E T L : Nat) (p : Int32) (x : Nat) : Nat := if winA F M E T L (nI x) = p then ofN F x T else 0
theorem D_chance (a b : Int32) (σ : St) (hI : JW σ) : ∃ r s1 s2, f_X11_chance a b σ = some (r, s1) ∧ f_X12_chance a b s1 = some (r, s2) := by
  obtain ⟨M, T, S, E, A, U, Y, L, P, N, v⟩ := hI.1.vw
  have hb := v.2.2
  have h5 := hb.S512
  have hT := hb.hT
  unfold f_X11_chance f_X11_chance_18 f_X12_chance f_X12_chance_18
  rw [S_hasSide _ hb.hN hb.cN, bd_mk]
  by_cases c1 : 1 ≤ N ∧ (a = 0 ∨ a = 1)
  · rw [b2_t c1, if_neg n10, S_isPart, bd_mk]
    by_cases c2 : b = 0 ∨ b = 1
    · rw [b2_t c2, if_neg n10]
      obtain ⟨r, s1, e1, f1, -, -, g35⟩ := V_reck v hI.2
      have v1 : VW s1 (gr σ 59) M T S E A U Y L P N := v.fr f1 (by decide)
      rw [(f1.1 59 (by decide)).2.1] at g35
      have hC : f_X2_winningParts a σ = some (lN (smN (cwN (gr σ 59) M E T L a) S), s1) := by
        unfold f_X2_winningParts
        rw [e1, bd_mk]
        refine itr_cnt (fun i => (a, lN (smN (cwN (gr σ 59) M E T L a) i), nI i, s1)) S _ (fun i K hi => ?_) (fun K => ?_) S 0 FU (by omega) (by unfold FU; omega)
        · unfold g_X2_winningParts_9 f_X2_winningParts_43
          dsimp only
          rw [V_sets v1, bd_mk, if_neg (lt_ge hi (by omega)), S_reckoned (by omega), bd_mk, g35 i hi, V_often v1 (show i < 512 by omega), bd_mk, nI_1]
          show _ = K (a, lN (smN (cwN (gr σ 59) M E T L a) i + cwN (gr σ 59) M E T L a i), nI (i + 1), s1)
          rw [show cwN (gr σ 59) M E T L a i = if winA (gr σ 59) M E T L (nI i) = a then ofN (gr σ 59) i T else 0 from rfl]
          by_cases c : winA (gr σ 59) M E T L (nI i) = a
          · rw [if_pos c, if_pos c, bnd_mk, bnd_mk, lN_add]
          · rw [if_neg c, if_neg c, bnd_mk]
            rfl
        · unfold g_X2_winningParts_9
          dsimp only
          rw [V_sets v1, bd_mk, if_pos (le_rf S)]
      have hle : smN (cwN (gr σ 59) M E T L a) S ≤ 100 ^ T := by
        rw [← of_sum (gr σ 59) T (fun t ht => (v.odd ht).1), hb.hS]
        refine smN_le _ (fun i _ => ?_)
        show (if winA (gr σ 59) M E T L (nI i) = a then ofN (gr σ 59) i T else 0) ≤ ofN (gr σ 59) i T
        split
        · exact Nat.le_refl _
        · exact Nat.zero_le _
      obtain ⟨hh, hh0⟩ := h100 hT
      have hR : Ok (fun r s' => r = (if b = 0 then lN (smN (cwN (gr σ 59) M E T L a) S / Nat.gcd (smN (cwN (gr σ 59) M E T L a) S) (100 ^ T)) else lN (100 ^ T / Nat.gcd (smN (cwN (gr σ 59) M E T L a) S) (100 ^ T))) ∧ Fr [65] s1 s') (itr g_X12_chance_27 FU (a, b, 0, 0, s1)) := by
        refine okC (fun (i : Nat) (y : Int32 × Int32 × Int64 × Int32 × St) => y.1 = a ∧ y.2.1 = b ∧ y.2.2.1 = lN (smN (cwN (gr σ 59) M E T L a) i) ∧ y.2.2.2.1 = nI i ∧ Fr [65] s1 y.2.2.2.2) S ?_ (i := 0) (by unfold FU; omega) (by omega) ⟨rfl, rfl, rfl, rfl, Fr.rf⟩
        rintro i ⟨y1, y2, y3, y4, s3⟩ K hi ⟨e1, e2, e3, e4, hf⟩ hK
        dsimp only at e1 e2 e3 e4 hf
        subst e1 e2 e3 e4
        have v3 := v1.fr hf (by decide)
        unfold g_X12_chance_27 f_X12_chance_57
        dsimp only
        rw [M_allT v3, bd_mk]
        refine okI (fun c => ?_) (fun c => ?_)
        · have : i = S := by
            rw [nI_ltI (by omega) (by omega)] at c
            omega
          rw [this, M_all v3, bd_mk, (low_val (Nat.lt_of_le_of_lt hle hh) hh hh0 y2 s3).2, bd_mk]
          exact okR ⟨rfl, hf⟩
        · have hiS : i < S := by
            rw [nI_ltI (by omega) (by omega)] at c
            omega
          obtain ⟨r4, s4, e4, q4, f4⟩ := M_winner v3 (nI i)
          rw [e4, bd_mk, q4, M_often (v3.fr f4 (by decide)) (show i < 512 by omega), bd_mk, nI_1]
          have nx : smN (cwN (gr σ 59) M E T L y1) (i + 1) = smN (cwN (gr σ 59) M E T L y1) i + (if winA (gr σ 59) M E T L (nI i) = y1 then ofN (gr σ 59) i T else 0) := rfl
          refine okI (fun w => hK _ hiS ⟨rfl, rfl, ?_, rfl, hf.tr f4⟩) (fun w => hK _ hiS ⟨rfl, rfl, ?_, rfl, hf.tr f4⟩)
          · rw [nx, if_pos w, ← lN_add]
          · rw [nx, if_neg w]
            show lN _ + 0 = _
            rw [Int64.add_zero]
            rfl
      obtain ⟨r2, s2, h2, q2, -⟩ := hR
      refine ⟨_, s1, s2, by rw [hC, bd_mk, show gf s1 3 3 = nI T from v1.2.2.cT, V_hund (by omega), bd_mk, (low_val (Nat.lt_of_le_of_lt hle hh) hh hh0 b s1).1, bd_mk], ?_⟩
      rw [S_isSide _ hb.hN v1.2.2.mN, bd_mk, b2_t c1, if_neg n10, S_in, b2_t ((side_in b).mpr c2), bd_mk, if_neg n10, ← q2]
      exact h2
    · refine ⟨-2, σ, σ, by rw [b2_f c2, if_pos rfl], ?_⟩
      rw [S_isSide _ hb.hN hb.mN, bd_mk, b2_t c1, if_neg n10, S_in, b2_f (fun z => c2 ((side_in b).mp z)), bd_mk, if_pos rfl]
  · refine ⟨-2, σ, σ, by rw [b2_f c1, if_pos rfl], ?_⟩
    rw [S_isSide _ hb.hN hb.mN, bd_mk, b2_f c1, if_pos rfl]
