/-! ===== values: trains to have delayed, trains to guard ===== -/
/-- the TRAINS of a side -/
def tofA (F : Nat → Int32) (p : Int32) : Nat → Int32
  | 0 => 0
  | i + 1 => tofA F p i ||| (if F (13 + 6 * i + 0) = p then (1 : Int32) <<< (nI i &&& 31) else 0)
theorem V_tof {s : St} {F : Nat → Int32} {M T S E A U Y L P N : Nat} (v : VW s F M T S E A U Y L P N) (p : Int32) : f_X10_trainsOf 1 p s = some (tofA F p T, s) := by
  have hT := v.2.2.hT
  unfold f_X10_trainsOf
  rw [isW_lit (Or.inl rfl), gd_tt]
  refine itr_cnt (fun i => (p, tofA F p i, nI i, s)) T _ (fun i K hi => ?_) (fun K => ?_) T 0 FU (by omega) (by unfold FU; omega)
  · unfold g_X10_trainsOf_4 f_X10_trainsOf_34
    dsimp only
    rw [isW_lit (Or.inl rfl), gd_tt, show gf s (1 + 2) 3 = nI T from v.2.2.cT, if_neg (lt_ge hi (by omega)), show f_X9_cell (1 + 2) (nI i) (0 : Int32) s = some (F (13 + 6 * i + 0), s) from V_c3 v (c := 0) hi (by omega), bd_mk, nI_1]
    show _ = K (p, tofA F p i ||| (if F (13 + 6 * i + 0) = p then (1 : Int32) <<< (nI i &&& 31) else 0), nI (i + 1), s)
    by_cases c : F (13 + 6 * i + 0) = p
    · rw [if_pos c, if_pos c]
      rfl
    · rw [if_neg c, if_neg c, or0]
      rfl
  · unfold g_X10_trainsOf_4
    dsimp only
    rw [isW_lit (Or.inl rfl), gd_tt, show gf s (1 + 2) 3 = nI T from v.2.2.cT, if_pos (le_rf T)]
theorem M_tof {s : St} {F : Nat → Int32} {M T S E A U Y L P N : Nat} (v : VW s F M T S E A U Y L P N) (p : Int32) : f_X12_trainsOf p s = some (tofA F p T, s) := by
  have hT := v.2.2.hT
  unfold f_X12_trainsOf
  refine itr_cnt (fun i => (p, tofA F p i, nI i, s)) T _ (fun i K hi => ?_) (fun K => ?_) T 0 FU (by omega) (by unfold FU; omega)
  · unfold g_X12_trainsOf_4 f_X12_trainsOf_32
    dsimp only
    rw [show inb (4 : Int32) (ln 59) = true from rfl, gd_tt, show gr s 59 (4 : Int32).toNatClampNeg = nI T from v.2.2.mT, if_neg (lt_ge hi (by omega)), show f_X12_of (nI i) (0 : Int32) s = some (F (13 + 6 * i + 0), s) from M_of v (c := 0) (by omega) (by omega), bd_mk, nI_1]
    show _ = K (p, tofA F p i ||| (if F (13 + 6 * i + 0) = p then (1 : Int32) <<< (nI i &&& 31) else 0), nI (i + 1), s)
    by_cases c : F (13 + 6 * i + 0) = p
    · rw [if_pos c, if_pos c]
      rfl
    · rw [if_neg c, if_neg c]
      rfl
  · unfold g_X12_trainsOf_4
    dsimp only
    rw [show inb (4 : Int32) (ln 59) = true from rfl, gd_tt, show gr s 59 (4 : Int32).toNatClampNeg = nI T from v.2.2.mT, if_pos (le_rf T)]
theorem tof_nI (F : Nat → Int32) (p : Int32) : ∀ n, n ≤ 9 → ∃ k, k < 2 ^ n ∧ tofA F p n = nI k := by
  intro n
  induction n with
  | zero => exact fun _ => ⟨0, by decide, rfl⟩
  | succ n ih =>
    intro hn
    obtain ⟨k, hk, e⟩ := ih (by omega)
    show ∃ k, k < 2 ^ (n + 1) ∧ tofA F p n ||| (if F (13 + 6 * n + 0) = p then (1 : Int32) <<< (nI n &&& 31) else 0) = nI k
    have h2 : 2 ^ n < 2 ^ (n + 1) := Nat.pow_lt_pow_right (by decide) (by omega)
    rw [e]
    by_cases c : F (13 + 6 * n + 0) = p
    · rw [if_pos c, nI_sh1 n (by omega), nI_or]
      exact ⟨_, Nat.or_lt_two_pow (by omega) h2, rfl⟩
    · rw [if_neg c, or0]
      exact ⟨k, by omega, rfl⟩
theorem tof_lsb (F : Nat → Int32) (p : Int32) {j : Nat} (hj : j < 32) : ∀ n, n ≤ 9 → (tofA F p n).toBitVec.getLsbD j = decide (j < n ∧ F (13 + 6 * j + 0) = p) := by
  intro n
  induction n with
  | zero =>
    intro _
    rw [decide_eq_false (by omega)]
    exact lsb_0 j
  | succ n ih =>
    intro hn
    show (tofA F p n ||| (if F (13 + 6 * n + 0) = p then (1 : Int32) <<< (nI n &&& 31) else 0)).toBitVec.getLsbD j = _
    rw [Int32.toBitVec_or, BitVec.getLsbD_or, ih (by omega)]
    by_cases c : F (13 + 6 * n + 0) = p
    · rw [if_pos c, lsb_sh (by omega) hj]
      by_cases g : j = n
      · subst g
        rw [decide_eq_true (rfl : j = j), Bool.or_true, decide_eq_true ⟨by omega, c⟩]
      · rw [decide_eq_false g, Bool.or_false]
        apply decide_eq_decide.mpr
        constructor
        · exact fun z => ⟨by omega, z.2⟩
        · exact fun z => ⟨by omega, z.2⟩
    · rw [if_neg c, lsb_0, Bool.or_false]
      apply decide_eq_decide.mpr
      constructor
      · exact fun z => ⟨by omega, z.2⟩
      · intro z
        refine ⟨?_, z.2⟩
        by_cases g : j = n
        · subst g; exact absurd z.2 c
        · omega
/-- what a set costs -/
def prcA (F : Nat → Int32) (x : Int32) : Nat → Int32
  | 0 => 0
  | i + 1 => prcA F x i + bitOf x i * F (13 + 6 * i + 5)
theorem V_price {s : St} {F : Nat → Int32} {M T S E A U Y L P N : Nat} (v : VW s F M T S E A U Y L P N) {x : Int32} (hx : ¬ x = -1) : f_X10_priceOf 1 x s = some (prcA F x T, s) := by
  have hT := v.2.2.hT
  unfold f_X10_priceOf
  rw [isW_lit (Or.inl rfl), gd_tt, if_neg hx]
  refine itr_cnt (fun i => (x, prcA F x i, nI i, s)) T _ (fun i K hi => ?_) (fun K => ?_) T 0 FU (by omega) (by unfold FU; omega)
  · unfold g_X10_priceOf_11 f_X10_priceOf_42
    dsimp only
    rw [isW_lit (Or.inl rfl), gd_tt, show gf s (1 + 2) 3 = nI T from v.2.2.cT, if_neg (lt_ge hi (by omega)), S_isIn, bd_mk, nI_1]
    show _ = K (x, prcA F x i + bitOf x i * F (13 + 6 * i + 5), nI (i + 1), s)
    rcases bit01 x i with e | e
    · rw [e, if_pos rfl, Int32.zero_mul, Int32.add_zero]
      rfl
    · rw [e, if_neg n10, isW_lit (Or.inl rfl), gd_tt, show f_X9_cell (1 + 2) (nI i) (5 : Int32) s = some (F (13 + 6 * i + 5), s) from V_c3 v (c := 5) hi (by omega), bd_mk, Int32.one_mul]
      rfl
  · unfold g_X10_priceOf_11
    dsimp only
    rw [isW_lit (Or.inl rfl), gd_tt, show gf s (1 + 2) 3 = nI T from v.2.2.cT, if_pos (le_rf T)]
theorem M_price {s : St} {F : Nat → Int32} {M T S E A U Y L P N : Nat} (v : VW s F M T S E A U Y L P N) (x : Int32) : f_X12_priceOf x s = some (prcA F x T, s) := by
  have hT := v.2.2.hT
  unfold f_X12_priceOf
  refine itr_cnt (fun i => (x, prcA F x i, nI i, s)) T _ (fun i K hi => ?_) (fun K => ?_) T 0 FU (by omega) (by unfold FU; omega)
  · unfold g_X12_priceOf_4
    dsimp only
    rw [show inb (4 : Int32) (ln 59) = true from rfl, gd_tt, show gr s 59 (4 : Int32).toNatClampNeg = nI T from v.2.2.mT, if_neg (lt_ge hi (by omega)), S_bit, bd_mk, show f_X12_of (nI i) (5 : Int32) s = some (F (13 + 6 * i + 5), s) from M_of v (c := 5) (by omega) (by omega), bd_mk, nI_1]
    rfl
  · unfold g_X12_priceOf_4
    dsimp only
    rw [show inb (4 : Int32) (ln 59) = true from rfl, gd_tt, show gr s 59 (4 : Int32).toNatClampNeg = nI T from v.2.2.mT, if_pos (le_rf T)]
theorem VW.prc {s : St} {F : Nat → Int32} {M T S E A U Y L P N : Nat} (v : VW s F M T S E A U Y L P N) {t : Nat} (ht : t < T) : ∃ a, a ≤ 999 ∧ F (13 + 6 * t + 5) = nI a := by
  have hT := v.2.2.hT
  obtain ⟨k, a1, a2, a3, a4⟩ := v.1.2.1
  obtain rfl : T = k := (nI_eq (by omega) (by omega)).mp (v.2.2.cT.symm.trans a2)
  have h5 : (0 : Int) ≤ (F (13 + 6 * t + 5)).toInt ∧ (F (13 + 6 * t + 5)).toInt ≤ 999 := (a4 t ht 5 (by omega)).2
  exact nI_ofT h5.1 h5.2
theorem prc_b {s : St} {F : Nat → Int32} {M T S E A U Y L P N : Nat} (v : VW s F M T S E A U Y L P N) (x : Int32) : ∀ n, n ≤ T → ∃ k, k ≤ 999 * n ∧ prcA F x n = nI k := by
  have hT := v.2.2.hT
  intro n
  induction n with
  | zero => exact fun _ => ⟨0, by omega, rfl⟩
  | succ n ih =>
    intro hn
    obtain ⟨k, hk, e⟩ := ih (by omega)
    obtain ⟨a, ha, ea⟩ := v.prc (show n < T by omega)
    show ∃ k, k ≤ 999 * (n + 1) ∧ prcA F x n + bitOf x n * F (13 + 6 * n + 5) = nI k
    rw [e, ea]
    rcases bit01 x n with b | b
    · rw [b, Int32.zero_mul, Int32.add_zero]
      exact ⟨k, by omega, rfl⟩
    · rw [b, Int32.one_mul, nI_add]
      exact ⟨k + a, by omega, rfl⟩
theorem prc_more {F : Nat → Int32} {t x : Nat} (ht : t < 9) (hx : x < 2 ^ t) : ∀ n, n ≤ 9 → prcA F (nI (x ||| 2 ^ t)) n = prcA F (nI x) n + (if t < n then F (13 + 6 * t + 5) else 0) := by
  have h2 := two_512 ht
  have hx5 : x < 512 := by omega
  have ho : x ||| 2 ^ t < 512 := or_512 hx5 h2
  intro n
  induction n with
  | zero =>
    intro _
    rw [if_neg (by omega), Int32.add_zero]
    rfl
  | succ n ih =>
    intro hn
    show prcA F (nI (x ||| 2 ^ t)) n + bitOf (nI (x ||| 2 ^ t)) n * F (13 + 6 * n + 5) = (prcA F (nI x) n + bitOf (nI x) n * F (13 + 6 * n + 5)) + _
    rw [ih (by omega), bit_nI ho (by omega), bit_nI hx5 (by omega), Nat.testBit_or, Nat.testBit_two_pow]
    by_cases e : t = n
    · subst e
      rw [Nat.testBit_lt_two_pow hx, decide_eq_true (rfl : t = t), if_neg (show ¬ t < t by omega), if_pos (show t < t + 1 by omega), Int32.add_zero]
      show _ + 1 * _ = _ + 0 * _ + _
      rw [Int32.one_mul, Int32.zero_mul, Int32.add_zero]
    · rw [decide_eq_false e, Bool.or_false, Int32.add_assoc, Int32.add_assoc]
      congr 1
      by_cases g : t < n
      · rw [if_pos g, if_pos (show t < n + 1 by omega), Int32.add_comm]
      · rw [if_neg g, if_neg (show ¬ t < n + 1 by omega), Int32.add_comm]
theorem V_prices {s : St} {F : Nat → Int32} {M T S E A U Y L P N : Nat} (v : VW s F M T S E A U Y L P N) : Ok (fun _ s' => Fr [37] s s' ∧ ∀ x, x < S → gr s' 37 x = prcA F (nI x) T) (f_X3_takePrices s) := by
  have hT := v.2.2.hT
  unfold f_X3_takePrices
  refine okD rfl ?_
  rw [bnd_mk]
  refine okC (fun (t : Nat) (y : Int32 × St) => y.1 = nI t ∧ Fr [37] s y.2 ∧ ∀ x, x < 2 ^ t → gr y.2 37 x = prcA F (nI x) T) T ?_ (i := 0) (by unfold FU; omega) (by omega) ⟨rfl, Fr.c2 (by simp), fun x hx => by
    obtain rfl : x = 0 := by
      rw [Nat.pow_zero] at hx
      omega
    show gr (sr s 37 0 0) 37 0 = _
    rw [gr_sr_s, if_pos rfl]
    have key : ∀ n, n ≤ 9 → prcA F (nI 0) n = 0 := by
      intro n
      induction n with
      | zero => exact fun _ => rfl
      | succ n ih =>
        intro hn
        show prcA F (nI 0) n + bitOf (nI 0) n * F (13 + 6 * n + 5) = 0
        rw [ih (by omega), show bitOf (nI 0) n = 0 from bit_00 (by omega), Int32.zero_mul]
        rfl
    exact (key T hT).symm⟩
  rintro t ⟨y1, s1⟩ K hi ⟨e1, hf, hr⟩ hK
  dsimp only at e1 hf hr
  subst e1
  have v1 := v.fr hf (by decide)
  unfold g_X3_takePrices_9
  dsimp only
  rw [show gf s1 3 3 = nI T from v1.2.2.cT]
  refine okI (fun c => okR ?_) (fun c => ?_)
  · have : t = T := by
      rw [le_toInt, nI_toInt (by omega), nI_toInt (by omega)] at c
      omega
    subst this
    rw [← v.2.2.hS] at hr
    exact ⟨hf, hr⟩
  · replace c : t < T := cnt_le rfl (by omega) c hi
    rw [show f_X9_cell 3 (nI t) (5 : Int32) s1 = some (F (13 + 6 * t + 5), s1) from V_c3 v1 (c := 5) c (by omega), bd_mk]
    refine okB (V_spread (u := 37) (p := F (13 + 6 * t + 5)) (s := s1) (show t < 9 by omega) ⟨by decide, by decide⟩ rfl) ?_
    rintro _ s2 ⟨f2, g1, g2⟩
    rw [bnd_mk, nI_1]
    refine hK _ c ⟨rfl, hf.tr f2, fun x hx => ?_⟩
    show gr s2 37 x = _
    by_cases e : x < 2 ^ t
    · rw [g2 x e]; exact hr x e
    · obtain ⟨h1, h2⟩ := or_split (by omega) hx
      rw [h2, g1 _ h1, hr _ h1, prc_more (by omega) h1 T (by omega), if_pos c]
theorem nar01 : vp_nar .boolean 0 = 0 ∧ vp_nar .boolean 1 = 1 := ⟨rfl, rfl⟩
theorem V_fitD {s : St} {F : Nat → Int32} {M T S E A U Y L P N : Nat} (v : VW s F M T S E A U Y L P N) {q : Nat} (hq : q < 2) : Ok (fun _ s' => Fr [38, 40] s s' ∧ ∀ x, x < S → gr s' 40 x = lateA F L T q (nI x)) (f_X3_fitByDelays (nI q) s) := by
  have hT := v.2.2.hT
  have hL := v.2.2.hL
  have h5 := v.2.2.S512
  unfold f_X3_fitByDelays
  rw [show gf s 1 2 = nI L from v.2.2.cL, V_men v, bd_mk]
  refine okD rfl ?_
  rw [bnd_mk]
  refine okC (fun (t : Nat) (y : Int32 × Int32 × St) => y.1 = nI q ∧ y.2.1 = nI t ∧ Fr [38] s y.2.2 ∧ ∀ x, x < 2 ^ t → gr y.2.2 38 x = menA F (nI q) (nI L) (nI x) T) T ?_ (i := 0) (by unfold FU; omega) (by omega) ⟨rfl, rfl, Fr.c2 (by simp), fun x hx => by
    obtain rfl : x = 0 := by
      rw [Nat.pow_zero] at hx
      omega
    show gr (sr s 38 0 _) 38 0 = _
    rw [gr_sr_s, if_pos rfl]
    rfl⟩
  rintro t ⟨y1, y2, s1⟩ K hi ⟨e1, e2, hf, hr⟩ hK
  dsimp only at e1 e2 hf hr
  subst e1 e2
  have v1 := v.fr hf (by decide)
  unfold g_X3_fitByDelays_24
  dsimp only
  rw [show gf s1 3 3 = nI T from v1.2.2.cT]
  refine okI (fun c => ?_) (fun c => ?_)
  · have : t = T := by
      rw [le_toInt, nI_toInt (by omega), nI_toInt (by omega)] at c
      omega
    subst this
    rw [← v.2.2.hS] at hr
    refine okC (fun (i : Nat) (y : Int32 × Int32 × St) => y.1 = nI q ∧ y.2.1 = nI i ∧ Fr [38, 40] s y.2.2 ∧ (∀ x, x < S → gr y.2.2 38 x = menA F (nI q) (nI L) (nI x) t) ∧ ∀ x, x < i → gr y.2.2 40 x = lateA F L t q (nI x)) S ?_ (i := 0) (by unfold FU; omega) (by omega) ⟨rfl, rfl, hf.mo (by simp), hr, fun x hx => absurd hx (by omega)⟩
    rintro i ⟨y1, y2, s2⟩ K2 hi2 ⟨e1, e2, hf2, hr2, h40⟩ hK2
    dsimp only at e1 e2 hf2 hr2 h40
    subst e1 e2
    have v2 := v.fr hf2 (by decide)
    unfold g_X3_fitByDelays_100
    dsimp only
    rw [V_sets v2, bd_mk]
    refine okI (fun g => okR ⟨hf2, fun x hx => ?_⟩) (fun g => ?_)
    · have : i = S := by
        rw [le_toInt, nI_toInt (by omega), nI_toInt (by omega)] at g
        omega
      exact h40 x (by omega)
    · replace g : i < S := cnt_le rfl (by omega) g hi2
      rw [inb_ln (n := 512) rfl (show i < 512 by omega) (by omega), gd_tt, V_need v2 hq, bd_mk, nI_clamp (by omega), hr2 i g]
      have key : ∀ k0, vp_nar .boolean k0 = lateA F L t q (nI i) → Ok (fun _ s' => Fr [38, 40] s s' ∧ ∀ x, x < S → gr s' 40 x = lateA F L t q (nI x)) (f_X3_fitByDelays_138 K2 (nI q) (nI i) k0 (nI i) s2) := by
        intro k0 hk
        unfold f_X3_fitByDelays_138
        rw [inb_ln (n := 512) rfl (show i < 512 by omega) (by omega), gd_tt, nI_clamp (by omega), bnd_mk, bnd_mk, nI_1, hk]
        refine hK2 _ g ⟨rfl, rfl, hf2.tr (Fr.c2 (by simp)), fun x hx => ?_, fun x hx => ?_⟩
        · show gr (sr s2 40 i _) 38 x = _
          rw [gr_sr_n _ _ _ _ (by decide)]
          exact hr2 x hx
        · show gr (sr s2 40 i _) 40 x = _
          rw [gr_sr_s]
          by_cases e : x = i
          · rw [if_pos e, e]
          · rw [if_neg e]; exact h40 x (by omega)
      refine okI (fun e => key _ ?_) (fun e => key _ ?_)
      · unfold lateA; rw [if_pos e]; exact nar01.1
      · unfold lateA; rw [if_neg e]; exact nar01.2
  · replace c : t < T := cnt_le rfl (by omega) c hi
    have key : ∀ d, d = (if F (13 + 6 * t + 0) = nI q then -(lostA F t (nI L)) else 0) → Ok (fun _ s' => Fr [38, 40] s s' ∧ ∀ x, x < S → gr s' 40 x = lateA F L T q (nI x)) (f_X3_fitByDelays_89 K (nI q) (nI t) d (nI t) s1) := by
      intro d hd
      unfold f_X3_fitByDelays_89
      refine okB (V_spread (u := 38) (p := d) (s := s1) (show t < 9 by omega) ⟨by decide, by decide⟩ rfl) ?_
      rintro _ s2 ⟨f2, g1, g2⟩
      rw [bnd_mk, nI_1]
      refine hK _ c ⟨rfl, rfl, hf.tr f2, fun x hx => ?_⟩
      show gr s2 38 x = _
      by_cases e : x < 2 ^ t
      · rw [g2 x e]; exact hr x e
      · obtain ⟨h1, h2⟩ := or_split (by omega) hx
        rw [h2, g1 _ h1, hr _ h1, men_more v c h1 (show L ≤ 99 by omega) (nI q) T (by omega), hd]
        by_cases g : F (13 + 6 * t + 0) = nI q
        · rw [if_pos g, if_pos ⟨c, g⟩]
        · rw [if_neg g, if_neg (fun z => g z.2)]
    unfold f_X3_fitByDelays_59
    rw [show f_X9_cell 3 (nI t) (0 : Int32) s1 = some (F (13 + 6 * t + 0), s1) from V_c3 v1 (c := 0) c (by omega), bd_mk, show gf s1 1 2 = nI L from v1.2.2.cL, V_lost v1 _ c, bd_mk]
    refine okI (fun e => ?_) (fun e => ?_)
    · rw [if_neg n10]
      exact key _ (by rw [if_pos e])
    · rw [if_pos rfl]
      exact key _ (by rw [if_neg e])
/-- the cheapest of those that do -/
def chA (Q : Nat → Prop) [DecidablePred Q] (pr : Nat → Int32) : Nat → Int32 × Int32
  | 0 => (-1, 1000000)
  | i + 1 => if Q i then (if (chA Q pr i).2 ≤ pr i then chA Q pr i else (nI i, pr i)) else chA Q pr i
theorem chA_inv (Q : Nat → Prop) [DecidablePred Q] (pr : Nat → Int32) : ∀ i, chA Q pr i = (-1, 1000000) ∨ ∃ b, b < i ∧ chA Q pr i = (nI b, pr b) := by
  intro i
  induction i with
  | zero => exact Or.inl rfl
  | succ i ih =>
    have old : chA Q pr i = (-1, 1000000) ∨ ∃ b, b < i + 1 ∧ chA Q pr i = (nI b, pr b) := by
      rcases ih with h | ⟨b, hb, h⟩
      · exact Or.inl h
      · exact Or.inr ⟨b, by omega, h⟩
    show (if Q i then (if (chA Q pr i).2 ≤ pr i then chA Q pr i else (nI i, pr i)) else chA Q pr i) = (-1, 1000000) ∨ ∃ b, b < i + 1 ∧ (if Q i then (if (chA Q pr i).2 ≤ pr i then chA Q pr i else (nI i, pr i)) else chA Q pr i) = (nI b, pr b)
    by_cases c : Q i
    · rw [if_pos c]
      by_cases c1 : (chA Q pr i).2 ≤ pr i
      · rw [if_pos c1]; exact old
      · rw [if_neg c1]; exact Or.inr ⟨i, by omega, rfl⟩
    · rw [if_neg c]; exact old
theorem chA_cut (Q : Nat → Prop) [DecidablePred Q] (pr : Nat → Int32) (k : Nat) (h : ∀ i, k ≤ i → ¬ Q i) : ∀ c, chA Q pr (k + c) = chA Q pr k := by
  intro c
  induction c with
  | zero => rfl
  | succ c ih =>
    show (if Q (k + c) then (if (chA Q pr (k + c)).2 ≤ pr (k + c) then chA Q pr (k + c) else (nI (k + c), pr (k + c))) else chA Q pr (k + c)) = _
    rw [if_neg (h (k + c) (by omega)), ih]
theorem sub_le {i k : Nat} (hi : i < 512) (hk : k < 512) (h : (nI i &&& (nI k ^^^ (-1 : Int32))) = 0) : i ≤ k := by
  have e : i &&& k = i := by
    apply Nat.eq_of_testBit_eq
    intro j
    rw [Nat.testBit_and]
    by_cases hj : j < 31
    · have h2 := sup_bit h hj
      rw [bit_nI hi hj, bit_nI hk hj] at h2
      cases a : i.testBit j <;> cases b : k.testBit j <;> rw [a, b] at h2
      · rfl
      · rfl
      · exact absurd h2 (by decide)
      · rfl
    · have : i.testBit j = false := Nat.testBit_lt_two_pow (Nat.lt_of_lt_of_le hi (by
        calc 512 = 2 ^ 9 := rfl
          _ ≤ 2 ^ j := Nat.pow_le_pow_right (by decide) (by omega)))
      rw [this, Bool.false_and]
  have := Nat.and_le_right (n := i) (m := k)
  omega
/-- whether set i is of mask m and makes side q surrender -/
abbrev brQ (F : Nat → Int32) (L T q : Nat) (m : Int32) (i : Nat) : Prop := (nI i &&& (m ^^^ (-1 : Int32))) = 0 ∧ ¬ lateA F L T q (nI i) = 0
abbrev brA (F : Nat → Int32) (L T q S : Nat) (m : Int32) : Int32 × Int32 := chA (brQ F L T q m) (fun i => prcA F (nI i) T) S
theorem V_cheap {s : St} {F : Nat → Int32} {M T S E A U Y L P N : Nat} (v : VW s F M T S E A U Y L P N) {q : Nat} (m : Int32) (h37 : ∀ x, x < S → gr s 37 x = prcA F (nI x) T) (h40 : ∀ x, x < S → gr s 40 x = lateA F L T q (nI x)) : f_X3_cheapest m s = some ((brA F L T q S m).1, s) := by
  have h5 := v.2.2.S512
  unfold f_X3_cheapest
  refine itr_cnt (fun i => (m, (chA (brQ F L T q m) (fun i => prcA F (nI i) T) i).1, (chA (brQ F L T q m) (fun i => prcA F (nI i) T) i).2, nI i, s)) S _ (fun i K hi => ?_) (fun K => ?_) S 0 FU (by omega) (by unfold FU; omega)
  · unfold g_X3_cheapest_8 f_X3_cheapest_61
    dsimp only
    rw [V_sets v, bd_mk, if_neg (lt_ge hi (by omega)), inb_ln (n := 512) rfl (show i < 512 by omega) (by omega), gd_tt, inb_ln (n := 512) rfl (show i < 512 by omega) (by omega), gd_tt, gd_tt, nI_clamp (by omega), h37 i hi, h40 i hi, nI_1]
    have nx : chA (brQ F L T q m) (fun i => prcA F (nI i) T) (i + 1) = if brQ F L T q m i then (if (chA (brQ F L T q m) (fun i => prcA F (nI i) T) i).2 ≤ prcA F (nI i) T then chA (brQ F L T q m) (fun i => prcA F (nI i) T) i else (nI i, prcA F (nI i) T)) else chA (brQ F L T q m) (fun i => prcA F (nI i) T) i := rfl
    rw [nx]
    generalize chA (brQ F L T q m) (fun i => prcA F (nI i) T) i = w at *
    by_cases c : (nI i &&& (m ^^^ (-1 : Int32))) = 0
    · rw [if_pos c]
      by_cases c1 : lateA F L T q (nI i) = 0
      · rw [if_pos c1, if_neg (show ¬ brQ F L T q m i from fun z => z.2 c1)]
        rfl
      · rw [if_neg c1, if_pos (show brQ F L T q m i from ⟨c, c1⟩)]
        by_cases c2 : w.2 ≤ prcA F (nI i) T
        · rw [if_pos c2, if_pos c2]
          rfl
        · rw [if_neg c2, if_neg c2]
          rfl
    · rw [if_neg c, if_neg (show ¬ brQ F L T q m i from fun z => c z.1)]
      rfl
  · unfold g_X3_cheapest_8
    dsimp only
    rw [V_sets v, bd_mk, if_pos (le_rf S)]
theorem and_m1 (x : Int32) : x &&& ((0 : Int32) ^^^ (-1 : Int32)) = x := by
  apply Int32.toBitVec.inj
  rw [Int32.toBitVec_and]
  show x.toBitVec &&& (BitVec.allOnes 32) = _
  exact BitVec.and_allOnes
/-- the reference's search, by its three fields -/
theorem M_bribe {s : St} {F : Nat → Int32} {M T S E A U Y L P N : Nat} (v : VW s F M T S E A U Y L P N) {q : Nat} (hq : q < 2) (p : Int32) : Ok (fun _ s' => gf s' 58 19 = (brA F L T q S (tofA F (nI q) T &&& (p ^^^ (-1 : Int32)))).1 ∧ (¬ gf s' 58 19 = -1 → gf s' 58 18 = (brA F L T q S (tofA F (nI q) T &&& (p ^^^ (-1 : Int32)))).2) ∧ Fr [58] s s' ∧ ∀ c, (c < 14 ∨ c = 20) → gf s' 58 c = gf s 58 c) (f_X12_findBribe (nI q) p s) := by
  have hT := v.2.2.hT
  have h5 := v.2.2.S512
  unfold f_X12_findBribe
  have v0 : VW (sf s 58 19 (-1)) F M T S E A U Y L P N := v.fr (l := [58]) (Fr.c1 (by simp)) (by decide)
  rw [bnd_mk, M_tof v0, bd_mk, bnd_mk]
  obtain ⟨k', hk', ek'⟩ := tof_nI F (nI q) T hT
  obtain ⟨k, hk, ek⟩ : ∃ k, k < S ∧ tofA F (nI q) T &&& (p ^^^ (-1 : Int32)) = nI k := by
    rw [ek', v.2.2.hS]
    exact and_lt _ hk' (by rw [← v.2.2.hS]; omega)
  rw [ek]
  have hcut : brA F L T q S (nI k) = chA (brQ F L T q (nI k)) (fun i => prcA F (nI i) T) (k + 1) := by
    have hno : ∀ i, k + 1 ≤ i → i < S → ¬ brQ F L T q (nI k) i := fun i hi hS z => by
      have := sub_le (by omega) (by omega) z.1
      omega
    have key : ∀ c, k + 1 + c ≤ S → chA (brQ F L T q (nI k)) (fun i => prcA F (nI i) T) (k + 1 + c) = chA (brQ F L T q (nI k)) (fun i => prcA F (nI i) T) (k + 1) := by
      intro c
      induction c with
      | zero => exact fun _ => rfl
      | succ c ih =>
        intro hc
        show (if brQ F L T q (nI k) (k + 1 + c) then (if (chA (brQ F L T q (nI k)) (fun i => prcA F (nI i) T) (k + 1 + c)).2 ≤ prcA F (nI (k + 1 + c)) T then chA (brQ F L T q (nI k)) (fun i => prcA F (nI i) T) (k + 1 + c) else (nI (k + 1 + c), prcA F (nI (k + 1 + c)) T)) else chA (brQ F L T q (nI k)) (fun i => prcA F (nI i) T) (k + 1 + c)) = _
        rw [if_neg (hno _ (by omega) (by omega)), ih (by omega)]
    have := key (S - (k + 1)) (by omega)
    rw [show k + 1 + (S - (k + 1)) = S by omega] at this
    exact this
  rw [hcut]
  refine okC (fun (i : Nat) (y : Int32 × Int32 × Int32 × St) => y.1 = nI q ∧ y.2.1 = nI k ∧ y.2.2.1 = nI i ∧ gf y.2.2.2 58 19 = (chA (brQ F L T q (nI k)) (fun i => prcA F (nI i) T) i).1 ∧ (¬ gf y.2.2.2 58 19 = -1 → gf y.2.2.2 58 18 = (chA (brQ F L T q (nI k)) (fun i => prcA F (nI i) T) i).2) ∧ Fr [58] s y.2.2.2 ∧ ∀ c, (c < 14 ∨ c = 20) → gf y.2.2.2 58 c = gf s 58 c) (k + 1) ?_ (i := 0) (by unfold FU; omega) (by omega) ⟨rfl, rfl, rfl, by
    show gf (sf s 58 19 (-1)) 58 19 = -1
    rw [gf_sf_s, if_pos rfl], fun h => absurd (show gf (sf s 58 19 (-1)) 58 19 = -1 by rw [gf_sf_s, if_pos rfl]) h, Fr.c1 (by simp), fun c hc => by
    show gf (sf s 58 19 (-1)) 58 c = _
    rw [gf_sf_s, if_neg (by omega)]⟩
  rintro i ⟨y1, y2, y3, s1⟩ K hi ⟨e1, e2, e3, h19, h18, hf, h14⟩ hK
  dsimp only at e1 e2 e3 h19 h18 hf h14
  subst e1 e2 e3
  have v1 := v.fr hf (by decide)
  unfold g_X12_findBribe_18
  dsimp only
  refine okI (fun c => okR ?_) (fun c => ?_)
  · have : i = k + 1 := by
      rw [nI_ltI (by omega) (by omega)] at c
      omega
    rw [this] at h19 h18
    exact ⟨h19, h18, hf, h14⟩
  · have hik : i < k + 1 := by
      rw [nI_ltI (by omega) (by omega)] at c
      omega
    have nx : chA (brQ F L T q (nI k)) (fun i => prcA F (nI i) T) (i + 1) = if brQ F L T q (nI k) i then (if (chA (brQ F L T q (nI k)) (fun i => prcA F (nI i) T) i).2 ≤ prcA F (nI i) T then chA (brQ F L T q (nI k)) (fun i => prcA F (nI i) T) i else (nI i, prcA F (nI i) T)) else chA (brQ F L T q (nI k)) (fun i => prcA F (nI i) T) i := rfl
    have keep : chA (brQ F L T q (nI k)) (fun i => prcA F (nI i) T) (i + 1) = chA (brQ F L T q (nI k)) (fun i => prcA F (nI i) T) i → Ok (fun _ s' => gf s' 58 19 = (chA (brQ F L T q (nI k)) (fun i => prcA F (nI i) T) (k + 1)).1 ∧ (¬ gf s' 58 19 = -1 → gf s' 58 18 = (chA (brQ F L T q (nI k)) (fun i => prcA F (nI i) T) (k + 1)).2) ∧ Fr [58] s s' ∧ ∀ c, (c < 14 ∨ c = 20) → gf s' 58 c = gf s 58 c) (f_X12_findBribe_55 K (nI q) (nI k) (nI i) s1) := by
      intro he
      unfold f_X12_findBribe_55
      rw [bnd_mk, nI_1]
      exact hK _ hik ⟨rfl, rfl, rfl, by rw [he]; exact h19, by rw [he]; exact h18, hf, h14⟩
    refine okI (fun c1 => ?_) (fun c1 => keep (by rw [nx, if_neg (show ¬ brQ F L T q (nI k) i from fun z => c1 z.1)]))
    rw [M_isLate v1 (nI i) hq, bd_mk]
    refine okI (fun c2 => keep (by rw [nx, if_neg (show ¬ brQ F L T q (nI k) i from fun z => z.2 c2)])) (fun c2 => ?_)
    rw [M_price v1, bd_mk]
    rw [if_pos (show brQ F L T q (nI k) i from ⟨c1, c2⟩)] at nx
    obtain ⟨pk, hpk, ep⟩ := prc_b v (nI i) T (by omega)
    have set' : chA (brQ F L T q (nI k)) (fun i => prcA F (nI i) T) (i + 1) = (nI i, prcA F (nI i) T) → Ok (fun _ s' => gf s' 58 19 = (chA (brQ F L T q (nI k)) (fun i => prcA F (nI i) T) (k + 1)).1 ∧ (¬ gf s' 58 19 = -1 → gf s' 58 18 = (chA (brQ F L T q (nI k)) (fun i => prcA F (nI i) T) (k + 1)).2) ∧ Fr [58] s s' ∧ ∀ c, (c < 14 ∨ c = 20) → gf s' 58 c = gf s 58 c) (f_X12_findBribe_55 K (nI q) (nI k) (nI i) (sf (sf s1 58 18 (prcA F (nI i) T)) 58 19 (nI i))) := by
      intro he
      unfold f_X12_findBribe_55
      rw [bnd_mk, nI_1]
      refine hK _ hik ⟨rfl, rfl, rfl, ?_, fun _ => ?_, (hf.tr (Fr.c1 (by simp))).tr (Fr.c1 (by simp)), fun c' hc' => ?_⟩
      · show gf (sf (sf s1 58 18 (prcA F (nI i) T)) 58 19 (nI i)) 58 19 = _
        rw [gf_sf_s, if_pos rfl, he]
      · show gf (sf (sf s1 58 18 (prcA F (nI i) T)) 58 19 (nI i)) 58 18 = _
        rw [gf_sf_s, if_neg (by omega), gf_sf_s, if_pos rfl, he]
      · show gf (sf (sf s1 58 18 (prcA F (nI i) T)) 58 19 (nI i)) 58 c' = _
        rw [gf_sf_s, if_neg (by omega), gf_sf_s, if_neg (by omega)]
        exact h14 c' hc'
    unfold f_X12_take f_X12_take_17
    rcases chA_inv (brQ F L T q (nI k)) (fun i => prcA F (nI i) T) i with h | ⟨b, hb, h⟩
    · rw [h] at h19 nx
      rw [if_pos h19, bnd_mk, bnd_mk, bd_mk]
      refine set' ?_
      rw [nx, if_neg]
      show ¬ (1000000 : Int32) ≤ prcA F (nI i) T
      rw [ep, show (1000000 : Int32) = nI 1000000 from rfl]
      exact nI_ge (by omega) (by omega)
    · rw [h] at h19 nx h18
      have hne : ¬ gf s1 58 19 = -1 := by rw [h19]; exact nI_m1' (by omega)
      rw [if_neg hne, h18 hne]
      dsimp only at nx ⊢
      by_cases g : prcA F (nI i) T < prcA F (nI b) T
      · rw [if_pos g, bnd_mk, bnd_mk, bd_mk]
        refine set' ?_
        rw [nx, if_neg]
        rw [lt_toInt] at g
        rw [le_toInt]
        omega
      · rw [if_neg g, bd_mk]
        refine keep ?_
        rw [nx, if_pos, h]
        rw [lt_toInt] at g
        rw [le_toInt]
        omega
theorem V_bribed {s : St} {F : Nat → Int32} {M T S E A U Y L P N : Nat} (v : VW s F M T S E A U Y L P N) {q : Nat} (hq : q < 2) (p : Int32) : Ok (fun r s' => r = (brA F L T q S (if p = -1 then tofA F (nI q) T else tofA F (nI q) T &&& (((1 : Int32) <<< (p &&& 31)) ^^^ (-1 : Int32)))).1 ∧ Fr [37, 38, 40] s s') (f_X3_bribedSet (nI q) p s) := by
  unfold f_X3_bribedSet f_X3_bribedSet_35
  refine okB (V_prices v) ?_
  rintro _ s1 ⟨f1, g1⟩
  have v1 := v.fr f1 (by decide)
  refine okB (V_fitD v1 hq) ?_
  rintro _ s2 ⟨f2, g2⟩
  have v2 := v1.fr f2 (by decide)
  have g1' : ∀ x, x < S → gr s2 37 x = prcA F (nI x) T := fun x hx => by rw [(f2.1 37 (by decide)).2.1]; exact g1 x hx
  rw [V_tof v2, bd_mk]
  refine okI (fun c => ?_) (fun c => ?_)
  · rw [V_cheap v2 _ g1' g2, bd_mk]
    exact okR ⟨by rw [if_pos c], (f1.mo (by simp)).tr (f2.mo (by simp))⟩
  · rw [V_cheap v2 _ g1' g2, bd_mk]
    exact okR ⟨by rw [if_neg c], (f1.mo (by simp)).tr (f2.mo (by simp))⟩
theorem IV.f3 {σ s1 s2 : St} (hI : IV σ) (h1 : Fr [37, 38, 40] σ s1) (h2 : Fr [58] s1 s2) (h14 : ∀ c, c < 14 → gf s2 58 c = gf s1 58 c) : IV s2 := by
  have i1 : IV s1 := hI.fr0 h1 (by decide) (fun c _ => by rw [(h1.1 58 (by decide)).1])
  exact i1.fr0 h2 (by decide) h14
theorem D_bribed (a : Int32) (σ : St) (hI : IV σ) : ∃ r s1 s2, f_X11_bribed a σ = some (r, s1) ∧ f_X12_bribed a s1 = some (r, s2) ∧ IV s2 := by
  obtain ⟨M, T, S, E, A, U, Y, L, P, N, v⟩ := hI.vw
  have hb := v.2.2
  unfold f_X11_bribed f_X11_bribed_25 f_X12_bribed
  rw [S_hasSide _ hb.hN hb.cN, bd_mk]
  by_cases c1 : 1 ≤ N ∧ (a = 0 ∨ a = 1)
  · obtain ⟨q, hq, rfl⟩ : ∃ i, i < 2 ∧ a = nI i := by
      rcases c1.2 with e | e
      · exact ⟨0, by omega, e⟩
      · exact ⟨1, by omega, e⟩
    obtain ⟨r1, s1, e1, q1, f1⟩ := V_bribed v hq (-1)
    have v1 := v.fr f1 (by decide)
    obtain ⟨r2, s2, e2, q2, -, f2, h14⟩ := M_bribe v1 hq 0
    refine ⟨r1, s1, s2, by rw [b2_t c1, if_neg n10, e1, bd_mk], ?_, hI.f3 f1 f2 (fun c hc => h14 c (by omega))⟩
    rw [S_isSide _ hb.hN v1.2.2.mN, bd_mk, b2_t c1, if_neg n10, e2, bd_mk, q2, and_m1, q1, if_pos rfl]
  · refine ⟨-2, σ, σ, by rw [b2_f c1, if_pos rfl], ?_, hI⟩
    rw [S_isSide _ hb.hN hb.mN, bd_mk, b2_f c1, if_pos rfl]
theorem D_bribe (a : Int32) (σ : St) (hI : IV σ) : ∃ r s1 s2, f_X11_bribe a σ = some (r, s1) ∧ f_X12_bribe a s1 = some (r, s2) ∧ IV s2 := by
  obtain ⟨M, T, S, E, A, U, Y, L, P, N, v⟩ := hI.vw
  have hb := v.2.2
  have h5 := hb.S512
  unfold f_X11_bribe f_X11_bribe_32 f_X12_bribe f_X12_orNone f_X12_orNone_16
  rw [S_hasSide _ hb.hN hb.cN, bd_mk]
  by_cases c1 : 1 ≤ N ∧ (a = 0 ∨ a = 1)
  · obtain ⟨q, hq, rfl⟩ : ∃ i, i < 2 ∧ a = nI i := by
      rcases c1.2 with e | e
      · exact ⟨0, by omega, e⟩
      · exact ⟨1, by omega, e⟩
    obtain ⟨r1, s1, e1, q1, f1⟩ := V_bribed v hq (-1)
    have v1 := v.fr f1 (by decide)
    obtain ⟨r2, s2, e2, q2, q3, f2, h14⟩ := M_bribe v1 hq 0
    rw [and_m1] at q2 q3
    rw [if_pos rfl] at q1
    have iv2 := hI.f3 f1 f2 (fun c hc => h14 c (by omega))
    rcases chA_inv (brQ (gr σ 59) L T q (tofA (gr σ 59) (nI q) T)) (fun i => prcA (gr σ 59) (nI i) T) S with h | ⟨b, hb', h⟩
    · rw [show brA (gr σ 59) L T q S (tofA (gr σ 59) (nI q) T) = (-1, 1000000) from h] at q1 q2
      refine ⟨-1, s1, s2, ?_, ?_, iv2⟩
      · rw [b2_t c1, if_neg n10, e1, bd_mk, q1]
        unfold f_X10_priceOf
        rw [isW_lit (Or.inl rfl), gd_tt, if_pos rfl, bd_mk]
      · rw [S_isSide _ hb.hN v1.2.2.mN, bd_mk, b2_t c1, if_neg n10, e2, bd_mk, if_pos q2, bd_mk]
    · rw [show brA (gr σ 59) L T q S (tofA (gr σ 59) (nI q) T) = (nI b, prcA (gr σ 59) (nI b) T) from h] at q1 q2 q3
      have hne : ¬ gf s2 58 19 = -1 := by rw [q2]; exact nI_m1' (by omega)
      refine ⟨prcA (gr σ 59) (nI b) T, s1, s2, ?_, ?_, iv2⟩
      · rw [b2_t c1, if_neg n10, e1, bd_mk, q1, V_price v1 (nI_m1' (by omega)), bd_mk]
      · rw [S_isSide _ hb.hN v1.2.2.mN, bd_mk, b2_t c1, if_neg n10, e2, bd_mk, if_neg hne, bd_mk, q3 hne]
  · refine ⟨-2, σ, σ, by rw [b2_f c1, if_pos rfl], ?_, hI⟩
    rw [S_isSide _ hb.hN hb.mN, bd_mk, b2_f c1, if_pos rfl]
