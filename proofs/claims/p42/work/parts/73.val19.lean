/-! ===== values: TRAINS to send by a chance ===== -/
theorem ob_le (y n : Nat) : obN y n ≤ n := by
  have := zo_bn y n
  omega
theorem ob_no (y : Nat) : ∀ n, obN y n = 0 → ∀ t, t < n → y.testBit t = false := by
  intro n
  induction n with
  | zero => exact fun _ t ht => absurd ht (by omega)
  | succ n ih =>
    intro h t ht
    have h' : obN y n + (if y.testBit n then 1 else 0) = 0 := h
    by_cases e : t = n
    · subst e
      cases hb : y.testBit t
      · rfl
      · rw [hb, if_pos rfl] at h'
        omega
    · exact ih (Nat.eq_zero_of_add_eq_zero h').1 t (by omega)
theorem ob_pos {y n : Nat} (hy : y < 2 ^ n) (h : 0 < y) : 0 < obN y n := by
  rcases Nat.eq_zero_or_pos (obN y n) with z | z
  · exfalso
    have : y = 0 := by
      apply Nat.eq_of_testBit_eq
      intro j
      rw [Nat.zero_testBit]
      by_cases hj : j < n
      · exact ob_no y n z j hj
      · exact Nat.testBit_lt_two_pow (Nat.lt_of_lt_of_le hy (Nat.pow_le_pow_right (by decide) (by omega)))
    omega
  · exact z
theorem ob_0 : ∀ n, obN 0 n = 0 := by
  intro n
  induction n with
  | zero => rfl
  | succ n ih =>
    show obN 0 n + (if (0 : Nat).testBit n then 1 else 0) = 0
    rw [ih, Nat.zero_testBit, if_neg nfT]
theorem pt_le {s : St} {F : Nat → Int32} {M T S E A U Y L P N : Nat} (v : VW s F M T S E A U Y L P N) {q x : Nat} (hx : x < 512) : ptN F L T q T x ≤ 100 ^ obN x T := by
  rw [pt_he F L T q v.2.2.hT T (Nat.le_refl _) x 0 hx (by rw [Int32.add_zero])]
  exact he_le F L q x T (fun t ht => (v.odd ht).1) 0
/-- whether set x is often enough enough -/
def fitN (F : Nat → Int32) (L T q b x : Nat) : Int32 := if ptN F L T q T x * 100 < b * 100 ^ obN x T then 0 else 1
theorem V_fitC {s : St} {F : Nat → Int32} {M T S E A U Y L P N : Nat} (v : VW s F M T S E A U Y L P N) {q b : Nat} (hq : q < 2) (hb : b ≤ 100) : Ok (fun _ s' => Fr [38, 39, 40] s s' ∧ ∀ x, x < S → gr s' 40 x = fitN F L T q b x) (f_X3_fitByChance (nI q) (nI b) s) := by
  have hT := v.2.2.hT
  have h5 := v.2.2.S512
  unfold f_X3_fitByChance
  refine okB (V_parts v hq) ?_
  rintro _ s1 ⟨f1, g1⟩
  have v1 := v.fr f1 (by decide)
  refine okD rfl ?_
  have p0 : ptN F L T q T 0 ≤ 1 := by
    have := pt_le v (q := q) (x := 0) (by omega)
    rw [ob_0, Nat.pow_zero] at this
    exact this
  rw [show gj s1 39 (0 : Int32).toNatClampNeg = lN (ptN F L T q T 0) from g1 0 (by omega), show (100 : Int64) = lN 100 from rfl, lN_mul, nI_l (show b < 2 ^ 31 by omega)]
  have key : ∀ k0, vp_nar .boolean k0 = fitN F L T q b 0 → Ok (fun _ s' => Fr [38, 39, 40] s s' ∧ ∀ x, x < S → gr s' 40 x = fitN F L T q b x) (f_X3_fitByChance_31 (nI b) k0 0 s1) := by
    intro k0 hk
    unfold f_X3_fitByChance_31
    refine okD rfl ?_
    rw [bnd_mk, hk]
    refine okC (fun (i : Nat) (y : Int32 × Int32 × St) => y.1 = nI b ∧ y.2.1 = nI i ∧ 1 ≤ i ∧ Fr [38, 39, 40] s y.2.2 ∧ (∀ x, x < S → gj y.2.2 39 x = lN (ptN F L T q T x)) ∧ ∀ x, x < i → gr y.2.2 40 x = fitN F L T q b x) S ?_ (i := 1) (by unfold FU; omega) (by omega) ⟨rfl, rfl, Nat.le_refl _, (f1.mo (by simp)).tr (Fr.c2 (by simp)), fun x hx => g1 x hx, fun x hx => by
      obtain rfl : x = 0 := by omega
      show gr (sr s1 40 0 _) 40 0 = _
      rw [gr_sr_s, if_pos rfl]⟩
    rintro i ⟨y1, y2, s2⟩ K hi ⟨e1, e2, hi1, hf, h39, h40⟩ hK
    dsimp only at e1 e2 hf h39 h40
    subst e1 e2
    have v2 := v.fr hf (by decide)
    unfold g_X3_fitByChance_34
    dsimp only
    rw [V_sets v2, bd_mk]
    refine okI (fun g => okR ⟨hf, fun x hx => ?_⟩) (fun g => ?_)
    · have : i = S := by
        rw [le_toInt, nI_toInt (by omega), nI_toInt (by omega)] at g
        omega
      exact h40 x (by omega)
    · replace g : i < S := cnt_le rfl (by omega) g hi
      have hiT : i < 2 ^ T := by rw [← v.2.2.hS]; exact g
      obtain ⟨o, ho⟩ : ∃ o, obN i T = o + 1 := ⟨obN i T - 1, by have := ob_pos hiT (show 0 < i by omega); omega⟩
      have hp := pt_le v (q := q) (x := i) (by omega)
      have ho9 := ob_le i T
      rw [ho] at hp ho9
      have h1 : 100 ^ o ≤ 100 ^ 8 := Nat.pow_le_pow_right (by decide) (by omega)
      have h2 : b * 100 ^ o ≤ 100 * 100 ^ 8 := Nat.mul_le_mul hb h1
      have e8 : (100 : Nat) * 100 ^ 8 = 1000000000000000000 := by decide
      rw [Nat.pow_succ] at hp
      have h3 : 100 ^ o * 100 ≤ 100 ^ 8 * 100 := Nat.mul_le_mul_right 100 h1
      have cc : lg_cmp (lN (ptN F L T q T i)) (lN (b * 100 ^ o)) < 0 ↔ ptN F L T q T i * 100 < b * 100 ^ obN i T := by
        rw [lcmp_lt, pk_lT (by omega), pk_lT (by omega), ho, Nat.pow_succ, ← Nat.mul_assoc]
        generalize b * 100 ^ o = w
        omega
      rw [inb_ln (n := 512) rfl (show i < 512 by omega) (by omega), gd_tt, S_bc, bd_mk, bc_ob hT hiT, ho, show nI (o + 1) - (1 : Int32) = nI o from nI_subl (a := o + 1) (b := 1) (by omega), V_hund (by omega), bd_mk, nI_clamp (by omega), h39 i g, nI_l (show b < 2 ^ 31 by omega), lN_mul]
      have key2 : ∀ k0, vp_nar .boolean k0 = fitN F L T q b i → Ok (fun _ s' => Fr [38, 39, 40] s s' ∧ ∀ x, x < S → gr s' 40 x = fitN F L T q b x) (f_X3_fitByChance_77 K (nI b) (nI i) k0 (nI i) s2) := by
        intro k0 hk
        unfold f_X3_fitByChance_77
        rw [inb_ln (n := 512) rfl (show i < 512 by omega) (by omega), gd_tt, nI_clamp (by omega), bnd_mk, bnd_mk, nI_1, hk]
        refine hK _ g ⟨rfl, rfl, by omega, hf.tr (Fr.c2 (by simp)), fun x hx => h39 x hx, fun x hx => ?_⟩
        show gr (sr s2 40 i _) 40 x = _
        rw [gr_sr_s]
        by_cases e : x = i
        · rw [if_pos e, e]
        · rw [if_neg e]; exact h40 x (by omega)
      refine okI (fun e => key2 _ ?_) (fun e => key2 _ ?_)
      · unfold fitN; rw [if_pos (cc.mp e)]; exact nar01.1
      · unfold fitN; rw [if_neg (fun z => e (cc.mpr z))]; exact nar01.2
  have cc : lg_cmp (lN (ptN F L T q T 0 * 100)) (lN b) < 0 ↔ ptN F L T q T 0 * 100 < b * 100 ^ obN 0 T := by
    rw [lcmp_lt, pk_lT (by omega), pk_lT (by omega), ob_0, Nat.pow_zero, Nat.mul_one]
    omega
  refine okI (fun e => key _ ?_) (fun e => key _ ?_)
  · unfold fitN; rw [if_pos (cc.mp e)]; exact nar01.1
  · unfold fitN; rw [if_neg (fun z => e (cc.mpr z))]; exact nar01.2
abbrev riQ (F : Nat → Int32) (L T q b : Nat) (m : Int32) (i : Nat) : Prop := (nI i &&& (m ^^^ (-1 : Int32))) = 0 ∧ ¬ fitN F L T q b i = 0
abbrev riA (F : Nat → Int32) (L T q b S : Nat) (m : Int32) : Int32 × Int32 := chA (riQ F L T q b m) (fun i => prcA F (nI i) T) S
theorem V_cheapR {s : St} {F : Nat → Int32} {M T S E A U Y L P N : Nat} (v : VW s F M T S E A U Y L P N) {q b : Nat} (m : Int32) (h37 : ∀ x, x < S → gr s 37 x = prcA F (nI x) T) (h40 : ∀ x, x < S → gr s 40 x = fitN F L T q b x) : f_X3_cheapest m s = some ((riA F L T q b S m).1, s) := by
  have h5 := v.2.2.S512
  unfold f_X3_cheapest
  refine itr_cnt (fun i => (m, (chA (riQ F L T q b m) (fun i => prcA F (nI i) T) i).1, (chA (riQ F L T q b m) (fun i => prcA F (nI i) T) i).2, nI i, s)) S _ (fun i K hi => ?_) (fun K => ?_) S 0 FU (by omega) (by unfold FU; omega)
  · unfold g_X3_cheapest_8 f_X3_cheapest_61
    dsimp only
    rw [V_sets v, bd_mk, if_neg (lt_ge hi (by omega)), inb_ln (n := 512) rfl (show i < 512 by omega) (by omega), gd_tt, inb_ln (n := 512) rfl (show i < 512 by omega) (by omega), gd_tt, gd_tt, nI_clamp (by omega), h37 i hi, h40 i hi, nI_1]
    have nx : chA (riQ F L T q b m) (fun i => prcA F (nI i) T) (i + 1) = if riQ F L T q b m i then (if (chA (riQ F L T q b m) (fun i => prcA F (nI i) T) i).2 ≤ prcA F (nI i) T then chA (riQ F L T q b m) (fun i => prcA F (nI i) T) i else (nI i, prcA F (nI i) T)) else chA (riQ F L T q b m) (fun i => prcA F (nI i) T) i := rfl
    rw [nx]
    generalize chA (riQ F L T q b m) (fun i => prcA F (nI i) T) i = w at *
    by_cases c : (nI i &&& (m ^^^ (-1 : Int32))) = 0
    · rw [if_pos c]
      by_cases c1 : fitN F L T q b i = 0
      · rw [if_pos c1, if_neg (show ¬ riQ F L T q b m i from fun z => z.2 c1)]
        rfl
      · rw [if_neg c1, if_pos (show riQ F L T q b m i from ⟨c, c1⟩)]
        by_cases c2 : w.2 ≤ prcA F (nI i) T
        · rw [if_pos c2, if_pos c2]
          rfl
        · rw [if_neg c2, if_neg c2]
          rfl
    · rw [if_neg c, if_neg (show ¬ riQ F L T q b m i from fun z => c z.1)]
      rfl
  · unfold g_X3_cheapest_8
    dsimp only
    rw [V_sets v, bd_mk, if_pos (le_rf S)]
theorem V_risked {s : St} {F : Nat → Int32} {M T S E A U Y L P N : Nat} (v : VW s F M T S E A U Y L P N) {q b : Nat} (hq : q < 2) (hb : b ≤ 100) : Ok (fun r s' => r = (riA F L T q b S (tofA F (nI q) T)).1 ∧ Fr [37, 38, 39, 40] s s') (f_X3_riskedSet (nI q) (nI b) s) := by
  unfold f_X3_riskedSet
  refine okB (V_prices v) ?_
  rintro _ s1 ⟨f1, g1⟩
  have v1 := v.fr f1 (by decide)
  refine okB (V_fitC v1 hq hb) ?_
  rintro _ s2 ⟨f2, g2⟩
  have v2 := v1.fr f2 (by decide)
  have g1' : ∀ x, x < S → gr s2 37 x = prcA F (nI x) T := fun x hx => by rw [(f2.1 37 (by decide)).2.1]; exact g1 x hx
  rw [V_tof v2, bd_mk, V_cheapR v2 _ g1' g2, bd_mk]
  exact okR ⟨rfl, (f1.mo (by simp)).tr (f2.mo (by simp))⟩
theorem M_sent {s : St} {F : Nat → Int32} {M T S E A U Y L P N : Nat} (v : VW s F M T S E A U Y L P N) {y : Nat} (hy : y < 512) (x : Nat) : f_X12_menSent (nI y) (nI x) s = some (msA F L y x T, s) := by
  have hT := v.2.2.hT
  unfold f_X12_menSent
  refine itr_cnt (fun i => (nI y, nI x, msA F L y x i, nI i, s)) T _ (fun i K hi => ?_) (fun K => ?_) T 0 FU (by omega) (by unfold FU; omega)
  · unfold g_X12_menSent_5 f_X12_menSent_53 f_X12_menSent_54
    dsimp only
    rw [show inb (4 : Int32) (ln 59) = true from rfl, gd_tt, show gr s 59 (4 : Int32).toNatClampNeg = nI T from v.2.2.mT, if_neg (lt_ge hi (by omega)), S_bit, bd_mk, bit_nI hy (by omega), M_comesAt v (nI x) (by omega), bd_mk, show inb (1 : Int32) (ln 59) = true from rfl, gd_tt, show gr s 59 (1 : Int32).toNatClampNeg = nI L from v.2.2.mL, show f_X12_of (nI i) (1 : Int32) s = some (F (13 + 6 * i + 1), s) from M_of v (c := 1) (by omega) (by omega), bd_mk, nI_1]
    show _ = K (nI y, nI x, msA F L y x i + (if y.testBit i = true ∧ ¬ nI L < arrA F (nI x) i then F (13 + 6 * i + 1) else 0), nI (i + 1), s)
    cases hb : y.testBit i
    · rw [if_neg nfT, if_neg (show ¬ (0 : Int32) = 1 from by decide), if_neg (show ¬ (false = true ∧ ¬ nI L < arrA F (nI x) i) from fun z => nfT z.1), bnd_mk, bnd_mk]
    · rw [if_pos rfl, if_pos rfl]
      by_cases c : nI L < arrA F (nI x) i
      · rw [if_pos c, if_neg (show ¬ (true = true ∧ ¬ nI L < arrA F (nI x) i) from fun z => z.2 c), bnd_mk, bnd_mk]
      · rw [if_neg c, if_pos (show true = true ∧ ¬ nI L < arrA F (nI x) i from ⟨rfl, c⟩), bnd_mk, bnd_mk]
  · unfold g_X12_menSent_5
    dsimp only
    rw [show inb (4 : Int32) (ln 59) = true from rfl, gd_tt, show gr s 59 (4 : Int32).toNatClampNeg = nI T from v.2.2.mT, if_pos (le_rf T)]
def ebN (F : Nat → Int32) (L T q y x : Nat) : Nat := if msA F L y x T < F (11 + q) then 0 else ofN F x T
theorem M_eby {s : St} {F : Nat → Int32} {M T S E A U Y L P N : Nat} (v : VW s F M T S E A U Y L P N) {q y : Nat} (hq : q < 2) (hy : y < 512) : f_X12_enoughBy (nI q) (nI y) s = some (lN (smN (ebN F L T q y) S), s) := by
  have h5 := v.2.2.S512
  unfold f_X12_enoughBy
  refine itr_cnt (fun i => (nI q, nI y, lN (smN (ebN F L T q y) i), nI i, s)) S _ (fun i K hi => ?_) (fun K => ?_) S 0 FU (by omega) (by unfold FU; omega)
  · unfold g_X12_enoughBy_5 f_X12_enoughBy_44
    dsimp only
    rw [M_allT v, bd_mk, if_neg (show ¬ nI (S - 1) < nI i from nI_nlt (by omega) (by omega)), M_sent v hy i, bd_mk, zL11, nI_add, inb_ln (n := 240) rfl (by omega) (by omega), gd_tt, nI_clamp (by omega), v.2.1, M_often v (show i < 512 by omega), bd_mk, nI_1]
    show _ = K (nI q, nI y, lN (smN (ebN F L T q y) i + ebN F L T q y i), nI (i + 1), s)
    rw [show ebN F L T q y i = if msA F L y i T < F (11 + q) then 0 else ofN F i T from rfl]
    by_cases c : msA F L y i T < F (11 + q)
    · rw [if_pos c, if_pos c, bnd_mk, bnd_mk, Int64.add_zero]
      rfl
    · rw [if_neg c, if_neg c, bnd_mk, bnd_mk, lN_add]
  · unfold g_X12_enoughBy_5
    dsimp only
    rw [M_allT v, bd_mk, if_pos (nI_lt (by omega) (by omega))]
theorem M_isOft {s : St} {F : Nat → Int32} {M T S E A U Y L P N : Nat} (v : VW s F M T S E A U Y L P N) {q y b w : Nat} (hb : b ≤ 100) (hy : y < 2 ^ T) (hw : w = 100 ^ zbN y T * ptN F L T q T y) : f_X12_isOften (lN w) (nI b) s = some (fitN F L T q b y, s) := by
  have hT := v.2.2.hT
  have h5 := v.2.2.S512
  have hz := zo_bn y T
  have hp := pt_le v (q := q) (x := y) (by have := v.2.2.hS; omega)
  have hcb : 100 ^ zbN y T * 100 ^ obN y T = 100 ^ T := by rw [← Nat.pow_add, hz]
  have hwT : w ≤ 100 ^ T := by
    rw [hw, ← hcb]
    exact Nat.mul_le_mul_left _ hp
  have h9 : (100 : Nat) ^ T ≤ 100 ^ 9 := Nat.pow_le_pow_right (by decide) hT
  have e9 : (100 : Nat) ^ 9 = 1000000000000000000 := by decide
  unfold f_X12_isOften f_X12_isOften_49 fitN
  rw [show inb (4 : Int32) (ln 59) = true from rfl, gd_tt, show gr s 59 (4 : Int32).toNatClampNeg = nI T from v.2.2.mT, bz_0, bz_1, gd_tt, gd_tt, nI_l (show b < 2 ^ 31 by omega), show (100 : Int64) = lN 100 from rfl]
  by_cases c : T = 0
  · have e0 : zbN y T = 0 ∧ obN y T = 0 := by omega
    rw [e0.1, Nat.pow_zero, Nat.one_mul] at hw
    rw [c, Nat.pow_zero] at hwT
    rw [show nI T = 0 by rw [c]; rfl, if_pos rfl, e0.2, Nat.pow_zero, Nat.mul_one, lN_mul, ← hw]
    have cc : lg_cmp (lN (w * 100)) (lN b) < 0 ↔ w * 100 < b := by
      rw [lcmp_lt, pk_lT (by omega), pk_lT (by omega)]
      omega
    by_cases g : w * 100 < b
    · rw [if_pos (cc.mpr g), if_pos g]
    · rw [if_neg (fun z => g (cc.mp z)), if_neg g]
  · obtain ⟨t, rfl⟩ : ∃ t, T = t + 1 := ⟨T - 1, by omega⟩
    rw [if_neg (nI_ne0 (by omega) (by omega)), M_all v, bd_mk, pk_lDiv (by omega) (by decide) (by decide), lN_mul]
    have ed : 100 ^ (t + 1) / 100 = 100 ^ t := by rw [Nat.pow_succ, Nat.mul_div_cancel _ (by decide)]
    have h8 : (100 : Nat) ^ t ≤ 100 ^ 8 := Nat.pow_le_pow_right (by decide) (by omega)
    have h7 : 100 ^ t * b ≤ 100 ^ 8 * 100 := Nat.mul_le_mul h8 hb
    have e8 : (100 : Nat) ^ 8 * 100 = 1000000000000000000 := by decide
    rw [ed]
    have cc : lg_cmp (lN w) (lN (100 ^ t * b)) < 0 ↔ ptN F L (t + 1) q (t + 1) y * 100 < b * 100 ^ obN y (t + 1) := by
      rw [lcmp_lt, pk_lT (by omega), pk_lT (by omega)]
      have hpos : 0 < 100 ^ zbN y (t + 1) := Nat.pow_pos (by decide)
      have a1 : w * 100 = 100 ^ zbN y (t + 1) * (ptN F L (t + 1) q (t + 1) y * 100) := by rw [hw, Nat.mul_assoc]
      have a2 : 100 ^ t * b * 100 = 100 ^ zbN y (t + 1) * (b * 100 ^ obN y (t + 1)) := by
        rw [Nat.mul_comm b, ← Nat.mul_assoc, hcb, Nat.pow_succ, Nat.mul_right_comm]
      constructor
      · intro z
        have : w * 100 < 100 ^ t * b * 100 := by
          generalize 100 ^ t * b = u at z
          omega
        rw [a1, a2] at this
        exact Nat.lt_of_mul_lt_mul_left this
      · intro z
        have := Nat.mul_lt_mul_of_pos_left z hpos
        rw [← a1, ← a2] at this
        generalize 100 ^ t * b = u at this
        omega
    by_cases g : ptN F L (t + 1) q (t + 1) y * 100 < b * 100 ^ obN y (t + 1)
    · rw [if_pos (cc.mpr g), if_pos g, gd_tt]
    · rw [if_neg (fun z => g (cc.mp z)), if_neg g, gd_tt]
theorem sub_bit {i k j : Nat} (hi : i < 512) (hk : k < 512) (h : (nI i &&& (nI k ^^^ (-1 : Int32))) = 0) (hj : j < 31) (hb : i.testBit j = true) : k.testBit j = true := by
  have h2 := sup_bit h hj
  rw [bit_nI hi hj, bit_nI hk hj, hb] at h2
  cases b : k.testBit j
  · rw [b] at h2
    exact absurd h2 (by decide)
  · rfl
/-- the reference's question of one set -/
theorem M_riq {s : St} {F : Nat → Int32} {M T S E A U Y L P N : Nat} (v : VW s F M T S E A U Y L P N) {q b k i : Nat} (hq : q < 2) (hb : b ≤ 100) (hk : k < 2 ^ T) (ek : tofA F (nI q) T = nI k) (hi : i < S) (h : (nI i &&& (nI k ^^^ (-1 : Int32))) = 0) : f_X12_enoughBy (nI q) (nI i) s = some (lN (smN (ebN F L T q i) S), s) ∧ f_X12_isOften (lN (smN (ebN F L T q i) S)) (nI b) s = some (fitN F L T q b i, s) := by
  have hT := v.2.2.hT
  have h5 := v.2.2.S512
  have hS := v.2.2.hS
  have hbits := tof_bits hT hk ek
  refine ⟨M_eby v hq (by omega), M_isOft v hb (by omega) ?_⟩
  rw [pt_he F L T q hT T (Nat.le_refl _) i 0 (by omega) (by rw [Int32.add_zero]), ← gs_he v (q := q) (y := i) (fun t ht hb' => (hbits t ht).mp (sub_bit (by omega) (by omega) h (by omega) hb')) T (Nat.le_refl _) 0, hS]
  refine smN_congr _ (fun x hx => ?_)
  show (if msA F L i x T < F (11 + q) then 0 else ofN F x T) = (if 0 + msA F L i x T < F (11 + q) then 0 else ofN F x T)
  rw [Int32.zero_add]
theorem M_risk {s : St} {F : Nat → Int32} {M T S E A U Y L P N : Nat} (v : VW s F M T S E A U Y L P N) {q b : Nat} (hq : q < 2) (hb : b ≤ 100) : Ok (fun _ s' => gf s' 58 19 = (riA F L T q b S (tofA F (nI q) T)).1 ∧ (¬ gf s' 58 19 = -1 → gf s' 58 18 = (riA F L T q b S (tofA F (nI q) T)).2) ∧ Fr [58] s s' ∧ ∀ c, c < 14 → gf s' 58 c = gf s 58 c) (f_X12_findRisk (nI q) (nI b) s) := by
  have hT := v.2.2.hT
  have h5 := v.2.2.S512
  unfold f_X12_findRisk
  have v0 : VW (sf s 58 19 (-1)) F M T S E A U Y L P N := v.fr (l := [58]) (Fr.c1 (by simp)) (by decide)
  rw [bnd_mk, M_tof v0, bd_mk]
  obtain ⟨k, hk', ek⟩ := tof_nI F (nI q) T hT
  have hk : k < S := by rw [v.2.2.hS]; exact hk'
  rw [ek]
  have hcut : riA F L T q b S (nI k) = chA (riQ F L T q b (nI k)) (fun i => prcA F (nI i) T) (k + 1) := by
    have hno : ∀ i, k + 1 ≤ i → i < S → ¬ riQ F L T q b (nI k) i := fun i hi hS z => by
      have := sub_le (by omega) (by omega) z.1
      omega
    have key : ∀ c, k + 1 + c ≤ S → chA (riQ F L T q b (nI k)) (fun i => prcA F (nI i) T) (k + 1 + c) = chA (riQ F L T q b (nI k)) (fun i => prcA F (nI i) T) (k + 1) := by
      intro c
      induction c with
      | zero => exact fun _ => rfl
      | succ c ih =>
        intro hc
        show (if riQ F L T q b (nI k) (k + 1 + c) then (if (chA (riQ F L T q b (nI k)) (fun i => prcA F (nI i) T) (k + 1 + c)).2 ≤ prcA F (nI (k + 1 + c)) T then chA (riQ F L T q b (nI k)) (fun i => prcA F (nI i) T) (k + 1 + c) else (nI (k + 1 + c), prcA F (nI (k + 1 + c)) T)) else chA (riQ F L T q b (nI k)) (fun i => prcA F (nI i) T) (k + 1 + c)) = _
        rw [if_neg (hno _ (by omega) (by omega)), ih (by omega)]
    have := key (S - (k + 1)) (by omega)
    rw [show k + 1 + (S - (k + 1)) = S by omega] at this
    exact this
  rw [hcut]
  refine okC (fun (i : Nat) (y : Int32 × Int32 × Int32 × Int32 × St) => y.1 = nI q ∧ y.2.1 = nI b ∧ y.2.2.1 = nI k ∧ y.2.2.2.1 = nI i ∧ gf y.2.2.2.2 58 19 = (chA (riQ F L T q b (nI k)) (fun i => prcA F (nI i) T) i).1 ∧ (¬ gf y.2.2.2.2 58 19 = -1 → gf y.2.2.2.2 58 18 = (chA (riQ F L T q b (nI k)) (fun i => prcA F (nI i) T) i).2) ∧ Fr [58] s y.2.2.2.2 ∧ ∀ c, c < 14 → gf y.2.2.2.2 58 c = gf s 58 c) (k + 1) ?_ (i := 0) (by unfold FU; omega) (by omega) ⟨rfl, rfl, rfl, rfl, by
    show gf (sf s 58 19 (-1)) 58 19 = -1
    rw [gf_sf_s, if_pos rfl], fun h => absurd (show gf (sf s 58 19 (-1)) 58 19 = -1 by rw [gf_sf_s, if_pos rfl]) h, Fr.c1 (by simp), fun c hc => by
    show gf (sf s 58 19 (-1)) 58 c = _
    rw [gf_sf_s, if_neg (by omega)]⟩
  rintro i ⟨y1, y2, y3, y4, s1⟩ K hi ⟨e1, e2, e3, e4, h19, h18, hf, h14⟩ hK
  dsimp only at e1 e2 e3 e4 h19 h18 hf h14
  subst e1 e2 e3 e4
  have v1 := v.fr hf (by decide)
  unfold g_X12_findRisk_14
  dsimp only
  refine okI (fun c => okR ?_) (fun c => ?_)
  · have : i = k + 1 := by
      rw [nI_ltI (by omega) (by omega)] at c
      omega
    rw [this] at h19 h18
    exact ⟨h19, h18, hf, h14⟩
  · have hik : i < k + 1 := by
      rw [nI_ltI (by omega) (by omega)] at c
      omega
    have nx : chA (riQ F L T q b (nI k)) (fun i => prcA F (nI i) T) (i + 1) = if riQ F L T q b (nI k) i then (if (chA (riQ F L T q b (nI k)) (fun i => prcA F (nI i) T) i).2 ≤ prcA F (nI i) T then chA (riQ F L T q b (nI k)) (fun i => prcA F (nI i) T) i else (nI i, prcA F (nI i) T)) else chA (riQ F L T q b (nI k)) (fun i => prcA F (nI i) T) i := rfl
    have keep : chA (riQ F L T q b (nI k)) (fun i => prcA F (nI i) T) (i + 1) = chA (riQ F L T q b (nI k)) (fun i => prcA F (nI i) T) i → Ok (fun _ s' => gf s' 58 19 = (chA (riQ F L T q b (nI k)) (fun i => prcA F (nI i) T) (k + 1)).1 ∧ (¬ gf s' 58 19 = -1 → gf s' 58 18 = (chA (riQ F L T q b (nI k)) (fun i => prcA F (nI i) T) (k + 1)).2) ∧ Fr [58] s s' ∧ ∀ c, c < 14 → gf s' 58 c = gf s 58 c) (f_X12_findRisk_77 K (nI q) (nI b) (nI k) (nI i) s1) := by
      intro he
      unfold f_X12_findRisk_77
      rw [bnd_mk, nI_1]
      exact hK _ hik ⟨rfl, rfl, rfl, rfl, by rw [he]; exact h19, by rw [he]; exact h18, hf, h14⟩
    refine okI (fun c1 => ?_) (fun c1 => keep (by rw [nx, if_neg (show ¬ riQ F L T q b (nI k) i from fun z => c1 z.1)]))
    obtain ⟨m1, m2⟩ := M_riq v1 hq hb hk' ek (show i < S by omega) c1
    obtain ⟨pk, hpk, ep⟩ := prc_b v (nI i) T (by omega)
    have set' : chA (riQ F L T q b (nI k)) (fun i => prcA F (nI i) T) (i + 1) = (nI i, prcA F (nI i) T) → Ok (fun _ s' => gf s' 58 19 = (chA (riQ F L T q b (nI k)) (fun i => prcA F (nI i) T) (k + 1)).1 ∧ (¬ gf s' 58 19 = -1 → gf s' 58 18 = (chA (riQ F L T q b (nI k)) (fun i => prcA F (nI i) T) (k + 1)).2) ∧ Fr [58] s s' ∧ ∀ c, c < 14 → gf s' 58 c = gf s 58 c) (f_X12_findRisk_77 K (nI q) (nI b) (nI k) (nI i) (sf (sf s1 58 18 (prcA F (nI i) T)) 58 19 (nI i))) := by
      intro he
      unfold f_X12_findRisk_77
      rw [bnd_mk, nI_1]
      refine hK _ hik ⟨rfl, rfl, rfl, rfl, ?_, fun _ => ?_, (hf.tr (Fr.c1 (by simp))).tr (Fr.c1 (by simp)), fun c' hc' => ?_⟩
      · show gf (sf (sf s1 58 18 (prcA F (nI i) T)) 58 19 (nI i)) 58 19 = _
        rw [gf_sf_s, if_pos rfl, he]
      · show gf (sf (sf s1 58 18 (prcA F (nI i) T)) 58 19 (nI i)) 58 18 = _
        rw [gf_sf_s, if_neg (by omega), gf_sf_s, if_pos rfl, he]
      · show gf (sf (sf s1 58 18 (prcA F (nI i) T)) 58 19 (nI i)) 58 c' = _
        rw [gf_sf_s, if_neg (by omega), gf_sf_s, if_neg (by omega)]
        exact h14 c' hc'
    rcases chA_inv (riQ F L T q b (nI k)) (fun i => prcA F (nI i) T) i with h | ⟨b', hb', h⟩
    · rw [h] at h19 nx
      unfold f_X12_findRisk_50
      rw [if_pos h19, m1, bd_mk, m2, bd_mk]
      refine okI (fun c2 => keep (by rw [nx, if_neg (show ¬ riQ F L T q b (nI k) i from fun z => z.2 c2), h])) (fun c2 => ?_)
      rw [if_pos (show riQ F L T q b (nI k) i from ⟨c1, c2⟩)] at nx
      unfold f_X12_take f_X12_take_17
      rw [M_price v1, bd_mk, if_pos h19, bnd_mk, bnd_mk, bd_mk]
      refine set' ?_
      rw [nx, if_neg]
      show ¬ (1000000 : Int32) ≤ prcA F (nI i) T
      rw [ep, show (1000000 : Int32) = nI 1000000 from rfl]
      exact nI_ge (by omega) (by omega)
    · rw [h] at h19 nx h18
      have hne : ¬ gf s1 58 19 = -1 := by rw [h19]; exact nI_m1' (by omega)
      rw [if_neg hne, M_price v1, bd_mk, h18 hne]
      dsimp only at nx ⊢
      refine okI (fun g => keep ?_) (fun g => ?_)
      · rw [nx, if_pos g, h]
        split <;> rfl
      · unfold f_X12_findRisk_50
        rw [m1, bd_mk, m2, bd_mk]
        refine okI (fun c2 => keep (by rw [nx, if_neg (show ¬ riQ F L T q b (nI k) i from fun z => z.2 c2), h])) (fun c2 => ?_)
        rw [if_pos (show riQ F L T q b (nI k) i from ⟨c1, c2⟩), if_neg g] at nx
        unfold f_X12_take f_X12_take_17
        rw [M_price v1, bd_mk, if_neg hne, h18 hne]
        dsimp only
        rw [if_pos (show prcA F (nI i) T < prcA F (nI b') T from by rw [le_toInt] at g; rw [lt_toInt]; omega), bnd_mk, bnd_mk, bd_mk]
        exact set' nx
theorem S_isRisk {s : St} {F : Nat → Int32} {M T S E A U Y L P N : Nat} (v : VW s F M T S E A U Y L P N) (p m : Int32) : f_X11_isRisk p m s = some (b2 ((1 ≤ N ∧ (p = 0 ∨ p = 1)) ∧ 0 ≤ m.toInt ∧ m.toInt ≤ 100), s) := by
  unfold f_X11_isRisk f_X11_isRisk_22 f_X11_isRisk_23
  rw [S_hasSide _ v.2.2.hN v.2.2.cN, bd_mk]
  by_cases c : 1 ≤ N ∧ (p = 0 ∨ p = 1)
  · rw [b2_t c, if_neg n10, S_isPercent, bd_mk]
    by_cases c1 : 0 ≤ m.toInt ∧ m.toInt ≤ 100
    · rw [b2_t c1, if_neg n10, bz_1, gd_tt, b2_t ⟨c, c1⟩]
    · rw [b2_f c1, if_pos rfl, bz_0, gd_tt, b2_f (fun z => c1 z.2)]
  · rw [b2_f c, if_pos rfl, bz_0, gd_tt, b2_f (fun z => c z.1)]
theorem IV.f4 {σ s1 s2 : St} (hI : IV σ) (h1 : Fr [37, 38, 39, 40] σ s1) (h2 : Fr [58] s1 s2) (h14 : ∀ c, c < 14 → gf s2 58 c = gf s1 58 c) : IV s2 := by
  have i1 : IV s1 := hI.fr0 h1 (by decide) (fun c _ => by rw [(h1.1 58 (by decide)).1])
  exact i1.fr0 h2 (by decide) h14
theorem D_risked (a b : Int32) (σ : St) (hI : IV σ) : ∃ r s1 s2, f_X11_risked a b σ = some (r, s1) ∧ f_X12_risked a b s1 = some (r, s2) ∧ IV s2 := by
  obtain ⟨M, T, S, E, A, U, Y, L, P, N, v⟩ := hI.vw
  have hb := v.2.2
  have h5 := hb.S512
  unfold f_X11_risked f_X11_risked_23 f_X12_risked f_X12_risked_20
  rw [S_isRisk v, bd_mk]
  by_cases c : (1 ≤ N ∧ (a = 0 ∨ a = 1)) ∧ 0 ≤ b.toInt ∧ b.toInt ≤ 100
  · obtain ⟨q, hq, rfl⟩ : ∃ i, i < 2 ∧ a = nI i := by
      rcases c.1.2 with e | e
      · exact ⟨0, by omega, e⟩
      · exact ⟨1, by omega, e⟩
    obtain ⟨k, hk, rfl⟩ := nI_ofT (x := b) (n := 100) c.2.1 c.2.2
    obtain ⟨r1, s1, e1, q1, f1⟩ := V_risked v hq hk
    have v1 := v.fr f1 (by decide)
    obtain ⟨r2, s2, e2, q2, q3, f2, h14⟩ := M_risk v1 hq hk
    have iv2 := hI.f4 f1 f2 h14
    refine ⟨r1, s1, s2, by rw [b2_t c, if_neg n10, e1, bd_mk], ?_, iv2⟩
    rw [S_isSide _ hb.hN v1.2.2.mN, bd_mk, b2_t c.1, if_neg n10, M_inB _ 0 100 (a := 0) (b := 100) rfl rfl, bd_mk, b2_t c.2, if_neg n10, e2, bd_mk, q2, q1]
  · refine ⟨-2, σ, σ, by rw [b2_f c, if_pos rfl], ?_, hI⟩
    rw [S_isSide _ hb.hN hb.mN, bd_mk]
    by_cases c1 : 1 ≤ N ∧ (a = 0 ∨ a = 1)
    · rw [b2_t c1, if_neg n10, M_inB _ 0 100 (a := 0) (b := 100) rfl rfl, bd_mk, b2_f (fun z => c ⟨c1, z⟩), if_pos rfl]
    · rw [b2_f c1, if_pos rfl]
theorem D_risk (a b : Int32) (σ : St) (hI : IV σ) : ∃ r s1 s2, f_X11_risk a b σ = some (r, s1) ∧ f_X12_risk a b s1 = some (r, s2) ∧ IV s2 := by
  obtain ⟨M, T, S, E, A, U, Y, L, P, N, v⟩ := hI.vw
  have hb := v.2.2
  have h5 := hb.S512
  unfold f_X11_risk f_X11_risk_30 f_X12_risk f_X12_risk_20 f_X12_orNone f_X12_orNone_16
  rw [S_isRisk v, bd_mk]
  by_cases c : (1 ≤ N ∧ (a = 0 ∨ a = 1)) ∧ 0 ≤ b.toInt ∧ b.toInt ≤ 100
  · obtain ⟨q, hq, rfl⟩ : ∃ i, i < 2 ∧ a = nI i := by
      rcases c.1.2 with e | e
      · exact ⟨0, by omega, e⟩
      · exact ⟨1, by omega, e⟩
    obtain ⟨k, hk, rfl⟩ := nI_ofT (x := b) (n := 100) c.2.1 c.2.2
    obtain ⟨r1, s1, e1, q1, f1⟩ := V_risked v hq hk
    have v1 := v.fr f1 (by decide)
    obtain ⟨r2, s2, e2, q2, q3, f2, h14⟩ := M_risk v1 hq hk
    have iv2 := hI.f4 f1 f2 h14
    rcases chA_inv (riQ (gr σ 59) L T q k (tofA (gr σ 59) (nI q) T)) (fun i => prcA (gr σ 59) (nI i) T) S with h | ⟨b', hb', h⟩
    · rw [show riA (gr σ 59) L T q k S (tofA (gr σ 59) (nI q) T) = (-1, 1000000) from h] at q1 q2
      refine ⟨-1, s1, s2, ?_, ?_, iv2⟩
      · rw [b2_t c, if_neg n10, e1, bd_mk, q1]
        unfold f_X10_priceOf
        rw [isW_lit (Or.inl rfl), gd_tt, if_pos rfl, bd_mk]
      · rw [S_isSide _ hb.hN v1.2.2.mN, bd_mk, b2_t c.1, if_neg n10, M_inB _ 0 100 (a := 0) (b := 100) rfl rfl, bd_mk, b2_t c.2, if_neg n10, e2, bd_mk, if_pos q2, bd_mk]
    · rw [show riA (gr σ 59) L T q k S (tofA (gr σ 59) (nI q) T) = (nI b', prcA (gr σ 59) (nI b') T) from h] at q1 q2 q3
      have hne : ¬ gf s2 58 19 = -1 := by rw [q2]; exact nI_m1' (by omega)
      refine ⟨prcA (gr σ 59) (nI b') T, s1, s2, ?_, ?_, iv2⟩
      · rw [b2_t c, if_neg n10, e1, bd_mk, q1, V_price v1 (nI_m1' (by omega)), bd_mk]
      · rw [S_isSide _ hb.hN v1.2.2.mN, bd_mk, b2_t c.1, if_neg n10, M_inB _ 0 100 (a := 0) (b := 100) rfl rfl, bd_mk, b2_t c.2, if_neg n10, e2, bd_mk, if_neg hne, bd_mk, q3 hne]
  · refine ⟨-2, σ, σ, by rw [b2_f c, if_pos rfl], ?_, hI⟩
    rw [S_isSide _ hb.hN hb.mN, bd_mk]
    by_cases c1 : 1 ≤ N ∧ (a = 0 ∨ a = 1)
    · rw [b2_t c1, if_neg n10, M_inB _ 0 100 (a := 0) (b := 100) rfl rfl, bd_mk, b2_f (fun z => c ⟨c1, z⟩), if_pos rfl]
    · rw [b2_f c1, if_pos rfl]
