/-! ===== values: all sets of delays at once ===== -/
theorem or_add {i t : Nat} (h : i < 2 ^ t) : i ||| 2 ^ t = 2 ^ t + i := by
  have := Nat.two_pow_add_eq_or_of_lt h 1
  rw [Nat.mul_one] at this
  rw [this, Nat.or_comm]
theorem or_split {x t : Nat} (h1 : 2 ^ t ≤ x) (h2 : x < 2 ^ (t + 1)) : x - 2 ^ t < 2 ^ t ∧ x = (x - 2 ^ t) ||| 2 ^ t := by
  rw [Nat.pow_succ] at h2
  have h3 : x - 2 ^ t < 2 ^ t := by omega
  refine ⟨h3, ?_⟩
  rw [or_add h3]
  omega
theorem bit_nI {k i : Nat} (hk : k < 512) (hi : i < 31) : bitOf (nI k) i = if k.testBit i then 1 else 0 := by
  rw [bit_lsb _ hi, lsb_nI hk (by omega)]
theorem V_spread {u t : Nat} {p : Int32} {s : St} (ht : t < 9) (hu : kd u = 13 ∧ u < 75) (hl : ln u = 512) : Ok (fun _ s' => Fr [u] s s' ∧ (∀ i, i < 2 ^ t → gr s' u (i ||| 2 ^ t) = gr s u i + p) ∧ ∀ z, z < 2 ^ t → gr s' u z = gr s u z) (f_X10_spread u (nI t) p s) := by
  have hA : ∀ s, isA s u = true := fun s => by
    unfold isA
    rw [decide_eq_true hu.1, decide_eq_true (lt_lit hu.2)]
    rfl
  have hk := two_512 ht
  have hp : 2 ^ t ≤ 256 := by
    calc 2 ^ t ≤ 2 ^ 8 := Nat.pow_le_pow_right (by decide) (by omega)
      _ = 256 := rfl
  unfold f_X10_spread
  rw [hA, gd_tt, bnd_mk, nI_shl (by omega)]
  refine okC (fun (i : Nat) (x : Int32 × Int32 × Int32 × St) => x.1 = p ∧ x.2.1 = nI (2 ^ t) ∧ x.2.2.1 = nI i ∧ Fr [u] s x.2.2.2 ∧ (∀ j, j < i → gr x.2.2.2 u (j ||| 2 ^ t) = gr s u j + p) ∧ ∀ z, z < 2 ^ t → gr x.2.2.2 u z = gr s u z) (2 ^ t) ?_ (i := 0) (by unfold FU; omega) (Nat.zero_le _) ⟨rfl, rfl, rfl, Fr.rf, fun j hj => absurd hj (by omega), fun _ _ => rfl⟩
  rintro i ⟨v1, v2, v3, s2⟩ K hi ⟨e1, e2, e3, hf, h1, h2⟩ hK
  dsimp only at e1 e2 e3 hf h1 h2
  subst e1 e2 e3
  unfold g_X10_spread_7 f_X10_spread_40
  dsimp only
  refine okI (fun c => okR ?_) (fun c => ?_)
  · have : i = 2 ^ t := by
      rw [le_toInt, nI_toInt (by omega), nI_toInt (by omega)] at c
      omega
    rw [this] at h1
    exact ⟨hf, h1, h2⟩
  · have c1 := cnt_le rfl (by omega) c hi
    have c2 : i ||| 2 ^ t < 512 := or_512 (by omega) hk
    refine okD (hA _) ?_
    rw [nI_or, hl, if_neg (lt_ge c2 (by omega)), inb_nI (show i < 512 by omega) (by omega), gd_tt, inb_nI c2 (by omega), gd_tt, nI_clamp (by omega), nI_clamp (by omega), bnd_mk, bnd_mk, nI_1]
    refine hK _ c1 ⟨rfl, rfl, rfl, hf.tr (Fr.c2 (by simp)), fun j hj => ?_, fun z hz => ?_⟩
    · show gr (sr s2 u (i ||| 2 ^ t) (gr s2 u i + v1)) u (j ||| 2 ^ t) = _
      rw [gr_sr_s]
      by_cases e : j = i
      · rw [if_pos (by rw [e]), e, h2 i c1]
      · rw [if_neg (by rw [or_add (by omega), or_add c1]; omega)]
        exact h1 j (by omega)
    · show gr (sr s2 u (i ||| 2 ^ t) (gr s2 u i + v1)) u z = _
      rw [gr_sr_s, if_neg (by rw [or_add c1]; omega)]
      exact h2 z hz
theorem VW.trn {s : St} {F : Nat → Int32} {M T S E A U Y L P N : Nat} (v : VW s F M T S E A U Y L P N) {t : Nat} (ht : t < T) : ∃ a d : Nat, a ≤ 59 ∧ 1 ≤ d ∧ d ≤ 30 ∧ F (13 + 6 * t + 2) = nI a ∧ F (13 + 6 * t + 4) = nI d ∧ (F (13 + 6 * t + 0) = 0 ∨ F (13 + 6 * t + 0) = 1) := by
  have hT := v.2.2.hT
  obtain ⟨k, a1, a2, a3, a4⟩ := v.1.2.1
  obtain rfl : T = k := (nI_eq (by omega) (by omega)).mp (v.2.2.cT.symm.trans a2)
  have h0 : (0 : Int) ≤ (F (13 + 6 * t + 0)).toInt ∧ (F (13 + 6 * t + 0)).toInt ≤ 1 := (a4 t ht 0 (by omega)).2
  have h2 : (0 : Int) ≤ (F (13 + 6 * t + 2)).toInt ∧ (F (13 + 6 * t + 2)).toInt ≤ 59 := (a4 t ht 2 (by omega)).2
  have h4 : (1 : Int) ≤ (F (13 + 6 * t + 4)).toInt ∧ (F (13 + 6 * t + 4)).toInt ≤ 30 := (a4 t ht 4 (by omega)).2
  obtain ⟨a, ha, ea⟩ := nI_ofT (x := F (13 + 6 * t + 2)) (n := 59) h2.1 h2.2
  obtain ⟨d, hd, ed⟩ := nI_ofT (x := F (13 + 6 * t + 4)) (n := 30) (by omega) h4.2
  obtain ⟨b, hb, eb⟩ := nI_ofT (x := F (13 + 6 * t + 0)) (n := 1) h0.1 h0.2
  refine ⟨a, d, ha, ?_, hd, ea, ed, ?_⟩
  · rw [ed, nI_toInt (by omega)] at h4
    omega
  · rw [eb]
    rcases (by omega : b = 0 ∨ b = 1) with rfl | rfl
    · exact Or.inl rfl
    · exact Or.inr rfl
/-- MEN that TRAIN t's delay costs at minute m -/
def lostA (F : Nat → Int32) (t : Nat) (m : Int32) : Int32 := if m - F (13 + 6 * t + 2) < 0 then 0 else if F (13 + 6 * t + 4) ≤ m - F (13 + 6 * t + 2) then 0 else F (13 + 6 * t + 1)
theorem V_lost {s : St} {F : Nat → Int32} {M T S E A U Y L P N : Nat} (v : VW s F M T S E A U Y L P N) {t : Nat} (m : Int32) (ht : t < T) : f_X10_menLost 1 (nI t) m s = some (lostA F t m, s) := by
  unfold f_X10_menLost f_X10_menLost_41 f_X10_menLost_42 lostA
  rw [isW_lit (Or.inl rfl), gd_tt, show f_X9_cell (1 + 2) (nI t) (2 : Int32) s = some (F (13 + 6 * t + 2), s) from V_c3 v (c := 2) ht (by omega), bd_mk, bnd_mk]
  by_cases c : m - F (13 + 6 * t + 2) < 0
  · rw [if_pos c, if_pos c]
  · rw [if_neg c, if_neg c, isW_lit (Or.inl rfl), gd_tt, show f_X9_cell (1 + 2) (nI t) (4 : Int32) s = some (F (13 + 6 * t + 4), s) from V_c3 v (c := 4) ht (by omega), bd_mk]
    by_cases c1 : F (13 + 6 * t + 4) ≤ m - F (13 + 6 * t + 2)
    · rw [if_pos c1, if_pos c1]
    · rw [if_neg c1, if_neg c1, isW_lit (Or.inl rfl), gd_tt, show f_X9_cell (1 + 2) (nI t) (1 : Int32) s = some (F (13 + 6 * t + 1), s) from V_c3 v (c := 1) ht (by omega), bd_mk]
theorem nI_sub_toInt {m a : Nat} (hm : m ≤ 1000) (ha : a ≤ 1000) : (nI m - nI a).toInt = (m : Int) - a := by
  rw [Int32.toInt_sub, nI_toInt (by omega), nI_toInt (by omega)]
  apply Int.bmod_eq_of_le
  · omega
  · omega
/-- one TRAIN's part, late and not -/
theorem men1 {s : St} {F : Nat → Int32} {M T S E A U Y L P N : Nat} (v : VW s F M T S E A U Y L P N) {t m : Nat} (ht : t < T) (hm : m ≤ 99) : (if ¬ nI m < F (13 + 6 * t + 2) + 1 * F (13 + 6 * t + 4) then F (13 + 6 * t + 1) else 0) = (if ¬ nI m < F (13 + 6 * t + 2) + 0 * F (13 + 6 * t + 4) then F (13 + 6 * t + 1) else 0) + -(lostA F t (nI m)) := by
  obtain ⟨a, d, ha, hd1, hd2, ea, ed, -⟩ := v.trn ht
  unfold lostA
  have hs := nI_sub_toInt (m := m) (a := a) (by omega) (by omega)
  have z0 : (0 : Int32).toInt = 0 := rfl
  rw [ea, ed, Int32.one_mul, Int32.zero_mul, Int32.add_zero, nI_add]
  by_cases c1 : m < a
  · rw [if_neg (fun z => z (nI_lt (by omega) (by omega))), if_neg (fun z => z (nI_lt (by omega) (by omega))), if_pos (by rw [lt_toInt, hs]; omega)]
    decide
  · rw [if_neg (show ¬ (nI m - nI a < 0) from by rw [lt_toInt, hs]; omega)]
    by_cases c2 : m < a + d
    · rw [if_neg (fun z => z (nI_lt (by omega) (by omega))), if_pos (nI_nlt (by omega) (by omega)), if_neg (show ¬ (nI d ≤ nI m - nI a) from by rw [le_toInt, hs, nI_toInt (by omega)]; omega), ← Int32.sub_eq_add_neg, Int32.sub_self]
    · rw [if_pos (nI_nlt (by omega) (by omega)), if_pos (nI_nlt (by omega) (by omega)), if_pos (show nI d ≤ nI m - nI a from by rw [le_toInt, hs, nI_toInt (by omega)]; omega)]
      rw [show -(0 : Int32) = 0 from by decide, Int32.add_zero]
theorem men_more {s : St} {F : Nat → Int32} {M T S E A U Y L P N : Nat} (v : VW s F M T S E A U Y L P N) {t x m : Nat} (ht : t < T) (hx : x < 2 ^ t) (hm : m ≤ 99) (p : Int32) : ∀ n, n ≤ T → menA F p (nI m) (nI (x ||| 2 ^ t)) n = menA F p (nI m) (nI x) n + (if t < n ∧ F (13 + 6 * t + 0) = p then -(lostA F t (nI m)) else 0) := by
  have hT := v.2.2.hT
  have h2 := two_512 (show t < 9 by omega)
  have hx5 : x < 512 := by omega
  have ho : x ||| 2 ^ t < 512 := or_512 hx5 h2
  intro n
  induction n with
  | zero =>
    intro _
    rw [if_neg (by omega), Int32.add_zero]
    rfl
  | succ n ih =>
    intro hn
    show menA F p (nI m) (nI (x ||| 2 ^ t)) n + (if F (13 + 6 * n + 0) = p ∧ ¬ nI m < arrA F (nI (x ||| 2 ^ t)) n then F (13 + 6 * n + 1) else 0) = (menA F p (nI m) (nI x) n + (if F (13 + 6 * n + 0) = p ∧ ¬ nI m < arrA F (nI x) n then F (13 + 6 * n + 1) else 0)) + _
    rw [ih (by omega)]
    unfold arrA
    rw [bit_nI ho (by omega), bit_nI hx5 (by omega), Nat.testBit_or, Nat.testBit_two_pow]
    by_cases e : t = n
    · subst e
      have hb : x.testBit t = false := Nat.testBit_lt_two_pow hx
      rw [hb, decide_eq_true (rfl : t = t), if_neg (by omega), Int32.add_zero]
      show _ + (if F (13 + 6 * t + 0) = p ∧ ¬ nI m < F (13 + 6 * t + 2) + 1 * F (13 + 6 * t + 4) then F (13 + 6 * t + 1) else 0) = (_ + (if F (13 + 6 * t + 0) = p ∧ ¬ nI m < F (13 + 6 * t + 2) + 0 * F (13 + 6 * t + 4) then F (13 + 6 * t + 1) else 0)) + _
      have h1 := men1 v ht hm
      by_cases c : F (13 + 6 * t + 0) = p
      · rw [if_pos (show t < t + 1 ∧ F (13 + 6 * t + 0) = p from ⟨by omega, c⟩), Int32.add_assoc]
        congr 1
        by_cases g1 : nI m < F (13 + 6 * t + 2) + 1 * F (13 + 6 * t + 4)
        · by_cases g2 : nI m < F (13 + 6 * t + 2) + 0 * F (13 + 6 * t + 4)
          · rw [if_neg (fun z => z g1), if_neg (fun z => z g2)] at h1
            rw [if_neg (fun z => z.2 g1), if_neg (fun z => z.2 g2)]
            exact h1
          · rw [if_neg (fun z => z g1), if_pos g2] at h1
            rw [if_neg (fun z => z.2 g1), if_pos ⟨c, g2⟩]
            exact h1
        · by_cases g2 : nI m < F (13 + 6 * t + 2) + 0 * F (13 + 6 * t + 4)
          · rw [if_pos g1, if_neg (fun z => z g2)] at h1
            rw [if_pos ⟨c, g1⟩, if_neg (fun z => z.2 g2)]
            exact h1
          · rw [if_pos g1, if_pos g2] at h1
            rw [if_pos ⟨c, g1⟩, if_pos ⟨c, g2⟩]
            exact h1
      · rw [if_neg (fun z => c z.1), if_neg (fun z => c z.1), if_neg (fun z => c z.2), Int32.add_zero, Int32.add_zero]
    · rw [decide_eq_false e, Bool.or_false]
      have hiff : (t < n ∧ F (13 + 6 * t + 0) = p) ↔ (t < n + 1 ∧ F (13 + 6 * t + 0) = p) := ⟨fun z => ⟨by omega, z.2⟩, fun z => ⟨by omega, z.2⟩⟩
      rw [Int32.add_assoc, Int32.add_assoc]
      congr 1
      by_cases g : t < n ∧ F (13 + 6 * t + 0) = p
      · rw [if_pos g, if_pos (hiff.mp g), Int32.add_comm]
      · rw [if_neg g, if_neg (fun z => g (hiff.mpr z)), Int32.add_comm]
/-- what row 33 holds behind takeMen -/
def tkA (F : Nat → Int32) (T : Nat) (p q m x : Int32) : Int32 := p * menA F 0 m x T + q * menA F 1 m x T
theorem tk_more {s : St} {F : Nat → Int32} {M T S E A U Y L P N : Nat} (v : VW s F M T S E A U Y L P N) {t x m : Nat} (ht : t < T) (hx : x < 2 ^ t) (hm : m ≤ 99) (p q : Int32) : tkA F T p q (nI m) (nI (x ||| 2 ^ t)) = tkA F T p q (nI m) (nI x) + (-(if F (13 + 6 * t + 0) = 0 then p else q)) * lostA F t (nI m) := by
  unfold tkA
  rw [men_more v ht hx hm 0 T (by omega), men_more v ht hx hm 1 T (by omega), Int32.mul_add, Int32.mul_add]
  obtain ⟨-, -, -, -, -, -, -, hs⟩ := v.trn ht
  rcases hs with e | e
  · rw [if_pos (show t < T ∧ F (13 + 6 * t + 0) = 0 from ⟨ht, e⟩), if_neg (show ¬ (t < T ∧ F (13 + 6 * t + 0) = 1) from fun z => by rw [e] at z; exact absurd z.2 (by decide)), if_pos e, Int32.mul_zero, Int32.add_zero, Int32.mul_neg, Int32.neg_mul, Int32.add_assoc, Int32.add_assoc]
    congr 1
    rw [Int32.add_comm]
  · rw [if_neg (show ¬ (t < T ∧ F (13 + 6 * t + 0) = 0) from fun z => by rw [e] at z; exact absurd z.2 (by decide)), if_pos (show t < T ∧ F (13 + 6 * t + 0) = 1 from ⟨ht, e⟩), if_neg (show ¬ F (13 + 6 * t + 0) = 0 from by rw [e]; decide), Int32.mul_zero, Int32.add_zero, Int32.mul_neg, Int32.neg_mul, Int32.add_assoc]
theorem V_takeMen {s : St} {F : Nat → Int32} {M T S E A U Y L P N : Nat} (v : VW s F M T S E A U Y L P N) {m : Nat} (hm : m ≤ 99) (p q : Int32) : Ok (fun _ s' => Fr [33] s s' ∧ ∀ x, x < S → gr s' 33 x = tkA F T p q (nI m) (nI x)) (f_X2_takeMen (nI m) p q s) := by
  have hT := v.2.2.hT
  unfold f_X2_takeMen
  rw [V_men v, bd_mk, V_men v, bd_mk]
  refine okD rfl ?_
  rw [bnd_mk]
  refine okC (fun (t : Nat) (y : Int32 × Int32 × Int32 × Int32 × St) => y.1 = nI m ∧ y.2.1 = p ∧ y.2.2.1 = q ∧ y.2.2.2.1 = nI t ∧ Fr [33] s y.2.2.2.2 ∧ ∀ x, x < 2 ^ t → gr y.2.2.2.2 33 x = tkA F T p q (nI m) (nI x)) T ?_ (i := 0) (by unfold FU; omega) (by omega) ⟨rfl, rfl, rfl, rfl, Fr.c2 (by simp), fun x hx => by
    obtain rfl : x = 0 := by
      rw [Nat.pow_zero] at hx
      omega
    show gr (sr s 33 0 _) 33 0 = _
    rw [gr_sr_s, if_pos rfl]
    rfl⟩
  rintro t ⟨y1, y2, y3, y4, s1⟩ K hi ⟨e1, e2, e3, e4, hf, hr⟩ hK
  dsimp only at e1 e2 e3 e4 hf hr
  subst e1 e2 e3 e4
  have v1 := v.fr hf (by decide)
  unfold g_X2_takeMen_34
  dsimp only
  rw [show gf s1 3 3 = nI T from v1.2.2.cT]
  refine okI (fun c => okR ?_) (fun c => ?_)
  · have : t = T := by
      rw [le_toInt, nI_toInt (by omega), nI_toInt (by omega)] at c
      omega
    subst this
    rw [← v.2.2.hS] at hr
    exact ⟨hf, hr⟩
  · replace c : t < T := cnt_le rfl (by omega) c hi
    have key : ∀ k0, k0 = (if F (13 + 6 * t + 0) = 0 then y2 else y3) → Ok (fun _ s' => Fr [33] s s' ∧ ∀ x, x < S → gr s' 33 x = tkA F T y2 y3 (nI m) (nI x)) (f_X2_takeMen_70 K (nI m) y2 y3 (nI t) k0 s1) := by
      intro k0 hk
      unfold f_X2_takeMen_70
      rw [V_lost v1 _ c, bd_mk]
      refine okB (V_spread (u := 33) (p := (-k0) * lostA F t (nI m)) (s := s1) (show t < 9 by omega) ⟨by decide, by decide⟩ rfl) ?_
      rintro _ s2 ⟨f2, g1, g2⟩
      rw [bnd_mk, nI_1]
      refine hK _ c ⟨rfl, rfl, rfl, rfl, hf.tr f2, fun x hx => ?_⟩
      show gr s2 33 x = _
      by_cases e : x < 2 ^ t
      · rw [g2 x e]; exact hr x e
      · obtain ⟨h1, h2⟩ := or_split (by omega) hx
        rw [h2, g1 _ h1, hr _ h1, tk_more v c h1 hm, hk]
    rw [show f_X9_cell 3 (nI t) (0 : Int32) s1 = some (F (13 + 6 * t + 0), s1) from V_c3 v1 (c := 0) c (by omega), bd_mk]
    exact okI (fun e => key _ (by rw [if_pos e])) (fun e => key _ (by rw [if_neg e]))
theorem V_sets {s : St} {F : Nat → Int32} {M T S E A U Y L P N : Nat} (v : VW s F M T S E A U Y L P N) : f_X10_sets 1 s = some (nI S, s) := by
  have hb := v.2.2
  have h5 := hb.S512
  unfold f_X10_sets
  rw [isW_lit (Or.inl rfl), gd_tt, show gf s (1 + 2) 3 = nI T from hb.cT, nI_shl (by have := hb.hT; omega), ← hb.hS, if_neg (show ¬ (512 : Int32) < nI S from nI_nlt (b := S) (a := 512) (by omega) (by omega))]
theorem V_moveEnds {s : St} {F : Nat → Int32} {M T S E A U Y L P N : Nat} (v : VW s F M T S E A U Y L P N) (c : Int32) : Ok (fun _ s' => Fr [34] s s' ∧ ∀ x, x < S → gr s' 34 x = gr s 34 x + c * sgnI (gr s 33 x)) (f_X2_moveEnds c s) := by
  have h5 := v.2.2.S512
  unfold f_X2_moveEnds
  refine okC (fun (i : Nat) (y : Int32 × Int32 × St) => y.1 = c ∧ y.2.1 = nI i ∧ Fr [34] s y.2.2 ∧ ∀ x, gr y.2.2 34 x = if x < i then gr s 34 x + c * sgnI (gr s 33 x) else gr s 34 x) S ?_ (i := 0) (by unfold FU; omega) (by omega) ⟨rfl, rfl, Fr.rf, fun x => by rw [if_neg (by omega)]⟩
  rintro i ⟨y1, y2, s1⟩ K hi ⟨e1, e2, hf, hr⟩ hK
  dsimp only at e1 e2 hf hr
  subst e1 e2
  have v1 := v.fr hf (by decide)
  unfold g_X2_moveEnds_2
  dsimp only
  rw [V_sets v1, bd_mk]
  refine okI (fun g => okR ⟨hf, fun x hx => ?_⟩) (fun g => ?_)
  · have : i = S := by
      rw [le_toInt, nI_toInt (by omega), nI_toInt (by omega)] at g
      omega
    rw [hr x, if_pos (by omega)]
  · replace g : i < S := cnt_le rfl (by omega) g hi
    rw [inb_ln (n := 512) rfl (show i < 512 by omega) (by omega), gd_tt, inb_ln (n := 512) rfl (show i < 512 by omega) (by omega), gd_tt, S_sgn, bd_mk, gd_tt, nI_clamp (by omega), bnd_mk, bnd_mk, nI_1]
    refine hK _ g ⟨rfl, rfl, hf.tr (Fr.c2 (by simp)), fun x => ?_⟩
    show gr (sr s1 34 i (gr s1 34 i + y1 * sgnI (gr s1 33 i))) 34 x = _
    rw [gr_sr_s, (hf.1 33 (by decide)).2.1]
    by_cases e : x = i
    · rw [if_pos e, if_pos (by omega), e, hr i, if_neg (by omega)]
    · rw [if_neg e, hr x]
      by_cases e2 : x < i
      · rw [if_pos e2, if_pos (by omega)]
      · rw [if_neg e2, if_neg (by omega)]
