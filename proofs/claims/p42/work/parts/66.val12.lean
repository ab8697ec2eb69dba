/-! ===== values: what Course.reckon lays down ===== -/
theorem or_eq0 (a b : Int32) : a ||| b = 0 ↔ (a = 0 ∧ b = 0) := by
  constructor
  · intro h
    have hb : ∀ j, a.toBitVec.getLsbD j = false ∧ b.toBitVec.getLsbD j = false := fun j => by
      have h2 := congrArg (fun z : Int32 => z.toBitVec.getLsbD j) h
      rw [Int32.toBitVec_or, BitVec.getLsbD_or, lsb_0] at h2
      cases ha : a.toBitVec.getLsbD j <;> cases hb : b.toBitVec.getLsbD j <;> rw [ha, hb] at h2 <;> simp at h2 ⊢
    constructor
    · apply Int32.toBitVec.inj
      apply BitVec.eq_of_getLsbD_eq
      intro j _
      rw [(hb j).1, lsb_0]
    · apply Int32.toBitVec.inj
      apply BitVec.eq_of_getLsbD_eq
      intro j _
      rw [(hb j).2, lsb_0]
  · rintro ⟨rfl, rfl⟩
    decide
theorem com0 (F : Nat → Int32) (m x : Int32) : ∀ n, n ≤ 9 → comA F m x n = 0 → ∀ t, t < n → ¬ arrA F x t = m := by
  intro n
  induction n with
  | zero => exact fun _ _ t ht => absurd ht (by omega)
  | succ n ih =>
    intro hn h t ht e
    have h2 : comA F m x n ||| (if arrA F x n = m then (1 : Int32) <<< (nI n &&& 31) else 0) = 0 := h
    obtain ⟨h3, h4⟩ := (or_eq0 _ _).mp h2
    by_cases g : t = n
    · subst g
      rw [if_pos e, nI_sh1 t (by omega)] at h4
      exact nI_ne0 Nat.one_le_two_pow (by have := two_512 (show t < 9 by omega); omega) h4
    · exact ih (by omega) h3 t (by omega) e
theorem V_isArrival {s : St} {F : Nat → Int32} {M T S E A U Y L P N : Nat} (v : VW s F M T S E A U Y L P N) (m : Int32) : ∃ r, f_X2_isArrival m s = some (r, s) ∧ (r = 0 → ∀ t, t < T → ¬ arrA F 0 t = m ∧ ¬ arrA F (nI (S - 1)) t = m) := by
  have hT := v.2.2.hT
  have h5 := v.2.2.S512
  have hpr : nI S - 1 = nI (S - 1) := by
    obtain ⟨k, e⟩ : ∃ k, S = k + 1 := ⟨S - 1, by omega⟩
    rw [e, nI_pred, Nat.add_sub_cancel]
  unfold f_X2_isArrival f_X2_isArrival_35
  rw [V_comes v, bd_mk, V_sets v, bd_mk, hpr, V_comes v, bd_mk, bz_0, bz_1, gd_tt, gd_tt]
  by_cases c : comA F m 0 T ||| comA F m (nI (S - 1)) T = 0
  · obtain ⟨c1, c2⟩ := (or_eq0 _ _).mp c
    exact ⟨0, by rw [if_pos c], fun _ t ht => ⟨com0 F m 0 T hT c1 t ht, com0 F m _ T hT c2 t ht⟩⟩
  · exact ⟨1, by rw [if_neg c], fun z => absurd z (by decide)⟩
theorem bit_00 {j : Nat} (hj : j < 31) : bitOf 0 j = 0 := by
  rw [bit_lsb _ hj, lsb_0]
  rfl
theorem no_arr {s : St} {F : Nat → Int32} {M T S E A U Y L P N : Nat} (v : VW s F M T S E A U Y L P N) {m : Nat} (hm1 : 1 ≤ m) (hm : m ≤ 60) (h : ∀ t, t < T → ¬ arrA F 0 t = nI m ∧ ¬ arrA F (nI (S - 1)) t = nI m) (p x : Int32) : ∀ n, n ≤ T → menA F p (nI m) x n = menA F p (nI (m - 1)) x n := by
  have hT := v.2.2.hT
  have h5 := v.2.2.S512
  intro n
  induction n with
  | zero => exact fun _ => rfl
  | succ n ih =>
    intro hn
    show menA F p (nI m) x n + (if F (13 + 6 * n + 0) = p ∧ ¬ nI m < arrA F x n then F (13 + 6 * n + 1) else 0) = menA F p (nI (m - 1)) x n + (if F (13 + 6 * n + 0) = p ∧ ¬ nI (m - 1) < arrA F x n then F (13 + 6 * n + 1) else 0)
    rw [ih (by omega)]
    congr 1
    obtain ⟨a, d, ha, hd1, hd2, ea, ed, -⟩ := v.trn (show n < T by omega)
    obtain ⟨h0, hS⟩ := h n (by omega)
    have b0 : bitOf 0 n = 0 := bit_00 (by omega)
    have bS : bitOf (nI (S - 1)) n = 1 := by
      rw [bit_nI (by omega) (by omega), v.2.2.hS, Nat.testBit_two_pow_sub_one, decide_eq_true (show n < T by omega)]
      rfl
    unfold arrA at *
    rw [b0, ea, ed, Int32.zero_mul, Int32.add_zero] at h0
    rw [bS, ea, ed, Int32.one_mul, nI_add] at hS
    have key : ∀ k, k ≤ 89 → ¬ nI k = nI m → ((F (13 + 6 * n + 0) = p ∧ ¬ nI m < nI k) ↔ (F (13 + 6 * n + 0) = p ∧ ¬ nI (m - 1) < nI k)) := by
      intro k hk hne
      have hne' : k ≠ m := fun z => hne (by rw [z])
      rw [nI_ltI (by omega) (by omega), nI_ltI (by omega) (by omega)]
      constructor
      · exact fun z => ⟨z.1, by omega⟩
      · exact fun z => ⟨z.1, by omega⟩
    rw [ea, ed]
    rcases bit01 x n with e | e
    · rw [e, Int32.zero_mul, Int32.add_zero]
      have := key a (by omega) h0
      by_cases g : F (13 + 6 * n + 0) = p ∧ ¬ nI m < nI a
      · rw [if_pos g, if_pos (this.mp g)]
      · rw [if_neg g, if_neg (fun z => g (this.mpr z))]
    · rw [e, Int32.one_mul, nI_add]
      have := key (a + d) (by omega) hS
      by_cases g : F (13 + 6 * n + 0) = p ∧ ¬ nI m < nI (a + d)
      · rw [if_pos g, if_pos (this.mp g)]
      · rw [if_neg g, if_neg (fun z => g (this.mpr z))]
theorem V_fill {u n : Nat} {p : Int32} {s : St} (hu : kd u = 13 ∧ u < 75) (hl : ln u = n) (hn : n ≤ 1000) : Ok (fun _ s' => Fr [u] s s' ∧ ∀ x, x < n → gr s' u x = p) (f_J7_fill_53178 u p s) := by
  have hA : ∀ s, isA s u = true := fun s => by
    unfold isA
    rw [decide_eq_true hu.1, decide_eq_true (lt_lit hu.2)]
    rfl
  unfold f_J7_fill_53178
  rw [hA, gd_tt, bnd_mk, hl]
  refine okC (fun (i : Nat) (x : Int32 × Int32 × Int32 × St) => x.1 = p ∧ x.2.1 = nI i ∧ x.2.2.1 = nI n ∧ Fr [u] s x.2.2.2 ∧ ∀ j, j < i → gr x.2.2.2 u j = p) n ?_ (i := 0) (by unfold FU; omega) (by omega) ⟨rfl, rfl, rfl, Fr.rf, fun j hj => absurd hj (by omega)⟩
  rintro i ⟨v1, v2, v3, s2⟩ K hi ⟨e1, e2, e3, hf, hr⟩ hK
  dsimp only at e1 e2 e3 hf hr
  subst e1 e2 e3
  unfold g_J7_fill_53178_5
  dsimp only
  refine okI (fun c => okR ⟨hf, ?_⟩) (fun c => ?_)
  · have : i = n := by
      rw [le_toInt, nI_toInt (by omega), nI_toInt (by omega)] at c
      omega
    rw [this] at hr
    exact hr
  · have c1 := cnt_le rfl (by omega) c hi
    refine okD (hA _) ?_
    rw [inb_ln hl c1 (by omega), gd_tt, nI_clamp (by omega), bnd_mk, bnd_mk, nI_1]
    refine hK _ c1 ⟨rfl, rfl, rfl, hf.tr (Fr.c2 (by simp)), fun j hj => ?_⟩
    show gr (sr s2 u i v1) u j = _
    rw [gr_sr_s]
    by_cases e : j = i
    · rw [if_pos e]
    · rw [if_neg e]; exact hr j (by omega)
theorem tk_side (F : Nat → Int32) (T : Nat) {p : Nat} (hp : p < 2) (m x : Int32) : tkA F T ((1 : Int32) - nI p) (nI p) m x = menA F (nI p) m x T := by
  unfold tkA
  rcases (by omega : p = 0 ∨ p = 1) with rfl | rfl
  · rw [show (1 : Int32) - nI 0 = 1 from by decide, show nI 0 = 0 from rfl, Int32.one_mul, Int32.zero_mul, Int32.add_zero]
  · rw [show (1 : Int32) - nI 1 = 0 from by decide, show nI 1 = 1 from rfl, Int32.one_mul, Int32.zero_mul, Int32.zero_add]
theorem V_findWinners {s : St} {F : Nat → Int32} {M T S E A U Y L P N : Nat} (v : VW s F M T S E A U Y L P N) (h34 : ∀ x, x < S → gr s 34 x = frA F E T (nI x) M) : Ok (fun _ s' => Fr [33, 35] s s' ∧ ∀ x, x < S → gr s' 35 x = winA F M E T L (nI x)) (f_X2_findWinners s) := by
  have h5 := v.2.2.S512
  have hL := v.2.2.hL
  unfold f_X2_findWinners
  refine okB (V_fill (u := 35) (n := 512) (p := 0) (s := s) ⟨by decide, by decide⟩ rfl (by omega)) ?_
  rintro _ s0 ⟨f0, r0⟩
  refine okC (fun (p : Nat) (y : Int32 × St) => y.1 = nI p ∧ Fr [33, 35] s y.2 ∧ ∀ x, x < S → gr y.2 35 x = lat2 F L T (nI x) p) 2 ?_ (i := 0) (by unfold FU; omega) (by omega) ⟨rfl, f0.mo (by simp), fun x hx => r0 x (by omega)⟩
  rintro p ⟨y1, s1⟩ K hp ⟨e1, hf, hr⟩ hK
  dsimp only at e1 hf hr
  subst e1
  have v1 := v.fr hf (by decide)
  unfold g_X2_findWinners_10
  dsimp only
  refine okI (fun c => ?_) (fun c => ?_)
  · obtain rfl : p = 2 := by
      rw [le_toInt, nI_toInt (by omega)] at c
      have z2 : (2 : Int32).toInt = 2 := rfl
      omega
    refine okC (fun (i : Nat) (y : Int32 × St) => y.1 = nI i ∧ Fr [33, 35] s y.2 ∧ ∀ x, x < S → gr y.2 35 x = if x < i then winA F M E T L (nI x) else lat2 F L T (nI x) 2) S ?_ (i := 0) (by unfold FU; omega) (by omega) ⟨rfl, hf, fun x hx => by rw [if_neg (by omega)]; exact hr x hx⟩
    rintro i ⟨y1, s2⟩ K2 hi ⟨e1, hf2, hr2⟩ hK2
    dsimp only at e1 hf2 hr2
    subst e1
    have v2 := v.fr hf2 (by decide)
    unfold g_X2_findWinners_90
    dsimp only
    rw [V_sets v2, bd_mk]
    refine okI (fun g => okR ⟨hf2, fun x hx => ?_⟩) (fun g => ?_)
    · have : i = S := by
        rw [le_toInt, nI_toInt (by omega), nI_toInt (by omega)] at g
        omega
      rw [hr2 x hx, if_pos (by omega)]
    · replace g : i < S := cnt_le rfl (by omega) g hi
      rw [inb_ln (n := 512) rfl (show i < 512 by omega) (by omega), gd_tt, inb_ln (n := 512) rfl (show i < 512 by omega) (by omega), gd_tt, nI_clamp (by omega), hr2 i g, if_neg (by omega), (hf2.1 34 (by decide)).2.1, h34 i g, S_winner, bd_mk, gd_tt, bnd_mk, bnd_mk, nI_1]
      refine hK2 _ g ⟨rfl, hf2.tr (Fr.c2 (by simp)), fun x hx => ?_⟩
      show gr (sr s2 35 i (winA F M E T L (nI i))) 35 x = _
      rw [gr_sr_s]
      by_cases e : x = i
      · rw [if_pos e, if_pos (by omega), e]
      · rw [if_neg e, hr2 x hx]
        by_cases e2 : x < i
        · rw [if_pos e2, if_pos (by omega)]
        · rw [if_neg e2, if_neg (by omega)]
  · replace c : p < 2 := cnt_le (B := 2) rfl (by omega) c hp
    rw [show gf s1 1 2 = nI L from v1.2.2.cL]
    refine okB (V_takeMen v1 (show L ≤ 99 by omega) ((1 : Int32) - nI p) (nI p)) ?_
    rintro _ s2 ⟨f2, r2⟩
    have hf2 : Fr [33, 35] s s2 := hf.tr (f2.mo (by simp))
    refine okC (fun (i : Nat) (y : Int32 × Int32 × St) => y.1 = nI p ∧ y.2.1 = nI i ∧ Fr [33, 35] s y.2.2 ∧ (∀ x, x < S → gr y.2.2 33 x = menA F (nI p) (nI L) (nI x) T) ∧ ∀ x, x < S → gr y.2.2 35 x = if x < i then lat2 F L T (nI x) (p + 1) else lat2 F L T (nI x) p) S ?_ (i := 0) (by unfold FU; omega) (by omega) ⟨rfl, rfl, hf2, fun x hx => by
      show gr s2 33 x = _
      rw [r2 x hx, tk_side F T c], fun x hx => by
      show gr s2 35 x = _
      rw [if_neg (by omega), (f2.1 35 (by decide)).2.1]
      exact hr x hx⟩
    rintro i ⟨y1, y2, s3⟩ K3 hi ⟨e1, e2, hf3, h33, hr3⟩ hK3
    dsimp only at e1 e2 hf3 h33 hr3
    subst e1 e2
    have v3 := v.fr hf3 (by decide)
    unfold g_X2_findWinners_32
    dsimp only
    rw [V_sets v3, bd_mk]
    refine okI (fun g => ?_) (fun g => ?_)
    · have : i = S := by
        rw [le_toInt, nI_toInt (by omega), nI_toInt (by omega)] at g
        omega
      rw [bnd_mk, nI_1]
      exact hK _ c ⟨rfl, hf3, fun x hx => by rw [hr3 x hx, if_pos (by omega)]⟩
    · replace g : i < S := cnt_le rfl (by omega) g hi
      rw [inb_ln (n := 512) rfl (show i < 512 by omega) (by omega), gd_tt, inb_ln (n := 512) rfl (show i < 512 by omega) (by omega), gd_tt, V_need v3 c, bd_mk, nI_clamp (by omega), h33 i g, hr3 i g, if_neg (show ¬ i < i by omega)]
      have key : ∀ k0, lat2 F L T (nI i) p ||| k0 = lat2 F L T (nI i) (p + 1) → Ok (fun _ s' => Fr [33, 35] s s' ∧ ∀ x, x < S → gr s' 35 x = winA F M E T L (nI x)) (f_X2_findWinners_74 K K3 (nI p) (nI i) k0 (lat2 F L T (nI i) p) (nI i) s3) := by
        intro k0 hk
        unfold f_X2_findWinners_74
        rw [inb_ln (n := 512) rfl (show i < 512 by omega) (by omega), gd_tt, nI_clamp (by omega), bnd_mk, bnd_mk, nI_1, hk]
        refine hK3 _ g ⟨rfl, rfl, hf3.tr (Fr.c2 (by simp)), fun x hx => ?_, fun x hx => ?_⟩
        · show gr (sr s3 35 i _) 33 x = _
          rw [gr_sr_n _ _ _ _ (by decide)]
          exact h33 x hx
        · show gr (sr s3 35 i _) 35 x = _
          rw [gr_sr_s]
          by_cases e : x = i
          · rw [if_pos e, if_pos (by omega), e]
          · rw [if_neg e, hr3 x hx]
            by_cases e2 : x < i
            · rw [if_pos e2, if_pos (by omega)]
            · rw [if_neg e2, if_neg (by omega)]
      have nx : lat2 F L T (nI i) (p + 1) = if F (11 + p) ≤ menA F (nI p) (nI L) (nI i) T then lat2 F L T (nI i) p else lat2 F L T (nI i) p ||| ((1 : Int32) <<< (nI p &&& 31)) := rfl
      exact okI (fun e => key _ (by rw [nx, if_pos e, or0])) (fun e => key _ (by rw [nx, if_neg e]))
/-- the lead at minute m -/
def ldA (F : Nat → Int32) (T m : Nat) (x : Int32) : Int32 := menA F 0 (nI m) x T - menA F 1 (nI m) x T
theorem tk_ld (F : Nat → Int32) (T m : Nat) (x : Int32) : tkA F T 1 (-1) (nI m) x = ldA F T m x := by
  unfold tkA ldA
  rw [Int32.one_mul, Int32.neg_mul, Int32.one_mul, Int32.sub_eq_add_neg]
theorem fr_succ (F : Nat → Int32) (E T i : Nat) (x : Int32) : frA F E T x (i + 1) = frA F E T x i + (if teaV F E (nI i) = 0 then sgnI (ldA F T i x) else 0) := by
  show frA F E T x i + sgnI (if teaV F E (nI i) = 0 then menA F 0 (nI i) x T - menA F 1 (nI i) x T else 0) = _
  by_cases c : teaV F E (nI i) = 0
  · rw [if_pos c, if_pos c]
    rfl
  · rw [if_neg c, if_neg c, sgn0]
theorem V_reckon {s : St} {F : Nat → Int32} {M T S E A U Y L P N : Nat} (v : VW s F M T S E A U Y L P N) (h0 : gf s 31 5 = 0) : Ok (fun _ s' => Fr [31, 33, 34, 35] s s' ∧ gf s' 31 5 = 1 ∧ (∀ x, x < S → gr s' 34 x = frA F E T (nI x) M) ∧ ∀ x, x < S → gr s' 35 x = winA F M E T L (nI x)) (f_X2_reckon s) := by
  have hM := v.2.2.hM
  have h5 := v.2.2.S512
  unfold f_X2_reckon
  rw [if_pos h0]
  refine okB (V_fill (u := 34) (n := 512) (p := 0) (s := s) ⟨by decide, by decide⟩ rfl (by omega)) ?_
  rintro _ s0 ⟨f0, r0⟩
  refine okC (fun (i : Nat) (y : Int32 × Int32 × St) => y.2.1 = nI i ∧ Fr [33, 34] s y.2.2 ∧ (i = 0 → y.1 = 0 ∧ ∀ x, x < S → gr y.2.2 34 x = 0) ∧ (1 ≤ i → ∀ x, x < S → gr y.2.2 33 x = ldA F T (i - 1) (nI x) ∧ gr y.2.2 34 x + y.1 * sgnI (gr y.2.2 33 x) = frA F E T (nI x) i)) M ?_ (i := 0) (by unfold FU; omega) (by omega) ⟨rfl, f0.mo (by simp), fun _ => ⟨rfl, fun x hx => r0 x (by omega)⟩, fun h => absurd h (by omega)⟩
  rintro i ⟨y1, y2, s1⟩ K hi ⟨e1, hf, hz, hs⟩ hK
  dsimp only at e1 hf hz hs
  subst e1
  have v1 := v.fr hf (by decide)
  /- moving the ends: from here they are right -/
  have mv : Ok (fun _ s' => Fr [33, 34] s s' ∧ ∀ x, x < S → gr s' 34 x = frA F E T (nI x) i) (f_X2_moveEnds y1 s1) := by
    obtain ⟨r, s2, e2, f2, g2⟩ := V_moveEnds v1 y1
    refine ⟨r, s2, e2, hf.tr (f2.mo (by simp)), fun x hx => ?_⟩
    rw [g2 x hx]
    by_cases c : i = 0
    · obtain ⟨a1, a2⟩ := hz c
      rw [a1, a2 x hx, Int32.zero_mul, Int32.add_zero, c]
      rfl
    · exact (hs (by omega) x hx).2
  unfold g_X2_reckon_20
  dsimp only
  rw [show gf s1 1 1 = nI M from v1.2.2.cM]
  refine okI (fun c => ?_) (fun c => ?_)
  · have hiM : i = M := by
      rw [le_toInt, nI_toInt (by omega), nI_toInt (by omega)] at c
      omega
    refine okB mv ?_
    rintro _ s2 ⟨f2, g2⟩
    rw [hiM] at g2
    refine okB (V_findWinners (v.fr f2 (by decide)) g2) ?_
    rintro _ s3 ⟨f3, g3⟩
    refine okD rfl ?_
    rw [bnd_mk]
    refine okR ⟨((f2.mo (by simp)).tr (f3.mo (by simp))).tr (Fr.c1 (by simp)), by rw [gf_sf_s, if_pos rfl], fun x hx => ?_, fun x hx => g3 x hx⟩
    show gr s3 34 x = _
    rw [(f3.1 34 (by decide)).2.1]
    exact g2 x hx
  · replace c : i < M := cnt_le rfl (by omega) c hi
    /- behind the men of this minute -/
    have tail : ∀ (c1 : Int32) (s2 : St), Fr [33, 34] s s2 → (∀ x, x < S → gr s2 33 x = ldA F T i (nI x) ∧ gr s2 34 x + c1 * sgnI (gr s2 33 x) = frA F E T (nI x) i) → Ok (fun _ s' => Fr [31, 33, 34, 35] s s' ∧ gf s' 31 5 = 1 ∧ (∀ x, x < S → gr s' 34 x = frA F E T (nI x) M) ∧ ∀ x, x < S → gr s' 35 x = winA F M E T L (nI x)) (f_X2_reckon_57 K c1 (nI i) s2) := by
      intro c1 s2 f2 g2
      unfold f_X2_reckon_57 f_X2_reckon_71
      rw [V_tea (v.fr f2 (by decide)), bd_mk, nI_1]
      refine okI (fun e => ?_) (fun e => ?_)
      · refine hK _ c ⟨rfl, f2, fun z => absurd z (by omega), fun _ x hx => ?_⟩
        obtain ⟨a1, a2⟩ := g2 x hx
        refine ⟨a1, ?_⟩
        show gr s2 34 x + (c1 + 1) * sgnI (gr s2 33 x) = _
        rw [Int32.add_mul, Int32.one_mul, ← Int32.add_assoc, a2, fr_succ, if_pos e, a1]
      · refine hK _ c ⟨rfl, f2, fun z => absurd z (by omega), fun _ x hx => ?_⟩
        obtain ⟨a1, a2⟩ := g2 x hx
        refine ⟨a1, ?_⟩
        show gr s2 34 x + c1 * sgnI (gr s2 33 x) = _
        rw [a2, fr_succ, if_neg e, Int32.add_zero]
    have anew : Ok (fun _ s' => Fr [31, 33, 34, 35] s s' ∧ gf s' 31 5 = 1 ∧ (∀ x, x < S → gr s' 34 x = frA F E T (nI x) M) ∧ ∀ x, x < S → gr s' 35 x = winA F M E T L (nI x)) (f_X2_reckon_43 K y1 (nI i) s1) := by
      unfold f_X2_reckon_43
      refine okB mv ?_
      rintro _ s2 ⟨f2, g2⟩
      refine okB (V_takeMen (v.fr f2 (by decide)) (show i ≤ 99 by omega) 1 (-1)) ?_
      rintro _ s3 ⟨f3, g3⟩
      refine tail 0 s3 (f2.tr (f3.mo (by simp))) (fun x hx => ⟨?_, ?_⟩)
      · rw [g3 x hx, tk_ld]
      · rw [Int32.zero_mul, Int32.add_zero, (f3.1 34 (by decide)).2.1]
        exact g2 x hx
    refine okI (fun _ => anew) (fun c2 => ?_)
    have hi1 : 1 ≤ i := by
      rcases i with _ | i
      · exact absurd rfl c2
      · omega
    obtain ⟨r, e9, h9⟩ := V_isArrival v1 (nI i)
    rw [e9, bd_mk]
    refine okI (fun e => ?_) (fun _ => anew)
    refine tail y1 s1 hf (fun x hx => ?_)
    obtain ⟨a1, a2⟩ := hs hi1 x hx
    refine ⟨?_, a2⟩
    rw [a1]
    unfold ldA
    rw [no_arr v1 hi1 (by omega) (h9 e) 0 (nI x) T (by omega), no_arr v1 hi1 (by omega) (h9 e) 1 (nI x) T (by omega)]
