/-! ===== values: trains to guard, sets that spoil ===== -/
theorem br_cases {s : St} {F : Nat → Int32} {M T S E A U Y L P N : Nat} (v : VW s F M T S E A U Y L P N) {q : Nat} (m : Int32) : (brA F L T q S m = (-1, 1000000)) ∨ ∃ b k, b < S ∧ k ≤ 8991 ∧ brA F L T q S m = (nI b, prcA F (nI b) T) ∧ prcA F (nI b) T = nI k := by
  have hT := v.2.2.hT
  rcases chA_inv (brQ F L T q m) (fun i => prcA F (nI i) T) S with h | ⟨b, hb, h⟩
  · exact Or.inl h
  · obtain ⟨k, hk, e⟩ := prc_b v (nI b) T (by omega)
    exact Or.inr ⟨b, k, hb, by omega, h, e⟩
theorem br_pos {s : St} {F : Nat → Int32} {M T S E A U Y L P N : Nat} (v : VW s F M T S E A U Y L P N) {q : Nat} (m : Int32) : 0 ≤ (brA F L T q S m).2.toInt := by
  rcases br_cases v (q := q) m with h | ⟨b, k, hb, hk, h, e⟩
  · rw [h]; decide
  · rw [h]
    show 0 ≤ (prcA F (nI b) T).toInt
    rw [e, nI_toInt (by omega)]
    omega
theorem S_orP {s : St} {F : Nat → Int32} {M T S E A U Y L P N : Nat} (v : VW s F M T S E A U Y L P N) {q : Nat} (m : Int32) (h37 : ∀ x, x < S → gr s 37 x = prcA F (nI x) T) : f_X3_orPriceless (brA F L T q S m).1 s = some ((brA F L T q S m).2, s) := by
  have h5 := v.2.2.S512
  unfold f_X3_orPriceless f_X3_orPriceless_20 f_X3_orPriceless_22
  rcases br_cases v (q := q) m with h | ⟨b, k, hb, hk, h, e⟩
  · rw [h]
    dsimp only
    rw [if_pos (by decide)]
  · rw [h]
    dsimp only
    rw [if_neg (nI_pos (by omega)), if_neg (show ¬ (512 : Int32) ≤ nI b from lt_ge (m := 512) (by omega) (by omega)), inb_ln (n := 512) rfl (show b < 512 by omega) (by omega), gd_tt, nI_clamp (by omega), h37 b hb]
/-- the TRAINS of side q without t -/
def mtA (F : Nat → Int32) (T q t : Nat) : Int32 := tofA F (nI q) T &&& (((1 : Int32) <<< (nI t &&& 31)) ^^^ (-1 : Int32))
/-- what to guard, of the first t TRAINS: the price then, the TRAIN -/
def gdA (F : Nat → Int32) (L T q S : Nat) : Nat → Int32 × Int32
  | 0 => ((brA F L T q S (tofA F (nI q) T)).2, -1)
  | t + 1 => if F (13 + 6 * t + 0) = nI q then (if (brA F L T q S (mtA F T q t)).2 ≤ (gdA F L T q S t).1 then gdA F L T q S t else ((brA F L T q S (mtA F T q t)).2, nI t)) else gdA F L T q S t
theorem gd_pos {s : St} {F : Nat → Int32} {M T S E A U Y L P N : Nat} (v : VW s F M T S E A U Y L P N) {q : Nat} : ∀ t, 0 ≤ (gdA F L T q S t).1.toInt := by
  intro t
  induction t with
  | zero => exact br_pos v _
  | succ t ih =>
    show 0 ≤ (if F (13 + 6 * t + 0) = nI q then (if (brA F L T q S (mtA F T q t)).2 ≤ (gdA F L T q S t).1 then gdA F L T q S t else ((brA F L T q S (mtA F T q t)).2, nI t)) else gdA F L T q S t).1.toInt
    by_cases c : F (13 + 6 * t + 0) = nI q
    · rw [if_pos c]
      by_cases c1 : (brA F L T q S (mtA F T q t)).2 ≤ (gdA F L T q S t).1
      · rw [if_pos c1]; exact ih
      · rw [if_neg c1]; exact br_pos v _
    · rw [if_neg c]; exact ih
theorem gd_inv (F : Nat → Int32) (L T q S : Nat) : ∀ t, (gdA F L T q S t).2 = -1 ∨ ∃ j, j < t ∧ gdA F L T q S t = ((brA F L T q S (mtA F T q j)).2, nI j) := by
  intro t
  induction t with
  | zero => exact Or.inl rfl
  | succ t ih =>
    have old : (gdA F L T q S t).2 = -1 ∨ ∃ j, j < t + 1 ∧ gdA F L T q S t = ((brA F L T q S (mtA F T q j)).2, nI j) := by
      rcases ih with h | ⟨b, hb, h⟩
      · exact Or.inl h
      · exact Or.inr ⟨b, by omega, h⟩
    have e : gdA F L T q S (t + 1) = if F (13 + 6 * t + 0) = nI q then (if (brA F L T q S (mtA F T q t)).2 ≤ (gdA F L T q S t).1 then gdA F L T q S t else ((brA F L T q S (mtA F T q t)).2, nI t)) else gdA F L T q S t := rfl
    rw [e]
    by_cases c : F (13 + 6 * t + 0) = nI q
    · rw [if_pos c]
      by_cases c1 : (brA F L T q S (mtA F T q t)).2 ≤ (gdA F L T q S t).1
      · rw [if_pos c1]; exact old
      · rw [if_neg c1]; exact Or.inr ⟨t, by omega, rfl⟩
    · rw [if_neg c]; exact old
theorem V_guard {s : St} {F : Nat → Int32} {M T S E A U Y L P N : Nat} (v : VW s F M T S E A U Y L P N) {q : Nat} (hq : q < 2) : Ok (fun r s' => r = (gdA F L T q S T).2 ∧ Fr [37, 38, 40] s s') (f_X3_guardedTrain (nI q) s) := by
  have hT := v.2.2.hT
  unfold f_X3_guardedTrain
  refine okB (V_prices v) ?_
  rintro _ s1 ⟨f1, g1⟩
  have v1 := v.fr f1 (by decide)
  refine okB (V_fitD v1 hq) ?_
  rintro _ s2 ⟨f2, g2⟩
  have v2 := v1.fr f2 (by decide)
  have h37 : ∀ x, x < S → gr s2 37 x = prcA F (nI x) T := fun x hx => by rw [(f2.1 37 (by decide)).2.1]; exact g1 x hx
  rw [V_tof v2, bd_mk, V_cheap v2 _ h37 g2, bd_mk, S_orP v2 _ h37, bd_mk]
  refine ⟨_, s2, ?_, rfl, (f1.mo (by simp)).tr (f2.mo (by simp))⟩
  refine itr_cnt (fun t => (tofA F (nI q) T, (gdA F L T q S t).1, (gdA F L T q S t).2, nI t, s2)) T _ (fun t K ht => ?_) (fun K => ?_) T 0 FU (by omega) (by unfold FU; omega)
  · have hpos := gd_pos v (q := q) t
    have nx : gdA F L T q S (t + 1) = if F (13 + 6 * t + 0) = nI q then (if (brA F L T q S (mtA F T q t)).2 ≤ (gdA F L T q S t).1 then gdA F L T q S t else ((brA F L T q S (mtA F T q t)).2, nI t)) else gdA F L T q S t := rfl
    unfold g_X3_guardedTrain_34 f_X3_guardedTrain_78 f_X3_guardedTrain_93
    dsimp only
    rw [show gf s2 3 3 = nI T from v2.2.2.cT, if_neg (lt_ge ht (by omega)), S_isIn, bd_mk, bit_lsb _ (show t < 31 by omega), tof_lsb F (nI q) (show t < 32 by omega) T hT, nx, nI_1]
    by_cases c : F (13 + 6 * t + 0) = nI q
    · rw [decide_eq_true (show t < T ∧ F (13 + 6 * t + 0) = nI q from ⟨ht, c⟩), if_pos c, if_pos (show true = true from rfl), if_neg n10, show tofA F (nI q) T &&& (((1 : Int32) <<< (nI t &&& 31)) ^^^ (-1 : Int32)) = mtA F T q t from rfl, V_cheap v2 _ h37 g2, bd_mk, S_orP v2 _ h37, bd_mk]
      by_cases c1 : (brA F L T q S (mtA F T q t)).2 ≤ (gdA F L T q S t).1
      · rw [if_pos c1, if_pos c1]
        rfl
      · rw [if_neg c1, if_neg c1]
        rfl
    · rw [decide_eq_false (show ¬ (t < T ∧ F (13 + 6 * t + 0) = nI q) from fun z => c z.2), if_neg c, if_neg (show ¬ false = true from by decide), if_pos rfl, if_pos (show (0 : Int32) ≤ (gdA F L T q S t).1 from by rw [le_toInt]; exact hpos)]
      rfl
  · unfold g_X3_guardedTrain_34
    dsimp only
    rw [show gf s2 3 3 = nI T from v2.2.2.cT, if_pos (le_rf T)]
theorem or_base {s' : St} {b : Int32 × Int32} (h : b = (-1, 1000000) ∨ ∃ k, k < 512 ∧ b.1 = nI k) (h19 : gf s' 58 19 = b.1) (h18 : ¬ gf s' 58 19 = -1 → gf s' 58 18 = b.2) : (gf s' 58 19 = -1 → (1000000 : Int32) = b.2) ∧ (¬ gf s' 58 19 = -1 → gf s' 58 18 = b.2) := by
  refine ⟨fun z => ?_, h18⟩
  rcases h with h | ⟨k, hk, h⟩
  · rw [h]
  · rw [h19, h] at z
    exact absurd z (nI_m1' (by omega))
theorem br_or {s : St} {F : Nat → Int32} {M T S E A U Y L P N : Nat} (v : VW s F M T S E A U Y L P N) {q : Nat} (m : Int32) : brA F L T q S m = (-1, 1000000) ∨ ∃ k, k < 512 ∧ (brA F L T q S m).1 = nI k := by
  have h5 := v.2.2.S512
  rcases br_cases v (q := q) m with h | ⟨b, k, hb, hk, h, e⟩
  · exact Or.inl h
  · exact Or.inr ⟨b, by omega, by rw [h]⟩
theorem M_guard {s : St} {F : Nat → Int32} {M T S E A U Y L P N : Nat} (v : VW s F M T S E A U Y L P N) {q : Nat} (hq : q < 2) : Ok (fun r s' => r = (gdA F L T q S T).2 ∧ gf s' 58 20 = (gdA F L T q S T).1 ∧ Fr [58] s s' ∧ ∀ c, c < 14 → gf s' 58 c = gf s 58 c) (f_X12_guardOf (nI q) s) := by
  have hT := v.2.2.hT
  unfold f_X12_guardOf f_X12_guardOf_27
  refine okB (M_bribe v hq 0) ?_
  rintro _ s1 ⟨h19, h18, f1, h14⟩
  rw [and_m1] at h19 h18
  obtain ⟨ba, bb⟩ := or_base (br_or v _) h19 h18
  have loop : ∀ k0, k0 = (brA F L T q S (tofA F (nI q) T)).2 → Ok (fun r s' => r = (gdA F L T q S T).2 ∧ gf s' 58 20 = (gdA F L T q S T).1 ∧ Fr [58] s s' ∧ ∀ c, c < 14 → gf s' 58 c = gf s 58 c) (bnd (sf s1 58 20 k0) fun s1 => itr g_X12_guardOf_32 FU (nI q, -1, 0, s1)) := by
    intro k0 hk
    rw [bnd_mk]
    refine okC (fun (t : Nat) (y : Int32 × Int32 × Int32 × St) => y.1 = nI q ∧ y.2.1 = (gdA F L T q S t).2 ∧ y.2.2.1 = nI t ∧ gf y.2.2.2 58 20 = (gdA F L T q S t).1 ∧ Fr [58] s y.2.2.2 ∧ ∀ c, c < 14 → gf y.2.2.2 58 c = gf s 58 c) T ?_ (i := 0) (by unfold FU; omega) (by omega) ⟨rfl, rfl, rfl, by
      show gf (sf s1 58 20 k0) 58 20 = (brA F L T q S (tofA F (nI q) T)).2
      rw [gf_sf_s, if_pos rfl]; exact hk, f1.tr (Fr.c1 (by simp)), fun c hc => by
      show gf (sf s1 58 20 k0) 58 c = _
      rw [gf_sf_s, if_neg (by omega)]; exact h14 c (by omega)⟩
    rintro t ⟨y1, y2, y3, s2⟩ K hi ⟨e1, e2, e3, h20, hf, h14'⟩ hK
    dsimp only at e1 e2 e3 h20 hf h14'
    subst e1 e2 e3
    have v2 := v.fr hf (by decide)
    unfold g_X12_guardOf_32
    dsimp only
    refine okD rfl ?_
    rw [show gr s2 59 (4 : Int32).toNatClampNeg = nI T from v2.2.2.mT]
    refine okI (fun c => okR ?_) (fun c => ?_)
    · have : t = T := by
        rw [le_toInt, nI_toInt (by omega), nI_toInt (by omega)] at c
        omega
      rw [this] at h20 ⊢
      exact ⟨rfl, h20, hf, h14'⟩
    · replace c : t < T := cnt_le rfl (by omega) c hi
      have nx : gdA F L T q S (t + 1) = if F (13 + 6 * t + 0) = nI q then (if (brA F L T q S (mtA F T q t)).2 ≤ (gdA F L T q S t).1 then gdA F L T q S t else ((brA F L T q S (mtA F T q t)).2, nI t)) else gdA F L T q S t := rfl
      rw [show f_X12_of (nI t) (0 : Int32) s2 = some (F (13 + 6 * t + 0), s2) from M_of v2 (c := 0) (by omega) (by omega), bd_mk]
      have keep : gdA F L T q S (t + 1) = gdA F L T q S t → ∀ s3, Fr [58] s s3 → gf s3 58 20 = (gdA F L T q S t).1 → (∀ c, c < 14 → gf s3 58 c = gf s 58 c) → Ok (fun r s' => r = (gdA F L T q S T).2 ∧ gf s' 58 20 = (gdA F L T q S T).1 ∧ Fr [58] s s' ∧ ∀ c, c < 14 → gf s' 58 c = gf s 58 c) (f_X12_guardOf_103 K (nI q) (gdA F L T q S t).2 (nI t) s3) := by
        intro he s3 f3 g20 g14
        unfold f_X12_guardOf_103
        rw [bnd_mk, nI_1]
        exact hK _ c ⟨rfl, by rw [he], rfl, by rw [he]; exact g20, f3, g14⟩
      refine okI (fun c1 => ?_) (fun c1 => keep (by rw [nx, if_neg c1]) s2 hf h20 h14')
      rw [if_pos c1] at nx
      refine okB (M_bribe v2 hq ((1 : Int32) <<< (nI t &&& 31))) ?_
      rintro _ s3 ⟨k19, k18, f3, k14⟩
      rw [show tofA F (nI q) T &&& (((1 : Int32) <<< (nI t &&& 31)) ^^^ (-1 : Int32)) = mtA F T q t from rfl] at k19 k18
      obtain ⟨ca, cb⟩ := or_base (br_or v _) k19 k18
      have hf3 := hf.tr f3
      have g20 : gf s3 58 20 = (gdA F L T q S t).1 := by rw [k14 20 (by omega)]; exact h20
      have g14 : ∀ c, c < 14 → gf s3 58 c = gf s 58 c := fun c hc => by rw [k14 c (by omega)]; exact h14' c hc
      have k81 : ∀ k0, k0 = (brA F L T q S (mtA F T q t)).2 → Ok (fun r s' => r = (gdA F L T q S T).2 ∧ gf s' 58 20 = (gdA F L T q S T).1 ∧ Fr [58] s s' ∧ ∀ c, c < 14 → gf s' 58 c = gf s 58 c) (f_X12_guardOf_81 K (nI q) (gdA F L T q S t).2 (nI t) k0 s3) := by
        intro k0 hk0
        unfold f_X12_guardOf_81
        rw [g20, hk0]
        refine okI (fun c2 => ?_) (fun c2 => ?_)
        · rw [if_neg (by rw [lt_toInt] at c2; rw [le_toInt]; omega)] at nx
          unfold f_X12_guardOf_103
          rw [bnd_mk, bnd_mk, nI_1]
          refine hK _ c ⟨rfl, by rw [nx], rfl, ?_, hf3.tr (Fr.c1 (by simp)), fun c' hc' => ?_⟩
          · show gf (sf s3 58 20 _) 58 20 = _
            rw [gf_sf_s, if_pos rfl, nx]
          · show gf (sf s3 58 20 _) 58 c' = _
            rw [gf_sf_s, if_neg (by omega)]
            exact g14 c' hc'
        · rw [if_pos (by rw [lt_toInt] at c2; rw [le_toInt]; omega)] at nx
          exact keep nx s3 hf3 g20 g14
      exact okI (fun z => k81 _ (ca z)) (fun z => k81 _ (cb z))
  exact okI (fun z => loop _ (ba z)) (fun z => loop _ (bb z))
theorem D_guard (a : Int32) (σ : St) (hI : IV σ) : ∃ r s1 s2, f_X11_guard a σ = some (r, s1) ∧ f_X12_guard a s1 = some (r, s2) ∧ IV s2 := by
  obtain ⟨M, T, S, E, A, U, Y, L, P, N, v⟩ := hI.vw
  have hb := v.2.2
  unfold f_X11_guard f_X11_guard_24 f_X12_guard f_X12_guard_18
  rw [S_hasSide _ hb.hN hb.cN, bd_mk]
  by_cases c1 : 1 ≤ N ∧ (a = 0 ∨ a = 1)
  · obtain ⟨q, hq, rfl⟩ : ∃ i, i < 2 ∧ a = nI i := by
      rcases c1.2 with e | e
      · exact ⟨0, by omega, e⟩
      · exact ⟨1, by omega, e⟩
    obtain ⟨r1, s1, e1, q1, f1⟩ := V_guard v hq
    have v1 := v.fr f1 (by decide)
    obtain ⟨r2, s2, e2, q2, -, f2, h14⟩ := M_guard v1 hq
    refine ⟨r1, s1, s2, by rw [b2_t c1, if_neg n10, e1, bd_mk], ?_, hI.f3 f1 f2 h14⟩
    rw [S_isSide _ hb.hN v1.2.2.mN, bd_mk, b2_t c1, if_neg n10, e2, bd_mk, q1, q2]
  · refine ⟨-2, σ, σ, by rw [b2_f c1, if_pos rfl], ?_, hI⟩
    rw [S_isSide _ hb.hN hb.mN, bd_mk, b2_f c1, if_pos rfl]
theorem D_guarded (a : Int32) (σ : St) (hI : IV σ) : ∃ r s1 s2, f_X11_guarded a σ = some (r, s1) ∧ f_X12_guarded a s1 = some (r, s2) ∧ IV s2 := by
  obtain ⟨M, T, S, E, A, U, Y, L, P, N, v⟩ := hI.vw
  have hb := v.2.2
  have h5 := hb.S512
  have hT := hb.hT
  unfold f_X11_guarded f_X11_guarded_23 f_X11_guarded_50 f_X12_guarded f_X12_guarded_17 f_X12_guarded_38
  rw [S_hasSide _ hb.hN hb.cN, bd_mk]
  by_cases c1 : 1 ≤ N ∧ (a = 0 ∨ a = 1)
  · obtain ⟨q, hq, rfl⟩ : ∃ i, i < 2 ∧ a = nI i := by
      rcases c1.2 with e | e
      · exact ⟨0, by omega, e⟩
      · exact ⟨1, by omega, e⟩
    obtain ⟨r1, s1, e1, q1, f1⟩ := V_guard v hq
    have v1 := v.fr f1 (by decide)
    rw [b2_t c1, if_neg n10, e1, bd_mk, q1]
    rcases gd_inv (gr σ 59) L T q S T with h | ⟨j, hj, h⟩
    · obtain ⟨r2, s2, e2, q2, -, f2, h14⟩ := M_guard v1 hq
      refine ⟨-2, s1, s2, by rw [if_pos h], ?_, hI.f3 f1 f2 h14⟩
      rw [S_isSide _ hb.hN v1.2.2.mN, bd_mk, b2_t c1, if_neg n10, e2, bd_mk, q2, if_pos h]
    · rw [h]
      dsimp only
      rw [if_neg (nI_m1' (by omega))]
      obtain ⟨r3, s3, e3, q3, f3⟩ := V_bribed v1 hq (nI j)
      rw [if_neg (nI_m1' (by omega)), show tofA (gr σ 59) (nI q) T &&& (((1 : Int32) <<< (nI j &&& 31)) ^^^ (-1 : Int32)) = mtA (gr σ 59) T q j from rfl] at q3
      have v3 := v1.fr f3 (by decide)
      obtain ⟨r2, s2, e2, q2, q20, f2, h14⟩ := M_guard v3 hq
      rw [h] at q2 q20
      have iv := hI.f3 (f1.tr f3) f2 h14
      rw [e3, bd_mk, q3]
      rcases br_cases v (q := q) (mtA (gr σ 59) T q j) with g | ⟨b, k, hb', hk, g, ek⟩
      · rw [g] at q20 ⊢
        refine ⟨-1, s3, s2, ?_, ?_, iv⟩
        · unfold f_X10_priceOf
          rw [isW_lit (Or.inl rfl), gd_tt, if_pos rfl, bd_mk]
        · rw [S_isSide _ hb.hN v3.2.2.mN, bd_mk, b2_t c1, if_neg n10, e2, bd_mk, q2, if_neg (nI_m1' (by omega)), if_pos q20]
      · rw [g] at q20 ⊢
        refine ⟨prcA (gr σ 59) (nI b) T, s3, s2, ?_, ?_, iv⟩
        · dsimp only
          rw [V_price v3 (nI_m1' (by omega)), bd_mk]
        · rw [S_isSide _ hb.hN v3.2.2.mN, bd_mk, b2_t c1, if_neg n10, e2, bd_mk, q2, if_neg (nI_m1' (by omega)), if_neg (show ¬ gf s2 58 20 = 1000000 from by
            rw [q20]
            show ¬ prcA (gr σ 59) (nI b) T = nI 1000000
            rw [ek]
            exact fun z => absurd ((nI_eq (by omega) (by omega)).mp z) (by omega)), q20]
  · refine ⟨-2, σ, σ, by rw [b2_f c1, if_pos rfl, if_pos rfl], ?_, hI⟩
    rw [S_isSide _ hb.hN hb.mN, bd_mk, b2_f c1, if_pos rfl]
/-! what may be spoiled with a purse -/
theorem S_isPurse {s : St} {F : Nat → Int32} {M T S E A U Y L P N : Nat} (v : VW s F M T S E A U Y L P N) (p m : Int32) : f_X11_isPurse p m s = some (b2 ((1 ≤ N ∧ (p = 0 ∨ p = 1)) ∧ 0 ≤ m.toInt ∧ m.toInt ≤ 999), s) := by
  have z0 : (0 : Int32).toInt = 0 := rfl
  have z9 : (999 : Int32).toInt = 999 := rfl
  unfold f_X11_isPurse f_X11_isPurse_26 f_X11_isPurse_27
  rw [S_hasSide _ v.2.2.hN v.2.2.cN, bd_mk, bz_0, bz_1, gd_tt, gd_tt]
  by_cases c0 : 1 ≤ N ∧ (p = 0 ∨ p = 1)
  · rw [b2_t c0, if_neg n10]
    by_cases c : m < 0
    · rw [if_pos c, b2_f]
      rw [lt_toInt] at c
      omega
    · rw [if_neg c]
      rw [lt_toInt] at c
      by_cases c1 : (999 : Int32) < m
      · rw [if_pos c1, b2_f]
        rw [lt_toInt] at c1
        omega
      · rw [if_neg c1, b2_t]
        rw [lt_toInt] at c1
        exact ⟨c0, by omega, by omega⟩
  · rw [b2_f c0, if_pos rfl, b2_f (fun g => c0 g.1)]
theorem S_isPrice (p : Int32) (σ : St) : f_X12_isPrice p σ = some (b2 (0 ≤ p.toInt ∧ p.toInt ≤ 999), σ) := by
  unfold f_X12_isPrice
  rw [M_inB _ 0 999 (a := 0) (b := 999) rfl rfl, bd_mk, bz_b2, gd_tt]
/-- the set of the first i + 1 that spoils most -/
def spA (Q : Nat → Prop) [DecidablePred Q] (g : Nat → Int32) : Nat → Nat
  | 0 => 0
  | i + 1 => if Q (i + 1) ∧ g (i + 1) < g (spA Q g i) then i + 1 else spA Q g i
theorem spA_le (Q : Nat → Prop) [DecidablePred Q] (g : Nat → Int32) : ∀ i, spA Q g i ≤ i := by
  intro i
  induction i with
  | zero => exact Nat.le_refl _
  | succ i ih =>
    show (if Q (i + 1) ∧ g (i + 1) < g (spA Q g i) then i + 1 else spA Q g i) ≤ i + 1
    split <;> omega
/-- set i is of the side's TRAINS and within the purse -/
abbrev buQ (F : Nat → Int32) (T q : Nat) (m : Int32) (i : Nat) : Prop := (nI i &&& (tofA F (nI q) T ^^^ (-1 : Int32))) = 0 ∧ ¬ m < prcA F (nI i) T
theorem M_bought {s : St} {F : Nat → Int32} {M T S E A U Y L P N : Nat} (v : VW s F M T S E A U Y L P N) {q i : Nat} (m : Int32) : f_X12_isBought (nI q) (nI i) m s = some (b2 (buQ F T q m i), s) := by
  unfold f_X12_isBought f_X12_isBought_25 f_X12_isBought_26
  rw [M_tof v, bd_mk, M_price v, bd_mk, bz_0, bz_1, gd_tt, gd_tt]
  by_cases c : (nI i &&& (tofA F (nI q) T ^^^ (-1 : Int32))) = 0
  · rw [if_pos c]
    by_cases c1 : m < prcA F (nI i) T
    · rw [if_pos c1, b2_f (fun z => z.2 c1)]
    · rw [if_neg c1, b2_t ⟨c, c1⟩]
  · rw [if_neg c, b2_f (fun z => c z.1)]
theorem M_fill {s : St} {F : Nat → Int32} {M T S E A U Y L P N : Nat} (v : VW s F M T S E A U Y L P N) : Ok (fun _ s' => Fr [65, 67] s s' ∧ ∀ x, x < S → gr s' 67 x = frA F E T (nI x) M) (f_X12_fillFronts s) := by
  have h5 := v.2.2.S512
  unfold f_X12_fillFronts
  refine okC (fun (i : Nat) (y : Int32 × St) => y.1 = nI i ∧ Fr [65, 67] s y.2 ∧ ∀ x, x < i → gr y.2 67 x = frA F E T (nI x) M) S ?_ (i := 0) (by unfold FU; omega) (by omega) ⟨rfl, Fr.rf, fun x hx => absurd hx (by omega)⟩
  rintro i ⟨y1, s1⟩ K hi ⟨e1, hf, hr⟩ hK
  dsimp only at e1 hf hr
  subst e1
  have v1 := v.fr hf (by decide)
  unfold g_X12_fillFronts_2
  dsimp only
  rw [M_allT v1, bd_mk]
  refine okI (fun c => okR ⟨hf, fun x hx => ?_⟩) (fun c => ?_)
  · rw [nI_ltI (by omega) (by omega)] at c
    exact hr x (by omega)
  · have hiS : i < S := by
      rw [nI_ltI (by omega) (by omega)] at c
      omega
    obtain ⟨r4, s2, e4, q4, f4, -⟩ := M_last v1 (nI i)
    rw [e4, bd_mk, inb_ln (n := 512) rfl (show i < 512 by omega) (by omega), gd_tt, nI_clamp (by omega), bnd_mk, bnd_mk, nI_1, q4]
    refine hK _ hiS ⟨rfl, (hf.tr (f4.mo (by simp))).tr (Fr.c2 (by simp)), fun x hx => ?_⟩
    show gr (sr s2 67 i _) 67 x = _
    rw [gr_sr_s]
    by_cases e : x = i
    · rw [if_pos e, e]
    · rw [if_neg e, (f4.1 67 (by decide)).2.1]
      exact hr x (by omega)
theorem buy0 {s : St} {F : Nat → Int32} {M T S E A U Y L P N : Nat} (v : VW s F M T S E A U Y L P N) {q : Nat} {m : Int32} (hm : 0 ≤ m.toInt) : buQ F T q m 0 := by
  have hT := v.2.2.hT
  have z0 : (0 : Int32).toInt = 0 := rfl
  have h0 : ∀ y : Int32, nI 0 &&& y = 0 := fun y => by
    obtain ⟨k, hk, e⟩ := and_lt (i := 0) (n := 1) y (by omega) (by omega)
    rw [e, show k = 0 by omega]
    rfl
  refine ⟨h0 _, ?_⟩
  have key : ∀ n, n ≤ 9 → prcA F (nI 0) n = 0 := by
    intro n
    induction n with
    | zero => exact fun _ => rfl
    | succ n ih =>
      intro hn
      show prcA F (nI 0) n + bitOf (nI 0) n * F (13 + 6 * n + 5) = 0
      rw [ih (by omega), show bitOf (nI 0) n = 0 from bit_00 (by omega), Int32.zero_mul]
      rfl
  rw [key T hT, lt_toInt]
  omega
theorem V_spoil {s : St} {M T S E A U Y L P N : Nat} (v : VW s (gr s 59) M T S E A U Y L P N) (hm : ME s) {q : Nat} (m : Int32) : Ok (fun r s' => r = nI (spA (buQ (gr s 59) T q m) (gfA (gr s 59) M E T (nI q)) (S - 1)) ∧ Fr [31, 33, 34, 35, 37] s s' ∧ ∀ x, x < S → gr s' 34 x = frA (gr s 59) E T (nI x) M) (f_X3_spoiledSet (nI q) m s) := by
  have h5 := v.2.2.S512
  unfold f_X3_spoiledSet
  obtain ⟨r, s1, e1, f1, -, g34, -⟩ := V_reck v hm
  rw [e1, bd_mk]
  have v1 : VW s1 (gr s 59) M T S E A U Y L P N := v.fr f1 (by decide)
  rw [(f1.1 59 (by decide)).2.1] at g34
  obtain ⟨r2, s2, e2, f2, g37⟩ := V_prices v1
  rw [e2, bd_mk]
  have v2 := v1.fr f2 (by decide)
  have g34' : ∀ x, x < S → gr s2 34 x = frA (gr s 59) E T (nI x) M := fun x hx => by rw [(f2.1 34 (by decide)).2.1]; exact g34 x hx
  rw [V_tof v2, bd_mk]
  refine ⟨_, s2, ?_, rfl, (f1.mo (by simp)).tr (f2.mo (by simp)), g34'⟩
  refine itr_cnt (fun i => (nI q, m, tofA (gr s 59) (nI q) T, nI (spA (buQ (gr s 59) T q m) (gfA (gr s 59) M E T (nI q)) i), nI (i + 1), s2)) (S - 1) _ (fun i K hi => ?_) (fun K => ?_) (S - 1) 0 FU (by omega) (by unfold FU; omega)
  · have hw := spA_le (buQ (gr s 59) T q m) (gfA (gr s 59) M E T (nI q)) i
    have nx : spA (buQ (gr s 59) T q m) (gfA (gr s 59) M E T (nI q)) (i + 1) = if buQ (gr s 59) T q m (i + 1) ∧ gfA (gr s 59) M E T (nI q) (i + 1) < gfA (gr s 59) M E T (nI q) (spA (buQ (gr s 59) T q m) (gfA (gr s 59) M E T (nI q)) i) then i + 1 else spA (buQ (gr s 59) T q m) (gfA (gr s 59) M E T (nI q)) i := rfl
    unfold g_X3_spoiledSet_26 f_X3_spoiledSet_85
    dsimp only
    rw [V_sets v2, bd_mk, if_neg (lt_ge (show i + 1 < S by omega) (by omega)), inb_ln (n := 512) rfl (show i + 1 < 512 by omega) (by omega), gd_tt, nI_clamp (show i + 1 < 2 ^ 31 by omega), g37 _ (show i + 1 < S by omega), S_goodEnd (nI q) (show i + 1 < 512 by omega), bd_mk, S_goodEnd (nI q) (show spA (buQ (gr s 59) T q m) (gfA (gr s 59) M E T (nI q)) i < 512 by omega), bd_mk, g34' _ (show i + 1 < S by omega), g34' _ (show spA (buQ (gr s 59) T q m) (gfA (gr s 59) M E T (nI q)) i < S by omega), nI_1, nx]
    generalize spA (buQ (gr s 59) T q m) (gfA (gr s 59) M E T (nI q)) i = w at *
    by_cases c : (nI (i + 1) &&& (tofA (gr s 59) (nI q) T ^^^ (-1 : Int32))) = 0
    · rw [if_pos c]
      by_cases c1 : m < prcA (gr s 59) (nI (i + 1)) T
      · rw [if_pos c1, if_neg (fun z => z.1.2 c1)]
        rfl
      · rw [if_neg c1]
        by_cases c2 : gfA (gr s 59) M E T (nI q) (i + 1) < gfA (gr s 59) M E T (nI q) w
        · rw [if_neg (show ¬ gooA (nI q) (frA (gr s 59) E T (nI w) M) ≤ gooA (nI q) (frA (gr s 59) E T (nI (i + 1)) M) from by
            have c3 := c2
            rw [lt_toInt] at c3
            rw [le_toInt]
            exact Int.not_le.mpr c3), if_pos ⟨⟨c, c1⟩, c2⟩]
          rfl
        · rw [if_pos (show gooA (nI q) (frA (gr s 59) E T (nI w) M) ≤ gooA (nI q) (frA (gr s 59) E T (nI (i + 1)) M) from by
            have c3 := c2
            rw [lt_toInt] at c3
            rw [le_toInt]
            exact Int.not_lt.mp c3), if_neg (fun z => c2 z.2)]
          rfl
    · rw [if_neg c, if_neg (fun z => c z.1.1)]
      rfl
  · unfold g_X3_spoiledSet_26
    dsimp only
    rw [V_sets v2, bd_mk, if_pos (show nI S ≤ nI (S - 1 + 1) from by rw [show S - 1 + 1 = S by omega]; exact le_rf S)]
theorem M_spoil {s : St} {F : Nat → Int32} {M T S E A U Y L P N : Nat} (v : VW s F M T S E A U Y L P N) {q : Nat} (hM0 : M ≤ 60) {m : Int32} (hm : 0 ≤ m.toInt) : Ok (fun r s' => r = gfA F M E T (nI q) (spA (buQ F T q m) (gfA F M E T (nI q)) (S - 1)) ∧ gf s' 58 22 = nI (spA (buQ F T q m) (gfA F M E T (nI q)) (S - 1)) ∧ Fr [58, 65, 67] s s') (f_X12_spoilOf (nI q) m s) := by
  have h5 := v.2.2.S512
  unfold f_X12_spoilOf
  refine okB (M_fill v) ?_
  rintro _ s0 ⟨f0, r67⟩
  refine okC (fun (i : Nat) (y : Int32 × Int32 × Int32 × Int32 × St) => y.1 = nI q ∧ y.2.1 = m ∧ y.2.2.2.1 = nI i ∧ (i = 0 → y.2.2.1 = 1000000) ∧ (1 ≤ i → y.2.2.1 = gfA F M E T (nI q) (spA (buQ F T q m) (gfA F M E T (nI q)) (i - 1)) ∧ gf y.2.2.2.2 58 22 = nI (spA (buQ F T q m) (gfA F M E T (nI q)) (i - 1))) ∧ Fr [58] s0 y.2.2.2.2) S ?_ (i := 0) (by unfold FU; omega) (by omega) ⟨rfl, rfl, rfl, fun _ => rfl, fun h => absurd h (by omega), Fr.rf⟩
  rintro i ⟨y1, y2, y3, y4, s1⟩ K hi ⟨e1, e2, e3, h0, h1, hf⟩ hK
  dsimp only at e1 e2 e3 h0 h1 hf
  subst e1 e2 e3
  have v1 := (v.fr f0 (by decide)).fr hf (by decide)
  have g67 : ∀ x, x < S → gr s1 67 x = frA F E T (nI x) M := fun x hx => by rw [(hf.1 67 (by decide)).2.1]; exact r67 x hx
  unfold g_X12_spoilOf_11 f_X12_spoilOf_67
  dsimp only
  rw [M_allT v1, bd_mk]
  refine okI (fun c => okR ?_) (fun c => ?_)
  · have : i = S := by
      rw [nI_ltI (by omega) (by omega)] at c
      omega
    obtain ⟨a1, a2⟩ := h1 (by omega)
    rw [this] at a1 a2
    exact ⟨a1, a2, (f0.mo (by simp)).tr (hf.mo (by simp))⟩
  · have hiS : i < S := by
      rw [nI_ltI (by omega) (by omega)] at c
      omega
    have hy : -1000 ≤ (gfA F M E T (nI q) i).toInt ∧ (gfA F M E T (nI q) i).toInt ≤ 1000 := goo_b (nI q) _ (by have := fr_b F E T (nI i) M (by omega); omega)
    rw [M_bought v1, bd_mk]
    have keep : (1 ≤ i ∧ spA (buQ F T q y2) (gfA F M E T (nI q)) i = spA (buQ F T q y2) (gfA F M E T (nI q)) (i - 1)) → Ok (fun r s' => r = gfA F M E T (nI q) (spA (buQ F T q y2) (gfA F M E T (nI q)) (S - 1)) ∧ gf s' 58 22 = nI (spA (buQ F T q y2) (gfA F M E T (nI q)) (S - 1)) ∧ Fr [58, 65, 67] s s') (bnd (nI i + 1) fun x1 => K (nI q, y2, y3, x1, s1)) := by
      rintro ⟨hi1, hw⟩
      rw [bnd_mk, nI_1]
      refine hK _ hiS ⟨rfl, rfl, rfl, fun z => absurd z (by omega), fun _ => ?_, hf⟩
      rw [show i + 1 - 1 = i by omega, hw]
      exact h1 hi1
    by_cases cb : buQ F T q y2 i
    · rw [b2_t cb, if_neg n10, inb_ln (n := 512) rfl (show i < 512 by omega) (by omega), gd_tt, nI_clamp (by omega), g67 i hiS, S_goodBy, bd_mk]
      have repl : spA (buQ F T q y2) (gfA F M E T (nI q)) i = i → Ok (fun r s' => r = gfA F M E T (nI q) (spA (buQ F T q y2) (gfA F M E T (nI q)) (S - 1)) ∧ gf s' 58 22 = nI (spA (buQ F T q y2) (gfA F M E T (nI q)) (S - 1)) ∧ Fr [58, 65, 67] s s') (gd true (bd (f_X12_goodBy (nI q) (gr s1 67 i) s1) fun r12 s13 => bnd (sf s13 58 22 (nI i)) fun s15 => bnd (nI i + 1) fun x1 => K (nI q, y2, r12, x1, s15))) := by
        intro hw
        rw [gd_tt, g67 i hiS, S_goodBy, bd_mk, bnd_mk, bnd_mk, nI_1]
        refine hK _ hiS ⟨rfl, rfl, rfl, fun z => absurd z (by omega), fun _ => ?_, hf.tr (Fr.c1 (by simp))⟩
        rw [show i + 1 - 1 = i by omega, hw]
        refine ⟨rfl, ?_⟩
        show gf (sf s1 58 22 (nI i)) 58 22 = _
        rw [gf_sf_s, if_pos rfl]
      show Ok _ (if gfA F M E T (nI q) i < y3 then _ else _)
      rcases Nat.eq_zero_or_pos i with hz | hi1
      · have e0 := h0 hz
        have zm : (1000000 : Int32).toInt = 1000000 := rfl
        rw [if_pos (by rw [e0, lt_toInt]; omega)]
        exact repl (by rw [hz]; rfl)
      · obtain ⟨j, rfl⟩ : ∃ j, i = j + 1 := ⟨i - 1, by omega⟩
        obtain ⟨a1, a2⟩ := h1 hi1
        rw [Nat.add_sub_cancel] at a1
        have nx : spA (buQ F T q y2) (gfA F M E T (nI q)) (j + 1) = if buQ F T q y2 (j + 1) ∧ gfA F M E T (nI q) (j + 1) < gfA F M E T (nI q) (spA (buQ F T q y2) (gfA F M E T (nI q)) j) then j + 1 else spA (buQ F T q y2) (gfA F M E T (nI q)) j := rfl
        refine okI (fun c2 => ?_) (fun c2 => ?_)
        · rw [a1] at c2
          exact repl (by rw [nx, if_pos ⟨cb, c2⟩])
        · rw [a1] at c2
          exact keep ⟨hi1, by rw [nx, if_neg (fun z => c2 z.2), Nat.add_sub_cancel]⟩
    · rw [b2_f cb, if_pos rfl]
      rcases Nat.eq_zero_or_pos i with hz | hi1
      · exact absurd (hz ▸ buy0 v (q := q) hm) cb
      · obtain ⟨j, rfl⟩ : ∃ j, i = j + 1 := ⟨i - 1, by omega⟩
        have nx : spA (buQ F T q y2) (gfA F M E T (nI q)) (j + 1) = if buQ F T q y2 (j + 1) ∧ gfA F M E T (nI q) (j + 1) < gfA F M E T (nI q) (spA (buQ F T q y2) (gfA F M E T (nI q)) j) then j + 1 else spA (buQ F T q y2) (gfA F M E T (nI q)) j := rfl
        exact keep ⟨hi1, by rw [nx, if_neg (fun z => cb z.1), Nat.add_sub_cancel]⟩
theorem D_spoil (a b : Int32) (σ : St) (hI : JW σ) : ∃ r s1 s2, f_X11_spoil a b σ = some (r, s1) ∧ f_X12_spoil a b s1 = some (r, s2) := by
  obtain ⟨M, T, S, E, A, U, Y, L, P, N, v⟩ := hI.1.vw
  have hb := v.2.2
  have h5 := hb.S512
  unfold f_X11_spoil f_X11_spoil_32 f_X12_spoil f_X12_spoil_24 f_X12_spoil_27
  rw [S_isPurse v, bd_mk]
  by_cases c1 : (1 ≤ N ∧ (a = 0 ∨ a = 1)) ∧ 0 ≤ b.toInt ∧ b.toInt ≤ 999
  · obtain ⟨q, hq, rfl⟩ : ∃ i, i < 2 ∧ a = nI i := by
      rcases c1.1.2 with e | e
      · exact ⟨0, by omega, e⟩
      · exact ⟨1, by omega, e⟩
    obtain ⟨r1, s1, e1, q1, f1, g1⟩ := V_spoil v hI.2 (q := q) b
    have v1 := v.fr f1 (by decide)
    obtain ⟨r2, s2, e2, q2, -, -⟩ := M_spoil v1 (q := q) hb.hM c1.2.1
    have hw := spA_le (buQ (gr σ 59) T q b) (gfA (gr σ 59) M E T (nI q)) (S - 1)
    refine ⟨r2, s1, s2, ?_, ?_⟩
    · rw [b2_t c1, if_neg n10, e1, bd_mk, q1, S_goodEnd (nI q) (by omega), bd_mk, g1 _ (by omega), q2]
      rfl
    · rw [S_isSide _ hb.hN v1.2.2.mN, bd_mk, b2_t c1.1, if_neg n10, S_isPrice, bd_mk, b2_t c1.2, if_neg n10, e2, bd_mk]
  · refine ⟨-1000, σ, σ, by rw [b2_f c1, if_pos rfl], ?_⟩
    rw [S_isSide _ hb.hN hb.mN, bd_mk]
    by_cases c2 : 1 ≤ N ∧ (a = 0 ∨ a = 1)
    · rw [b2_t c2, if_neg n10, S_isPrice, bd_mk, b2_f (fun z => c1 ⟨c2, z⟩), if_pos rfl]
    · rw [b2_f c2, if_pos rfl]
theorem D_spoils (a b : Int32) (σ : St) (hI : JW σ) : ∃ r s1 s2, f_X11_spoils a b σ = some (r, s1) ∧ f_X12_spoils a b s1 = some (r, s2) := by
  obtain ⟨M, T, S, E, A, U, Y, L, P, N, v⟩ := hI.1.vw
  have hb := v.2.2
  unfold f_X11_spoils f_X11_spoils_23 f_X12_spoils f_X12_spoils_15
  rw [S_isPurse v, bd_mk]
  by_cases c1 : (1 ≤ N ∧ (a = 0 ∨ a = 1)) ∧ 0 ≤ b.toInt ∧ b.toInt ≤ 999
  · obtain ⟨q, hq, rfl⟩ : ∃ i, i < 2 ∧ a = nI i := by
      rcases c1.1.2 with e | e
      · exact ⟨0, by omega, e⟩
      · exact ⟨1, by omega, e⟩
    obtain ⟨r1, s1, e1, q1, f1, g1⟩ := V_spoil v hI.2 (q := q) b
    have v1 := v.fr f1 (by decide)
    obtain ⟨r2, s2, e2, -, q2, -⟩ := M_spoil v1 (q := q) hb.hM c1.2.1
    refine ⟨r1, s1, s2, by rw [b2_t c1, if_neg n10, e1, bd_mk], ?_⟩
    rw [S_isSide _ hb.hN v1.2.2.mN, bd_mk, b2_t c1.1, if_neg n10, S_isPrice, bd_mk, b2_t c1.2, if_neg n10, e2, bd_mk, q1, q2]
  · refine ⟨-2, σ, σ, by rw [b2_f c1, if_pos rfl], ?_⟩
    rw [S_isSide _ hb.hN hb.mN, bd_mk]
    by_cases c2 : 1 ≤ N ∧ (a = 0 ∨ a = 1)
    · rw [b2_t c2, if_neg n10, S_isPrice, bd_mk, b2_f (fun z => c1 ⟨c2, z⟩), if_pos rfl]
    · rw [b2_f c2, if_pos rfl]
