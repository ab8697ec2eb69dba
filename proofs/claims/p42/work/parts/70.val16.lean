/-! ===== values: trains whose delay changes nothing ===== -/
theorem nI_xr (a b : Nat) (ha : a < 512) (hb : b < 512) : nI a ^^^ nI b = nI (a ^^^ b) := by
  have h3 : a ^^^ b < 512 := Nat.xor_lt_two_pow (n := 9) ha hb
  apply Int32.toBitVec.inj
  apply BitVec.eq_of_toNat_eq
  rw [Int32.toBitVec_xor, BitVec.toNat_xor]
  show (BitVec.ofNat 32 a).toNat ^^^ (BitVec.ofNat 32 b).toNat = (BitVec.ofNat 32 (a ^^^ b)).toNat
  rw [BitVec.toNat_ofNat, BitVec.toNat_ofNat, BitVec.toNat_ofNat, Nat.mod_eq_of_lt (by omega), Nat.mod_eq_of_lt (by omega), Nat.mod_eq_of_lt (by omega)]
theorem and_2 {i t : Nat} (hi : i < 512) (ht : t < 9) : (nI i &&& nI (2 ^ t)) = 0 ↔ i.testBit t = false := by
  have h2 := two_512 ht
  have hle : i &&& 2 ^ t ≤ 2 ^ t := Nat.and_le_right
  rw [nI_and i (2 ^ t) (by omega) (by omega), show (0 : Int32) = nI 0 from rfl, nI_eq (by omega) (by omega)]
  constructor
  · intro h
    have := congrArg (fun z => z.testBit t) h
    rw [Nat.testBit_and, Nat.testBit_two_pow, Nat.zero_testBit] at this
    simpa using this
  · intro h
    apply Nat.eq_of_testBit_eq
    intro j
    rw [Nat.testBit_and, Nat.testBit_two_pow, Nat.zero_testBit]
    by_cases c : t = j
    · subst c; rw [h, Bool.false_and]
    · rw [decide_eq_false c, Bool.and_false]
/-- the winners don't change with TRAIN t -/
abbrev idQ (W : Nat → Int32) (t i : Nat) : Prop := ¬ (nI i &&& nI (2 ^ t)) = 0 ∨ W i = W (i ||| 2 ^ t)
def idA (W : Nat → Int32) (S : Nat) : Nat → Int32
  | 0 => 0
  | t + 1 => idA W S t ||| (if allV (idQ W t) S 0 = 0 then 0 else (1 : Int32) <<< (nI t &&& 31))
theorem id_lsb (W : Nat → Int32) (S : Nat) {j : Nat} (hj : j < 32) : ∀ n, n ≤ 9 → (idA W S n).toBitVec.getLsbD j = decide (j < n ∧ ¬ allV (idQ W j) S 0 = 0) := by
  intro n
  induction n with
  | zero =>
    intro _
    rw [decide_eq_false (by omega)]
    exact lsb_0 j
  | succ n ih =>
    intro hn
    show (idA W S n ||| (if allV (idQ W n) S 0 = 0 then 0 else (1 : Int32) <<< (nI n &&& 31))).toBitVec.getLsbD j = _
    rw [Int32.toBitVec_or, BitVec.getLsbD_or, ih (by omega)]
    by_cases c : allV (idQ W n) S 0 = 0
    · rw [if_pos c, lsb_0, Bool.or_false]
      apply decide_eq_decide.mpr
      constructor
      · exact fun z => ⟨by omega, z.2⟩
      · intro z
        refine ⟨?_, z.2⟩
        by_cases g : j = n
        · subst g; exact absurd c z.2
        · omega
    · rw [if_neg c, lsb_sh (by omega) hj]
      by_cases g : j = n
      · subst g
        rw [decide_eq_true (rfl : j = j), Bool.or_true, decide_eq_true ⟨by omega, c⟩]
      · rw [decide_eq_false g, Bool.or_false]
        apply decide_eq_decide.mpr
        constructor
        · exact fun z => ⟨by omega, z.2⟩
        · exact fun z => ⟨by omega, z.2⟩
theorem id_iff (W : Nat → Int32) {T t : Nat} (hT : T ≤ 9) (ht : t < T) : (¬ allV (idQ W t) (2 ^ T) 0 = 0) ↔ ∀ x, x < 2 ^ T → W x = W (x ^^^ 2 ^ t) := by
  have h := allV_eq (idQ W t) (2 ^ T) 0
  simp only [Nat.zero_add] at h
  have hp : 2 ^ T ≤ 512 := by
    calc 2 ^ T ≤ 2 ^ 9 := Nat.pow_le_pow_right (by decide) hT
      _ = 512 := rfl
  have h2 : 2 ^ t < 2 ^ T := Nat.pow_lt_pow_right (by decide) ht
  have e1 : ∀ x, x.testBit t = false → x ||| 2 ^ t = x ^^^ 2 ^ t := fun x hx => by
    apply Nat.eq_of_testBit_eq
    intro j
    rw [Nat.testBit_or, Nat.testBit_xor, Nat.testBit_two_pow]
    by_cases c : t = j
    · subst c; rw [hx, decide_eq_true (rfl : t = t)]; rfl
    · rw [decide_eq_false c]; cases x.testBit j <;> rfl
  have e2 : ∀ x, x.testBit t = true → (x ^^^ 2 ^ t).testBit t = false ∧ (x ^^^ 2 ^ t) ^^^ 2 ^ t = x := fun x hx => by
    constructor
    · rw [Nat.testBit_xor, Nat.testBit_two_pow, hx, decide_eq_true (rfl : t = t)]; rfl
    · rw [Nat.xor_assoc, Nat.xor_self, Nat.xor_zero]
  constructor
  · intro hne
    have hall : ∀ x, x < 2 ^ T → idQ W t x := by
      by_cases g : ∀ j, j < 2 ^ T → idQ W t j
      · exact g
      · exact absurd (h.2 g) hne
    intro x hx
    cases hb : x.testBit t
    · have := (hall x hx).resolve_left (fun z => z ((and_2 (by omega) (by omega)).mpr hb))
      rw [this, e1 x hb]
    · obtain ⟨a, b⟩ := e2 x hb
      have hx' : x ^^^ 2 ^ t < 2 ^ T := Nat.xor_lt_two_pow hx h2
      have := (hall _ hx').resolve_left (fun z => z ((and_2 (by omega) (by omega)).mpr a))
      rw [e1 _ a, b] at this
      exact this.symm
  · intro hall
    rw [h.1 (fun x hx => ?_)]
    · decide
    · by_cases c : (nI x &&& nI (2 ^ t)) = 0
      · right
        rw [e1 x ((and_2 (by omega) (by omega)).mp c)]
        exact hall x hx
      · exact Or.inl c
theorem D_idle (σ : St) (hI : JW σ) : ∃ r s1 s2, f_X11_idle σ = some (r, s1) ∧ f_X12_idle s1 = some (r, s2) := by
  obtain ⟨M, T, S, E, A, U, Y, L, P, N, v⟩ := hI.1.vw
  have hb := v.2.2
  have h5 := hb.S512
  have hT := hb.hT
  unfold f_X11_idle f_X11_idle_22 f_X12_idle
  rw [S_isTold hb.hN hb.cN, bd_mk]
  by_cases c1 : 1 ≤ N
  · obtain ⟨r, s1, e1, f1, -, -, g35⟩ := V_reck v hI.2
    have v1 : VW s1 (gr σ 59) M T S E A U Y L P N := v.fr f1 (by decide)
    rw [(f1.1 59 (by decide)).2.1] at g35
    let W : Nat → Int32 := fun x => winA (gr σ 59) M E T L (nI x)
    have hC : f_X2_idleTrains σ = some (idA W S T, s1) := by
      unfold f_X2_idleTrains
      rw [e1, bd_mk]
      refine itr_cnt (fun t => (idA W S t, nI t, s1)) T _ (fun t K ht => ?_) (fun K => ?_) T 0 FU (by omega) (by unfold FU; omega)
      · have h2 := two_512 (show t < 9 by omega)
        have hS2 : 2 ^ t < S := by rw [hb.hS]; exact Nat.pow_lt_pow_right (by decide) ht
        have key : f_X2_isIdle (nI (2 ^ t)) s1 = some (allV (idQ W t) S 0, s1) := by
          unfold f_X2_isIdle
          refine itr_all (fun i => (nI (2 ^ t), nI i, s1)) S s1 (idQ W t) (fun i K hi => ?_) (fun K => ?_) S 0 FU (by omega) (by unfold FU; omega)
          · have ho : i ||| 2 ^ t < S := by rw [hb.hS] at hi hS2 ⊢; exact Nat.or_lt_two_pow hi hS2
            unfold g_X2_isIdle_2 f_X2_isIdle_36
            dsimp only
            rw [V_sets v1, bd_mk, if_neg (lt_ge hi (by omega)), S_reckoned (show i < 512 by omega), bd_mk, nI_or, S_reckoned (show i ||| 2 ^ t < 512 by omega), bd_mk, g35 i hi, g35 _ ho, nI_1, bz_0, gd_tt]
            by_cases c : (nI i &&& nI (2 ^ t)) = 0
            · rw [if_pos c]
              by_cases c2 : W i = W (i ||| 2 ^ t)
              · rw [if_pos (show idQ W t i from Or.inr c2), if_pos (show winA (gr σ 59) M E T L (nI i) = winA (gr σ 59) M E T L (nI (i ||| 2 ^ t)) from c2)]
                rfl
              · rw [if_neg (show ¬ idQ W t i from fun z => z.elim (fun y => y c) c2), if_neg (show ¬ winA (gr σ 59) M E T L (nI i) = winA (gr σ 59) M E T L (nI (i ||| 2 ^ t)) from c2)]
            · rw [if_neg c, if_pos (show idQ W t i from Or.inl c)]
              rfl
          · unfold g_X2_isIdle_2
            dsimp only
            rw [V_sets v1, bd_mk, if_pos (le_rf S), bz_1, gd_tt]
        unfold g_X2_idleTrains_8 f_X2_idleTrains_38
        dsimp only
        rw [show gf s1 3 3 = nI T from v1.2.2.cT, if_neg (lt_ge ht (by omega)), nI_sh1 t (by omega), key, bd_mk, nI_1]
        show _ = K (idA W S t ||| (if allV (idQ W t) S 0 = 0 then 0 else (1 : Int32) <<< (nI t &&& 31)), nI (t + 1), s1)
        rw [nI_sh1 t (by omega)]
        by_cases c : allV (idQ W t) S 0 = 0
        · rw [if_pos c, if_pos c, or0]
          rfl
        · rw [if_neg c, if_neg c]
          rfl
      · unfold g_X2_idleTrains_8
        dsimp only
        rw [show gf s1 3 3 = nI T from v1.2.2.cT, if_pos (le_rf T)]
    have hR : Ok (fun r _ => ∀ j, j < 32 → r.toBitVec.getLsbD j = decide (j < T ∧ ∀ x, x < S → W x = W (x ^^^ 2 ^ j))) (itr g_X12_idle_17 FU (nI (S - 1), 0, s1)) := by
      refine okC (fun (i : Nat) (y : Int32 × Int32 × St) => y.1 = nI (S - 1) ∧ y.2.1 = nI i ∧ Fr [65, 66] s1 y.2.2 ∧ ∀ x, x < i → gr y.2.2 66 x = W x) S ?_ (i := 0) (by unfold FU; omega) (by omega) ⟨rfl, rfl, Fr.rf, fun x hx => absurd hx (by omega)⟩
      rintro i ⟨y1, y2, s2⟩ K hi ⟨e2, e3, hf, hr⟩ hK
      dsimp only at e2 e3 hf hr
      subst e2 e3
      have v2 := v1.fr hf (by decide)
      unfold g_X12_idle_17
      dsimp only
      rw [M_allT v2, bd_mk]
      refine okI (fun c => ?_) (fun c => ?_)
      · have : i = S := by
          rw [nI_ltI (by omega) (by omega)] at c
          omega
        rw [this] at hr
        refine okC (fun (x : Nat) (y : Int32 × Int32 × St) => y.2.1 = nI x ∧ y.2.2 = s2 ∧ ∀ j, j < 32 → y.1.toBitVec.getLsbD j = decide (j < T ∧ ∀ x', x' < x → W x' = W (x' ^^^ 2 ^ j))) S ?_ (i := 0) (by unfold FU; omega) (by omega) ⟨rfl, rfl, fun j hj => by
          show (nI (S - 1)).toBitVec.getLsbD j = _
          rw [lsb_nI (by omega) hj, hb.hS, Nat.testBit_two_pow_sub_one]
          apply decide_eq_decide.mpr
          constructor
          · exact fun z => ⟨z, fun x' hx' => absurd hx' (by omega)⟩
          · exact fun z => z.1⟩
        rintro x ⟨y1, y2, s3⟩ K2 hx ⟨e2, e3, hl⟩ hK2
        dsimp only at e2 e3 hl
        subst e2 e3
        unfold g_X12_idle_44
        dsimp only
        rw [M_allT v2, bd_mk]
        refine okI (fun c2 => okR ?_) (fun c2 => ?_)
        · have : x = S := by
            rw [nI_ltI (by omega) (by omega)] at c2
            omega
          rw [this] at hl
          exact hl
        · have hxS : x < S := by
            rw [nI_ltI (by omega) (by omega)] at c2
            omega
          refine okC (fun (t : Nat) (y : Int32 × Int32 × Int32 × St) => y.2.1 = nI x ∧ y.2.2.1 = nI t ∧ y.2.2.2 = s3 ∧ ∀ j, j < 32 → y.1.toBitVec.getLsbD j = decide (j < T ∧ (∀ x', x' < x → W x' = W (x' ^^^ 2 ^ j)) ∧ (j < t → W x = W (x ^^^ 2 ^ j)))) T ?_ (i := 0) (by unfold FU; omega) (by omega) ⟨rfl, rfl, rfl, fun j hj => by
            show y1.toBitVec.getLsbD j = _
            rw [hl j hj]
            apply decide_eq_decide.mpr
            constructor
            · exact fun z => ⟨z.1, z.2, fun h => absurd h (by omega)⟩
            · exact fun z => ⟨z.1, z.2.1⟩⟩
          rintro t ⟨z1, z2, z3, s4⟩ K3 ht ⟨e2, e3, e4, hl3⟩ hK3
          dsimp only at e2 e3 e4 hl3
          subst e2 e3 e4
          unfold g_X12_idle_54 f_X12_idle_91
          dsimp only
          refine okD rfl ?_
          rw [show gr s4 59 (4 : Int32).toNatClampNeg = nI T from v2.2.2.mT]
          refine okI (fun c3 => ?_) (fun c3 => ?_)
          · have : t = T := by
              rw [le_toInt, nI_toInt (by omega), nI_toInt (by omega)] at c3
              omega
            rw [bnd_mk, nI_1]
            refine hK2 _ hxS ⟨rfl, rfl, fun j hj => ?_⟩
            show z1.toBitVec.getLsbD j = _
            rw [hl3 j hj]
            apply decide_eq_decide.mpr
            constructor
            · rintro ⟨a, b, d⟩
              refine ⟨a, fun x' hx' => ?_⟩
              by_cases g : x' = x
              · rw [g]; exact d (by omega)
              · exact b x' (by omega)
            · exact fun z => ⟨z.1, fun x' hx' => z.2 x' (by omega), fun _ => z.2 x (by omega)⟩
          · replace c3 : t < T := cnt_le rfl (by omega) c3 ht
            have h2 := two_512 (show t < 9 by omega)
            have hS2 : 2 ^ t < S := by rw [hb.hS]; exact Nat.pow_lt_pow_right (by decide) c3
            have hxo : x ^^^ 2 ^ t < S := by rw [hb.hS] at hxS hS2 ⊢; exact Nat.xor_lt_two_pow hxS hS2
            rw [inb_ln (n := 512) rfl (show x < 512 by omega) (by omega), gd_tt, nI_sh1 t (by omega), nI_xr x (2 ^ t) (by omega) (by omega), inb_ln (n := 512) rfl (show x ^^^ 2 ^ t < 512 by omega) (by omega), gd_tt, nI_clamp (by omega), nI_clamp (by omega), hr x hxS, hr _ hxo, nI_1]
            refine okI (fun c4 => hK3 _ c3 ⟨rfl, rfl, rfl, fun j hj => ?_⟩) (fun c4 => hK3 _ c3 ⟨rfl, rfl, rfl, fun j hj => ?_⟩)
            · show z1.toBitVec.getLsbD j = _
              rw [hl3 j hj]
              apply decide_eq_decide.mpr
              constructor
              · rintro ⟨a, b, d⟩
                refine ⟨a, b, fun h => ?_⟩
                by_cases g : j = t
                · rw [g]; exact c4
                · exact d (by omega)
              · exact fun z => ⟨z.1, z.2.1, fun h => z.2.2 (by omega)⟩
            · show (z1 &&& (nI (2 ^ t) ^^^ (-1 : Int32))).toBitVec.getLsbD j = _
              have hm1 : (Int32.toBitVec (-1)).getLsbD j = true := by
                show (BitVec.allOnes 32).getLsbD j = true
                rw [BitVec.getLsbD_allOnes]
                simp
                omega
              rw [Int32.toBitVec_and, Int32.toBitVec_xor, BitVec.getLsbD_and, BitVec.getLsbD_xor, hm1, hl3 j hj, lsb_nI h2 hj, Nat.testBit_two_pow]
              by_cases g : t = j
              · subst g
                rw [decide_eq_true (rfl : t = t)]
                symm
                rw [show ((true ^^ true) = false) from rfl, Bool.and_false]
                apply decide_eq_false
                exact fun z => c4 (z.2.2 (by omega))
              · rw [decide_eq_false g, show ((false ^^ true) = true) from rfl, Bool.and_true]
                apply decide_eq_decide.mpr
                constructor
                · exact fun z => ⟨z.1, z.2.1, fun h => z.2.2 (by omega)⟩
                · exact fun z => ⟨z.1, z.2.1, fun h => z.2.2 (by omega)⟩
      · have hiS : i < S := by
          rw [nI_ltI (by omega) (by omega)] at c
          omega
        obtain ⟨r4, s3, e4, q4, f4⟩ := M_winner v2 (nI i)
        rw [e4, bd_mk, inb_ln (n := 512) rfl (show i < 512 by omega) (by omega), gd_tt, nI_clamp (by omega), bnd_mk, bnd_mk, nI_1, q4]
        refine hK _ hiS ⟨rfl, rfl, (hf.tr (f4.mo (by simp))).tr (Fr.c2 (by simp)), fun x hx => ?_⟩
        show gr (sr s3 66 i _) 66 x = _
        rw [gr_sr_s]
        by_cases e : x = i
        · rw [if_pos e, e]
        · rw [if_neg e, (f4.1 66 (by decide)).2.1]
          exact hr x (by omega)
    obtain ⟨r2, s2, h2, q2⟩ := hR
    have he : r2 = idA W S T := by
      apply Int32.toBitVec.inj
      apply BitVec.eq_of_getLsbD_eq
      intro j hj
      rw [q2 j hj, id_lsb W S hj T hT]
      apply decide_eq_decide.mpr
      constructor
      · rintro ⟨a, b⟩
        refine ⟨a, ?_⟩
        have := (id_iff W hT a).mpr
        rw [← hb.hS] at this
        exact this b
      · rintro ⟨a, b⟩
        have := (id_iff W hT a).mp
        rw [← hb.hS] at this
        exact ⟨a, this b⟩
    refine ⟨idA W S T, s1, s2, by rw [b2_t c1, if_neg n10, hC, bd_mk], ?_⟩
    rw [S_isWar hb.hN v1.2.2.mN, bd_mk, b2_t c1, if_neg n10, M_allT v1, bd_mk, ← he]
    exact h2
  · refine ⟨-2, σ, σ, by rw [b2_f c1, if_pos rfl], ?_⟩
    rw [S_isWar hb.hN hb.mN, bd_mk, b2_f c1, if_pos rfl]
