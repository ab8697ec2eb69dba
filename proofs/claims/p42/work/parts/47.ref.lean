/-! ===== the reference's questions come to an end ===== -/
abbrev SRf : List Nat := [58, 65, 66, 67]
def ZQ (Z : St → Prop) (σ0 : St) : Prop := (∀ s, Z s → Fr SRf σ0 s) ∧ (∀ s i f, Z s → (i = 65 ∨ i = 66 ∨ i = 67) → Z (sR s i f)) ∧ ∀ s c v, Z s → 14 ≤ c → Z (sf s 58 c v)
def QB (Z : St → Prop) (σ0 : St) (M T S E A U Y L P N : Nat) : Prop := ZQ Z σ0 ∧ BB σ0 M T S E A U Y L P N ∧ WR σ0 1 (gr σ0 59)
theorem QB.b {Z : St → Prop} {σ0 : St} {M T S E A U Y L P N : Nat} (q : QB Z σ0 M T S E A U Y L P N) : BB σ0 M T S E A U Y L P N := q.2.1
theorem QB.fr {Z : St → Prop} {σ0 : St} {M T S E A U Y L P N : Nat} (q : QB Z σ0 M T S E A U Y L P N) {s : St} (h : Z s) : Fr SRf σ0 s := q.1.1 s h
theorem QB.g59 {Z : St → Prop} {σ0 : St} {M T S E A U Y L P N : Nat} (q : QB Z σ0 M T S E A U Y L P N) {s : St} (h : Z s) : gr s 59 = gr σ0 59 := ((q.fr h).1 59 (by decide)).2.1
theorem QB.at' {Z : St → Prop} {σ0 : St} {M T S E A U Y L P N : Nat} (q : QB Z σ0 M T S E A U Y L P N) {s : St} (h : Z s) : BB s M T S E A U Y L P N := by
  have hf := q.fr h
  obtain ⟨a1, a2, a3, a4, a5, a6, a7, a8, a9, a10, b0, b1, b2', b3, b4, b5, b6, b7, b8, c1, c2, c3, c4, c5, c6, c7, c8, c9⟩ := q.b
  have g1 := (hf.1 1 (by decide)).1
  have g59 := (hf.1 59 (by decide)).2.1
  exact ⟨a1, a2, a3, a4, a5, a6, a7, a8, a9, a10, by rw [g1]; exact b0, by rw [g1]; exact b1, by rw [g1]; exact b2', by rw [g1]; exact b3, by rw [(hf.1 3 (by decide)).1]; exact b4, by rw [(hf.1 5 (by decide)).1]; exact b5, by rw [(hf.1 7 (by decide)).1]; exact b6, by rw [(hf.1 9 (by decide)).1]; exact b7, by rw [(hf.1 11 (by decide)).1]; exact b8, by rw [g59]; exact c1, by rw [g59]; exact c2, by rw [g59]; exact c3, by rw [g59]; exact c4, by rw [g59]; exact c5, by rw [g59]; exact c6, by rw [g59]; exact c7, by rw [g59]; exact c8, by rw [g59]; exact c9⟩
theorem Q_X12_allTrains {Z : St → Prop} {σ0 : St} {M T S E A U Y L P N : Nat} (q : QB Z σ0 M T S E A U Y L P N) {s : St} (h : Z s) : f_X12_allTrains s = some (nI (S - 1), s) := by
  have hb := q.at' h
  have h5 := hb.S512
  unfold f_X12_allTrains
  rw [show inb (4 : Int32) (ln 59) = true from rfl, gd_tt, c64_4, hb.mT, nI_shl (by have := hb.hT; omega), ← hb.hS]
  obtain ⟨k, rfl⟩ : ∃ k, S = k + 1 := ⟨S - 1, by omega⟩
  rw [nI_pred, Nat.add_sub_cancel]
theorem Q_X12_allReadings {Z : St → Prop} {σ0 : St} {M T S E A U Y L P N : Nat} (q : QB Z σ0 M T S E A U Y L P N) {s : St} (h : Z s) : f_X12_allReadings s = some (nI (2 ^ (2 * U)), s) := by
  have hb := q.at' h
  unfold f_X12_allReadings
  rw [show inb (7 : Int32) (ln 59) = true from rfl, gd_tt, c64_7, hb.mU, show (2 : Int32) = nI 2 from rfl, nI_mul, nI_shl (by have := hb.hU; omega)]
/-- a side -/
def SD (p : Int32) : Prop := p = 0 ∨ p = 1
theorem inb_sd {p : Int32} (h : SD p) : inb ((11 : Int32) + p) (ln 59) = true := by
  rcases h with rfl | rfl
  · rfl
  · rfl
theorem sd_of {p : Int32} (h : (0 : Int64).toInt ≤ p.toInt64.toInt ∧ p.toInt64.toInt ≤ (1 : Int64).toInt) : SD p := by
  have z0 : (0 : Int64).toInt = 0 := rfl
  have z1 : (1 : Int64).toInt = 1 := rfl
  rw [Int32.toInt_toInt64] at h
  obtain ⟨j, hj, rfl⟩ := nI_ofT (x := p) (n := 1) (by omega) (by omega)
  rcases (by omega : j = 0 ∨ j = 1) with rfl | rfl
  · exact Or.inl rfl
  · exact Or.inr rfl
theorem T_X12_in {Z : St → Prop} {σ0 : St} {M T S E A U Y L P N : Nat} (q : QB Z σ0 M T S E A U Y L P N) {p0 p1 p2 : Int64} {s : St} (h : Z s) : Ok (fun _ s' => Z s') (f_X12_in p0 p1 p2 s) := by
  rw [S_in]; exact okR h
theorem T_X12_isWar {Z : St → Prop} {σ0 : St} {M T S E A U Y L P N : Nat} (q : QB Z σ0 M T S E A U Y L P N) {s : St} (h : Z s) : Ok (fun _ s' => Z s') (f_X12_isWar s) := by
  unfold f_X12_isWar f_X12_isWar_15
  refine okD rfl (okI (fun _ => okD rfl (okR h)) (fun _ => okD rfl (okR h)))
theorem T_X12_isSideR {Z : St → Prop} {σ0 : St} {M T S E A U Y L P N : Nat} (q : QB Z σ0 M T S E A U Y L P N) {p0 : Int32} {s : St} (h : Z s) : Ok (fun r s' => Z s' ∧ (r = 0 ∨ SD p0)) (f_X12_isSide p0 s) := by
  unfold f_X12_isSide f_X12_isSide_21 f_X12_isSide_22
  refine okB (T_X12_isWar q h) ?_
  intro r1 s1 h1
  refine okI (fun _ => okD rfl (okR ⟨h1, Or.inl rfl⟩)) (fun _ => ?_)
  rw [S_in, bd_mk]
  refine okI (fun _ => okD rfl (okR ⟨h1, Or.inl rfl⟩)) (fun c => okD rfl (okR ⟨h1, Or.inr (sd_of ?_)⟩))
  rw [b2_0] at c
  exact Decidable.not_not.mp c
theorem T_X12_isTrainR {Z : St → Prop} {σ0 : St} {M T S E A U Y L P N : Nat} (q : QB Z σ0 M T S E A U Y L P N) {p0 : Int32} {s : St} (h : Z s) : Ok (fun r s' => Z s' ∧ (r = 0 ∨ ∃ t, t < 9 ∧ p0 = nI t)) (f_X12_isTrain p0 s) := by
  have qT := q.b.hT
  unfold f_X12_isTrain
  refine okD rfl ?_
  rw [S_in, bd_mk]
  refine okD bz_b2 (okR ⟨h, ?_⟩)
  by_cases c : b2 ((0 : Int64).toInt ≤ p0.toInt64.toInt ∧ p0.toInt64.toInt ≤ (gr s 59 (4 : Int32).toNatClampNeg - 1).toInt64.toInt) = 0
  · exact Or.inl c
  · rw [b2_0] at c
    replace c := Decidable.not_not.mp c
    have z0 : (0 : Int64).toInt = 0 := rfl
    rw [Int32.toInt_toInt64, Int32.toInt_toInt64, c64_4, (q.at' h).mT] at c
    rcases T with _ | T
    · have : (nI 0 - 1).toInt = -1 := rfl
      omega
    · rw [nI_pred, nI_toInt (by omega)] at c
      obtain ⟨j, hj, rfl⟩ := nI_ofT (x := p0) (n := T) (by omega) (by omega)
      exact Or.inr ⟨j, by omega, rfl⟩
theorem T_X12_isAny {Z : St → Prop} {σ0 : St} {M T S E A U Y L P N : Nat} (q : QB Z σ0 M T S E A U Y L P N) {p0 : Int32} {s : St} (h : Z s) : Ok (fun _ s' => Z s') (f_X12_isAny p0 s) := by
  unfold f_X12_isAny
  rw [S_in, bd_mk]
  exact okD bz_b2 (okR h)
theorem T_X12_isPrice {Z : St → Prop} {σ0 : St} {M T S E A U Y L P N : Nat} (q : QB Z σ0 M T S E A U Y L P N) {p0 : Int32} {s : St} (h : Z s) : Ok (fun _ s' => Z s') (f_X12_isPrice p0 s) := by
  unfold f_X12_isPrice
  rw [S_in, bd_mk]
  exact okD bz_b2 (okR h)
theorem T_X12_of {Z : St → Prop} {σ0 : St} {M T S E A U Y L P N : Nat} (q : QB Z σ0 M T S E A U Y L P N) {i j : Nat} {s : St} (h : Z s) (hi : i < 9) (hj : j < 6) : Ok (fun _ s' => Z s') (f_X12_of (nI i) (nI j) s) := by
  unfold f_X12_of
  refine okD ?_ (okR h)
  simp only [zL13, zL6, nI_add, nI_mul]
  exact inb_ln (n := 240) rfl (by omega) (by omega)
theorem S_X12_ofAsk {i j : Nat} (s : St) (hi : i < 8) (hj : j < 4) : f_X12_ofAsk (nI i) (nI j) s = some (gr s 59 (75 + 4 * i + j), s) := by
  unfold f_X12_ofAsk
  simp only [zL75, zL4, nI_add, nI_mul]
  rw [inb_ln (n := 240) rfl (by omega) (by omega), gd_tt, nI_clamp (by omega)]
theorem T_X12_ofAsk {Z : St → Prop} {σ0 : St} {M T S E A U Y L P N : Nat} (q : QB Z σ0 M T S E A U Y L P N) {i j : Nat} {s : St} (h : Z s) (hi : i < 8) (hj : j < 4) : Ok (fun _ s' => Z s') (f_X12_ofAsk (nI i) (nI j) s) := by
  rw [S_X12_ofAsk s hi hj]; exact okR h
theorem T_X12_trainsOfR {Z : St → Prop} {σ0 : St} {M T S E A U Y L P N : Nat} (q : QB Z σ0 M T S E A U Y L P N) {p0 : Int32} {s : St} (h : Z s) : Ok (fun r s' => Z s' ∧ ∃ k, k < 512 ∧ r = nI k) (f_X12_trainsOf p0 s) := by
  have qT := q.b.hT
  unfold f_X12_trainsOf
  refine okC (fun (i : Nat) (x : Int32 × Int32 × Int32 × St) => x.2.2.1 = nI i ∧ (∃ k, k < 512 ∧ x.2.1 = nI k) ∧ Z x.2.2.2) T ?_ (i := 0) (by unfold FU; omega) (by omega) ⟨rfl, ⟨0, by omega, rfl⟩, h⟩
  rintro i ⟨v1, v2, v3, s2⟩ K hi ⟨hv, ⟨k, hk, hw⟩, h2⟩ hK
  dsimp only at hv hw h2
  subst hv hw
  unfold g_X12_trainsOf_4
  dsimp only
  refine okD rfl ?_
  refine okI (fun _ => okR ⟨h2, k, hk, rfl⟩) (fun c => ?_)
  replace c : i < T := cnt_le (q.at' h2).mT (by omega) c hi
  refine okB (T_X12_of q h2 (j := 0) (by omega) (by omega)) ?_
  intro r3 s3 h3
  unfold f_X12_trainsOf_32
  refine okI (fun _ => ?_) (fun _ => ?_)
  · refine okN (okN ?_)
    refine hK _ c ⟨nI_1 _, ⟨k ||| 2 ^ i, or_512 hk (two_512 (by omega)), ?_⟩, h3⟩
    show nI k ||| ((1 : Int32) <<< (nI i &&& 31)) = _
    rw [nI_sh1 i (by omega), nI_or]
  · refine okN (okN ?_)
    refine hK _ c ⟨nI_1 _, ⟨k, hk, ?_⟩, h3⟩
    show nI k ||| nI 0 = nI k
    rw [nI_or, Nat.or_zero]
theorem T_X12_trainsOf {Z : St → Prop} {σ0 : St} {M T S E A U Y L P N : Nat} (q : QB Z σ0 M T S E A U Y L P N) {p0 : Int32} {s : St} (h : Z s) : Ok (fun _ s' => Z s') (f_X12_trainsOf p0 s) := okW (T_X12_trainsOfR q h) (fun _ _ z => z.1)
/-! a divisor: Euclid's steps halve -/
theorem i64_rem (a b : Int64) : (a - a / b * b).toInt = a.toInt.tmod b.toInt := by
  rw [Int64.toInt_sub, Int64.toInt_mul, Int64.toInt_div, Int.bmod_mul_bmod, Int.sub_bmod_bmod]
  have e : a.toInt - a.toInt.tdiv b.toInt * b.toInt = a.toInt.tmod b.toInt := by
    rw [Int.tmod_def, Int.mul_comm]
  rw [e]
  have h1 := Int.natAbs_tmod a.toInt b.toInt
  have h2 : a.toInt.natAbs % b.toInt.natAbs ≤ a.toInt.natAbs := Nat.mod_le _ _
  have h3 := a.toInt_lt
  have h4 := a.le_toInt
  by_cases c : a.toInt.tmod b.toInt = 2 ^ 63
  · exfalso
    have h5 := b.toInt_lt
    have h6 := b.le_toInt
    by_cases hb : b.toInt = 0
    · rw [hb, Int.tmod_zero] at c
      omega
    · have h7 := Nat.mod_lt a.toInt.natAbs (show 0 < b.toInt.natAbs by omega)
      omega
  · apply Int.bmod_eq_of_le
    · omega
    · omega
def eum (a b : Nat) : Nat := (if a < b then 1 else 0) + (if b = 0 then 0 else 1 + Nat.log2 (a * b))
theorem log2_half {x y : Nat} (hx : x ≠ 0) (h : 2 * x ≤ y) : Nat.log2 x < Nat.log2 y := by
  rcases Nat.lt_or_ge (Nat.log2 x) (Nat.log2 y) with g | g
  · exact g
  · exfalso
    have h1 := Nat.lt_log2_self (n := y)
    have h2 := Nat.log2_self_le hx
    have h3 : 2 ^ (Nat.log2 y + 1) ≤ 2 ^ (Nat.log2 x + 1) := Nat.pow_le_pow_right (by decide) (by omega)
    rw [Nat.pow_succ] at h3
    rw [Nat.pow_succ 2 (Nat.log2 x)] at h3
    rw [Nat.pow_succ] at h1
    omega
theorem eum_lt {a b : Nat} (hb : b ≠ 0) : eum b (a % b) < eum a b := by
  unfold eum
  rw [if_neg hb, if_neg (show ¬ b < a % b from by have := Nat.mod_lt a (Nat.pos_of_ne_zero hb); omega)]
  by_cases c : a < b
  · rw [if_pos c, Nat.mod_eq_of_lt c]
    by_cases c2 : a = 0
    · rw [if_pos c2]; omega
    · rw [if_neg c2, Nat.mul_comm b a]; omega
  · rw [if_neg c]
    by_cases c2 : a % b = 0
    · rw [if_pos c2]; omega
    · rw [if_neg c2]
      have h1 := Nat.mod_lt a (Nat.pos_of_ne_zero hb)
      have h2 := Nat.div_add_mod a b
      have h3 : b * 1 ≤ b * (a / b) := Nat.mul_le_mul_left b (Nat.div_pos (by omega) (Nat.pos_of_ne_zero hb))
      have h4 : 2 * (a % b) ≤ a := by omega
      have h5 : 2 * (b * (a % b)) ≤ a * b := by
        calc 2 * (b * (a % b)) = b * (2 * (a % b)) := by rw [Nat.mul_left_comm]
          _ ≤ b * a := Nat.mul_le_mul_left b h4
          _ = a * b := Nat.mul_comm b a
      have h6 := log2_half (x := b * (a % b)) (by
        intro e
        rcases Nat.mul_eq_zero.mp e with g | g
        · exact hb g
        · exact c2 g) h5
      omega
theorem eum_le {a b : Nat} (ha : a ≤ 2 ^ 63) (hb : b ≤ 2 ^ 63) : eum a b ≤ 200 := by
  have h1 : a * b ≤ 2 ^ 63 * 2 ^ 63 := Nat.mul_le_mul ha hb
  have h2 : Nat.log2 (a * b) ≤ 127 := by
    by_cases c : a * b = 0
    · rw [c]; decide
    · have := (Nat.log2_lt (k := 127) c).mpr (by omega)
      omega
  unfold eum
  by_cases c1 : a < b
  · rw [if_pos c1]
    by_cases c2 : b = 0
    · rw [if_pos c2]; omega
    · rw [if_neg c2]; omega
  · rw [if_neg c1]
    by_cases c2 : b = 0
    · rw [if_pos c2]; omega
    · rw [if_neg c2]; omega
theorem na64 (a : Int64) : a.toInt.natAbs ≤ 2 ^ 63 := by
  have h3 := a.toInt_lt
  have h4 := a.le_toInt
  omega
theorem cmp0 {v : Int64} (h : ¬ lg_cmp v 0 = 0) : v ≠ 0 := by
  rintro rfl
  exact h (by decide)
theorem cmp0' {v : Int64} (h : lg_cmp v 0 = 0) : v = 0 := by
  have z0 : (0 : Int64).toInt = 0 := rfl
  apply Int64.toInt_inj.mp
  rcases Int.lt_trichotomy v.toInt (0 : Int64).toInt with g | g | g
  · have := (lcmp_lt (x := v) (y := 0)).mpr g
    rw [h] at this
    exact absurd this (by decide)
  · exact g
  · have := (lcmp_gt (x := v) (y := 0)).mpr g
    rw [h] at this
    exact absurd this (by decide)
theorem na0 {v : Int64} (h : v ≠ 0) : v.toInt.natAbs ≠ 0 := by
  intro e
  apply h
  apply Int64.toInt_inj.mp
  have z0 : (0 : Int64).toInt = 0 := rfl
  omega
theorem T_X12_divisor {Z : St → Prop} {σ0 : St} {M T S E A U Y L P N : Nat} (q : QB Z σ0 M T S E A U Y L P N) {p0 p1 : Int64} {s : St} (h : Z s) (hp : p1 ≠ 0) : Ok (fun r s' => Z s' ∧ r ≠ 0) (f_X12_divisor p0 p1 s) := by
  unfold f_X12_divisor
  refine okM (fun (x : Int64 × Int64 × St) => (x.1 ≠ 0 ∨ x.2.1 ≠ 0) ∧ Z x.2.2) (fun x => eum x.1.toInt.natAbs x.2.1.toInt.natAbs) ?_ (by have := eum_le (na64 p0) (na64 p1); unfold FU; dsimp only; omega) ⟨Or.inr hp, h⟩
  rintro ⟨a, b, s1⟩ K ⟨hab, h1⟩ hK
  dsimp only at hab h1 hK
  unfold g_X12_divisor_6
  dsimp only
  refine okI (fun c => ?_) (fun c => ?_)
  · have := cmp0' c
    exact okR ⟨h1, hab.resolve_right (fun g => g this)⟩
  · refine okD (ndz c) (okN ?_)
    refine hK (b, a - a / b * b, s1) ⟨Or.inl (cmp0 c), h1⟩ ?_
    dsimp only
    rw [i64_rem, Int.natAbs_tmod]
    exact eum_lt (na0 (cmp0 c))
theorem T_X12_part {Z : St → Prop} {σ0 : St} {M T S E A U Y L P N : Nat} (q : QB Z σ0 M T S E A U Y L P N) {p0 p1 : Int64} {p2 : Int32} {s : St} (h : Z s) (hp : p1 ≠ 0) : Ok (fun _ s' => Z s') (f_X12_part p0 p1 p2 s) := by
  have key : ∀ k0, Ok (fun _ s' => Z s') (f_X12_part_10 p0 p1 k0 s) := by
    intro k0
    unfold f_X12_part_10
    refine okB (T_X12_divisor q h hp) ?_
    rintro r1 s1 ⟨h1, hr⟩
    refine okD ?_ (okR h1)
    rw [Bool.not_eq_true', decide_eq_false_iff_not]
    exact hr
  unfold f_X12_part
  exact okI (fun _ => key _) (fun _ => key _)
theorem pow100 : ∀ i, i ≤ 9 → Int64.ofNat (100 ^ i) ≠ 0 := by decide +kernel
theorem pow100s (i : Nat) : Int64.ofNat (100 ^ i) * 100 = Int64.ofNat (100 ^ (i + 1)) := by
  rw [Nat.pow_succ, Int64.ofNat_mul]
  rfl
theorem T_X12_allOftenR {Z : St → Prop} {σ0 : St} {M T S E A U Y L P N : Nat} (q : QB Z σ0 M T S E A U Y L P N) {s : St} (h : Z s) : Ok (fun r s' => Z s' ∧ r ≠ 0) (f_X12_allOften s) := by
  have qT := q.b.hT
  unfold f_X12_allOften
  refine okC (fun (i : Nat) (x : Int64 × Int32 × St) => x.2.1 = nI i ∧ x.1 = Int64.ofNat (100 ^ i) ∧ Z x.2.2) T ?_ (i := 0) (by unfold FU; omega) (by omega) ⟨rfl, rfl, h⟩
  rintro i ⟨v1, v2, s2⟩ K hi ⟨hv, hw, h2⟩ hK
  dsimp only at hv hw h2
  subst hv hw
  unfold g_X12_allOften_4
  dsimp only
  refine okD rfl ?_
  refine okI (fun _ => okR ⟨h2, pow100 i (by omega)⟩) (fun c => ?_)
  replace c : i < T := cnt_le (q.at' h2).mT (by omega) c hi
  exact hK _ c ⟨nI_1 _, pow100s i, h2⟩
theorem T_X12_allOften {Z : St → Prop} {σ0 : St} {M T S E A U Y L P N : Nat} (q : QB Z σ0 M T S E A U Y L P N) {s : St} (h : Z s) : Ok (fun _ s' => Z s') (f_X12_allOften s) := okW (T_X12_allOftenR q h) (fun _ _ z => z.1)
theorem inb_xs {a t k : Nat} (hl : ln k = 512) (ha : a < 512) (ht : t < 9) : inb (nI a ^^^ ((1 : Int32) <<< (nI t &&& 31))) (ln k) = true := by
  rw [nI_sh1 t (by omega)]
  exact inb_xor hl ha (two_512 ht)
theorem inb_or {a b k : Nat} (hl : ln k = 512) (ha : a < 512) (hb : b < 512) : inb (nI a ||| nI b) (ln k) = true := by
  rw [nI_or]
  exact inb_ln hl (or_512 ha hb) (by omega)
theorem in_nI {p : Int32} {lo hi : Int64} {n : Nat} (c : ¬ b2 (lo.toInt ≤ p.toInt64.toInt ∧ p.toInt64.toInt ≤ hi.toInt) = 0) (h0 : 0 ≤ lo.toInt) (h1 : hi.toInt ≤ n) : ∃ j : Nat, j ≤ n ∧ lo.toInt ≤ j ∧ (j : Int) ≤ hi.toInt ∧ p = nI j := by
  rw [b2_0] at c
  replace c := Decidable.not_not.mp c
  rw [Int32.toInt_toInt64] at c
  obtain ⟨j, hj, rfl⟩ := nI_ofT (x := p) (n := n) (by omega) (by omega)
  by_cases hn : j < 2 ^ 31
  · rw [nI_toInt hn] at c
    exact ⟨j, hj, by omega, by omega, rfl⟩
  · have h2 := (nI j).toInt_lt
    have h3 : (nI j).toInt.toNat < 2 ^ 31 := by omega
    refine ⟨(nI j).toInt.toNat, by omega, by omega, by omega, ?_⟩
    apply Int32.toInt_inj.mp
    rw [nI_toInt h3]
    omega
theorem pred_toInt {x : Int32} {k : Nat} (hx : x = nI k) (hk : k ≤ 1000) : (x - 1).toInt64.toInt = (k : Int) - 1 := by
  rw [Int32.toInt_toInt64, hx]
  rcases k with _ | k
  · rfl
  · rw [nI_pred, nI_toInt (by omega)]
    omega
theorem T_X12_train {Z : St → Prop} {σ0 : St} {M T S E A U Y L P N : Nat} (q : QB Z σ0 M T S E A U Y L P N) {p0 p1 : Int32} {s : St} (h : Z s) : Ok (fun _ s' => Z s') (f_X12_train p0 p1 s) := by
  unfold f_X12_train f_X12_train_29 f_X12_train_31
  refine okB (T_X12_isTrainR q h) ?_
  rintro r1 s1 ⟨h1, hr⟩
  refine okI (fun _ => okR h1) (fun c1 => ?_)
  obtain ⟨t, ht, rfl⟩ := hr.resolve_left c1
  rw [S_in, bd_mk]
  refine okI (fun _ => okR h1) (fun c2 => ?_)
  obtain ⟨j, hj, -, hj2, rfl⟩ := in_nI (n := 5) c2 (by decide) (by decide)
  refine okB (T_X12_of q h1 ht (by omega)) ?_
  intro r2 s2 h2
  exact okR h2
theorem T_X12_need {Z : St → Prop} {σ0 : St} {M T S E A U Y L P N : Nat} (q : QB Z σ0 M T S E A U Y L P N) {p0 : Int32} {s : St} (h : Z s) : Ok (fun _ s' => Z s') (f_X12_need p0 s) := by
  unfold f_X12_need f_X12_need_22
  refine okB (T_X12_isSideR q h) ?_
  rintro r1 s1 ⟨h1, hr⟩
  refine okI (fun _ => okR h1) (fun c1 => ?_)
  exact okD (inb_sd (hr.resolve_left c1)) (okR h1)
theorem T_X12_cannon {Z : St → Prop} {σ0 : St} {M T S E A U Y L P N : Nat} (q : QB Z σ0 M T S E A U Y L P N) {p0 p1 : Int32} {s : St} (h : Z s) : Ok (fun _ s' => Z s') (f_X12_cannon p0 p1 s) := by
  have qA := q.b.hA
  unfold f_X12_cannon f_X12_cannon_47 f_X12_cannon_49
  refine okD rfl ?_
  rw [S_in, bd_mk]
  refine okI (fun _ => okR h) (fun c1 => ?_)
  rw [S_in, bd_mk]
  refine okI (fun _ => okR h) (fun c2 => ?_)
  obtain ⟨i, hi, -, -, rfl⟩ := in_nI (n := 7) c1 (by decide) (by have e := pred_toInt (x := gr s 59 (6 : Int32).toNatClampNeg) (q.at' h).mA (by omega); omega)
  obtain ⟨j, hj, -, -, rfl⟩ := in_nI (n := 3) c2 (by decide) (by decide)
  refine okD ?_ (okR h)
  simp only [zL75, zL4, nI_add, nI_mul]
  exact inb_ln (n := 240) rfl (by omega) (by omega)
theorem T_X12_rule {Z : St → Prop} {σ0 : St} {M T S E A U Y L P N : Nat} (q : QB Z σ0 M T S E A U Y L P N) {p0 p1 : Int32} {s : St} (h : Z s) : Ok (fun _ s' => Z s') (f_X12_rule p0 p1 s) := by
  have qU := q.b.hU
  unfold f_X12_rule f_X12_rule_45 f_X12_rule_47
  refine okD rfl ?_
  rw [S_in, bd_mk]
  refine okI (fun _ => okR h) (fun c1 => ?_)
  rw [S_in, bd_mk]
  refine okI (fun _ => okR h) (fun c2 => ?_)
  obtain ⟨i, hi, -, -, rfl⟩ := in_nI (n := 3) c1 (by decide) (by have e := pred_toInt (x := gr s 59 (7 : Int32).toNatClampNeg) (q.at' h).mU (by omega); omega)
  obtain ⟨j, hj, -, -, rfl⟩ := in_nI (n := 1) c2 (by decide) (by decide)
  refine okD ?_ (okR h)
  simp only [zL107, zL2, nI_add, nI_mul]
  exact inb_ln (n := 240) rfl (by omega) (by omega)
theorem T_X12_spy {Z : St → Prop} {σ0 : St} {M T S E A U Y L P N : Nat} (q : QB Z σ0 M T S E A U Y L P N) {p0 : Int32} {s : St} (h : Z s) : Ok (fun _ s' => Z s') (f_X12_spy p0 s) := by
  have qY := q.b.hY
  unfold f_X12_spy f_X12_spy_33
  refine okD rfl ?_
  rw [S_in, bd_mk]
  refine okI (fun _ => okR h) (fun c1 => ?_)
  obtain ⟨i, hi, -, -, rfl⟩ := in_nI (n := 4) c1 (by decide) (by have e := pred_toInt (x := gr s 59 (8 : Int32).toNatClampNeg) (q.at' h).mY (by omega); omega)
  refine okD ?_ (okR h)
  simp only [zL115, nI_add]
  exact inb_ln (n := 240) rfl (by omega) (by omega)
