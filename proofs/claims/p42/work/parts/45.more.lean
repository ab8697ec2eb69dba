/-! ===== methods of the class that want a hand ===== -/
theorem and_lt {i n : Nat} (y : Int32) (hi : i < n) (hn : n ≤ 1048576) : ∃ k, k < n ∧ nI i &&& y = nI k := by
  have e : nI i &&& y = nI (i &&& y.toBitVec.toNat) := by
    apply Int32.toBitVec.inj
    apply BitVec.eq_of_toNat_eq
    rw [Int32.toBitVec_and, BitVec.toNat_and]
    show (BitVec.ofNat 32 i).toNat &&& y.toBitVec.toNat = (BitVec.ofNat 32 (i &&& y.toBitVec.toNat)).toNat
    have h3 : i &&& y.toBitVec.toNat ≤ i := Nat.and_le_left
    rw [BitVec.toNat_ofNat, BitVec.toNat_ofNat, Nat.mod_eq_of_lt (by omega), Nat.mod_eq_of_lt (by omega)]
  have h3 : i &&& y.toBitVec.toNat ≤ i := Nat.and_le_left
  exact ⟨_, by omega, e⟩
theorem inb_andc {i k : Nat} {y : Int32} (hl : ln k = 512) (hi : i < 512) : inb (nI i &&& y) (ln k) = true := by
  obtain ⟨j, hj, e⟩ := and_lt y hi (by omega)
  rw [e]
  exact inb_ln hl hj (by omega)
theorem nI_xor (a b : Nat) (ha : a < 512) (hb : b < 512) : ∃ k, k < 512 ∧ nI a ^^^ nI b = nI k := by
  have h3 : a ^^^ b < 512 := Nat.xor_lt_two_pow (n := 9) ha hb
  refine ⟨a ^^^ b, h3, ?_⟩
  apply Int32.toBitVec.inj
  apply BitVec.eq_of_toNat_eq
  rw [Int32.toBitVec_xor, BitVec.toNat_xor]
  show (BitVec.ofNat 32 a).toNat ^^^ (BitVec.ofNat 32 b).toNat = (BitVec.ofNat 32 (a ^^^ b)).toNat
  rw [BitVec.toNat_ofNat, BitVec.toNat_ofNat, BitVec.toNat_ofNat, Nat.mod_eq_of_lt (by omega), Nat.mod_eq_of_lt (by omega), Nat.mod_eq_of_lt (by omega)]
theorem inb_xor {a b k : Nat} (hl : ln k = 512) (ha : a < 512) (hb : b < 512) : inb (nI a ^^^ nI b) (ln k) = true := by
  obtain ⟨j, hj, e⟩ := nI_xor a b ha hb
  rw [e]
  exact inb_ln hl hj (by omega)
theorem two_512 {t : Nat} (h : t < 9) : 2 ^ t < 512 := by
  calc 2 ^ t ≤ 2 ^ 8 := Nat.pow_le_pow_right (by decide) (by omega)
    _ < 512 := by decide
theorem nI_subl {a b : Nat} (h : b ≤ a) : nI a - nI b = nI (a - b) := by
  obtain ⟨c, rfl⟩ : ∃ c, a = c + b := ⟨a - b, by omega⟩
  rw [← nI_add, Int32.add_sub_cancel, Nat.add_sub_cancel]
theorem T_X3_mayBeLate {Z : St → Prop} {σ0 : St} {M T S E A U Y L P N : Nat} (q : ZB Z σ0 M T S E A U Y L P N) {t : Nat} {s : St} (h : Z s) (ht : t < 9) : Ok (fun _ s' => Z s') (f_X3_mayBeLate (nI t) s) := by
  have qS := q.b.S512
  have q2 := two_512 ht
  have key : ∀ (k0 : Int32) (s : St), Z s → Ok (fun _ s' => Z s') (f_X3_mayBeLate_38 (nI (2 ^ t)) k0 s) := by
    intro k0 s h
    unfold f_X3_mayBeLate_38
    refine okC (fun (i : Nat) (x : Int32 × Int32 × Int32 × St) => x.2.2.1 = nI i ∧ x.1 = nI (2 ^ t) ∧ Z x.2.2.2) S ?_ (i := 0) (by unfold FU; omega) (by omega) ⟨rfl, rfl, h⟩
    rintro i ⟨v2, v3, v4, s2⟩ K hi ⟨hv, hw, h2⟩ hK
    dsimp only at hv hw h2
    subst hv hw
    unfold g_X3_mayBeLate_42
    dsimp only
    rw [S_X10_sets q h2, bd_mk]
    refine okI (fun _ => okR h2) (fun c => ?_)
    replace c : i < S := cnt_le rfl (by omega) c hi
    refine okI (fun _ => ?_) (fun _ => ?_)
    · unfold f_X3_mayBeLate_94
      exact hK _ c ⟨nI_1 _, rfl, h2⟩
    · refine okD (inb_ln (n := 512) rfl (by omega) (by omega)) ?_
      refine okD (inb_xor rfl (by omega) q2) ?_
      refine okD (inb_ln (n := 512) rfl (by omega) (by omega)) ?_
      refine okZ (Z := Z) (q.z.wj _ _ _ h2 (by decide)) (fun s3 h3 => ?_)
      unfold f_X3_mayBeLate_94
      exact hK _ c ⟨nI_1 _, rfl, h3⟩
  unfold f_X3_mayBeLate
  rw [bnd_mk, nI_sh1 t (by omega)]
  refine okB (T_X10_menLost q h) ?_
  intro r1 s1 h1
  refine okI (fun _ => key _ _ h1) (fun _ => ?_)
  refine okB (T_X9_cell3 q h1) ?_
  intro r2 s2 h2
  exact key _ _ h2
theorem T_X10_trainsOfR {Z : St → Prop} {σ0 : St} {M T S E A U Y L P N : Nat} (q : ZB Z σ0 M T S E A U Y L P N) {p0 : Int32} {s : St} (h : Z s) : Ok (fun r s' => Z s' ∧ ∃ k, k < 512 ∧ r = nI k) (f_X10_trainsOf 1 p0 s) := by
  have qT := q.b.hT
  unfold f_X10_trainsOf
  refine okD (isW_lit (Or.inl rfl)) ?_
  refine okC (fun (i : Nat) (x : Int32 × Int32 × Int32 × St) => x.2.2.1 = nI i ∧ (∃ k, k < 512 ∧ x.2.1 = nI k) ∧ Z x.2.2.2) T ?_ (i := 0) (by unfold FU; omega) (by omega) ⟨rfl, ⟨0, by omega, rfl⟩, h⟩
  rintro i ⟨v1, v2, v3, s2⟩ K hi ⟨hv, ⟨k, hk, hw⟩, h2⟩ hK
  dsimp only at hv hw h2
  subst hv hw
  unfold g_X10_trainsOf_4
  dsimp only
  refine okD (isW_lit (Or.inl rfl)) ?_
  refine okI (fun _ => okR ⟨h2, k, hk, rfl⟩) (fun c => ?_)
  replace c : i < T := cnt_le (q.at' h2).cT (by omega) c hi
  refine okB (T_X9_cell3 q h2) ?_
  intro r3 s3 h3
  unfold f_X10_trainsOf_34
  refine okI (fun _ => ?_) (fun _ => ?_)
  · refine okN ?_
    refine hK _ c ⟨nI_1 _, ⟨k ||| 2 ^ i, or_512 hk (two_512 (by omega)), ?_⟩, h3⟩
    show nI k ||| ((1 : Int32) <<< (nI i &&& 31)) = _
    rw [nI_sh1 i (by omega), nI_or]
  · exact hK _ c ⟨nI_1 _, ⟨k, hk, rfl⟩, h3⟩
theorem and63 (x : Int32) : 0 ≤ (x &&& 63).toInt ∧ (x &&& 63).toInt ≤ 63 := by
  obtain ⟨k, hk, e⟩ := and_lt (i := 63) (n := 64) x (by omega) (by omega)
  have e2 : x &&& 63 = nI k := by
    rw [← e]
    apply Int32.toBitVec.inj
    rw [Int32.toBitVec_and, Int32.toBitVec_and]
    exact BitVec.and_comm _ _
  rw [e2, nI_toInt (by omega)]
  omega
theorem T_J6_bitCountR {Z : St → Prop} {σ0 : St} {M T S E A U Y L P N : Nat} (q : ZB Z σ0 M T S E A U Y L P N) {p0 : Int32} {s : St} (h : Z s) : Ok (fun r s' => Z s' ∧ 0 ≤ r.toInt ∧ r.toInt ≤ 63) (f_J6_bitCount_0f7a4 p0 s) := by
  unfold f_J6_bitCount_0f7a4
  exact okR ⟨h, and63 _⟩
theorem T_X1_hundreds {Z : St → Prop} {σ0 : St} {M T S E A U Y L P N : Nat} (q : ZB Z σ0 M T S E A U Y L P N) {p0 : Int32} {s : St} (h : Z s) (hp : p0.toInt ≤ 1000) : Ok (fun _ s' => Z s') (f_X1_hundreds p0 s) := by
  unfold f_X1_hundreds
  refine okB (T_X1_power q h hp) ?_
  intro r1 s1 h1
  exact okR h1
theorem T_X1_lowest {Z : St → Prop} {σ0 : St} {M T S E A U Y L P N : Nat} (q : ZB Z σ0 M T S E A U Y L P N) {p0 p1 : Int64} {p2 : Int32} {s : St} (h : Z s) : Ok (fun _ s' => Z s') (f_X1_lowest p0 p1 p2 s) := by
  unfold f_X1_lowest
  refine okB (T_X1_commonDivisor q h) ?_
  intro r1 s1 h1
  rw [bnd_mk]
  have hz : (!decide ((if r1 < (1 : Int64) then (1 : Int64) else r1) = 0)) = true := by
    rw [Bool.not_eq_true', decide_eq_false_iff_not]
    by_cases c : r1 < (1 : Int64)
    · rw [if_pos c]; decide
    · rw [if_neg c]
      rintro rfl
      exact c (by decide)
  unfold f_X1_lowest_21
  refine okI (fun _ => okD hz (okR h1)) (fun _ => okD hz (okR h1))
theorem T_X1_dryParts {Z : St → Prop} {σ0 : St} {M T S E A U Y L P N : Nat} (q : ZB Z σ0 M T S E A U Y L P N) {p0 p1 p2 : Int32} {s : St} (h : Z s) (h1 : p2.toInt ≤ 1000) (h2 : (p1 - p2).toInt ≤ 1000) : Ok (fun _ s' => Z s') (f_X1_dryParts p0 p1 p2 s) := by
  unfold f_X1_dryParts
  refine okB (T_X1_choices q h h1) ?_
  intro r3 s3 h3
  refine okB (T_X1_power q h3 h1) ?_
  intro r4 s4 h4
  refine okB (T_X1_power q h4 h2) ?_
  intro r5 s5 h5
  exact okR h5
theorem T_X11_dry {Z : St → Prop} {σ0 : St} {M T S E A U Y L P N : Nat} (q : ZB Z σ0 M T S E A U Y L P N) {p0 p1 p2 : Int32} {s : St} (h : Z s) : Ok (fun _ s' => Z s') (f_X11_dry p0 p1 p2 s) := by
  unfold f_X11_dry f_X11_dry_37
  refine okB (T_X10_isTold q h) ?_
  intro r1 s1 h1
  refine okI (fun _ => okR h1) (fun _ => ?_)
  refine okI (fun _ => okR h1) (fun c1 => ?_)
  refine okI (fun _ => okR h1) (fun c2 => ?_)
  refine okI (fun _ => okR h1) (fun c3 => ?_)
  refine okI (fun _ => okR h1) (fun c4 => ?_)
  refine okB (T_X11_isPart q h1) ?_
  intro r2 s2 h2
  refine okI (fun _ => okR h2) (fun _ => ?_)
  have z0 : (0 : Int32).toInt = 0 := rfl
  have z1 : (1 : Int32).toInt = 1 := rfl
  have z9 : (9 : Int32).toInt = 9 := rfl
  rw [lt_toInt] at c1 c2 c3 c4
  obtain ⟨a, ha, rfl⟩ := nI_ofT (x := p0) (n := 9) (by omega) (by omega)
  obtain ⟨b, hb, rfl⟩ := nI_ofT (x := p1) (n := 9) (by omega) (by omega)
  rw [nI_toInt (by omega), nI_toInt (by omega)] at c4
  refine okB (T_X1_dryParts q h2 (by rw [nI_toInt (by omega)]; omega) (by rw [nI_subl (by omega), nI_toInt (by omega)]; omega)) ?_
  intro r3 s3 h3
  refine okB (T_X1_hundreds q h3 (by rw [nI_toInt (by omega)]; omega)) ?_
  intro r4 s4 h4
  refine okB (T_X1_lowest q h4) ?_
  intro r5 s5 h5
  exact okR h5
theorem T_X11_luck {Z : St → Prop} {σ0 : St} {M T S E A U Y L P N : Nat} (q : ZB Z σ0 M T S E A U Y L P N) {p0 p1 p2 : Int32} {s : St} (h : Z s) : Ok (fun _ s' => Z s') (f_X11_luck p0 p1 p2 s) := by
  unfold f_X11_luck f_X11_luck_30
  refine okB (T_X11_isSeed q h) ?_
  intro r1 s1 h1
  refine okI (fun _ => okR h1) (fun _ => ?_)
  refine okI (fun _ => okR h1) (fun c1 => ?_)
  refine okI (fun _ => okR h1) (fun c2 => ?_)
  refine okB (T_X10_hasSide q h1) ?_
  intro r2 s2 h2
  refine okI (fun _ => okR h2) (fun _ => ?_)
  have z0 : (1 : Int32).toInt = 1 := rfl
  have z9 : (20 : Int32).toInt = 20 := rfl
  rw [lt_toInt] at c1 c2
  obtain ⟨a, ha, rfl⟩ := nI_ofT (x := p1) (n := 20) (by omega) (by omega)
  refine okC (fun (i : Nat) (x : Int32 × Int32 × Int32 × Int32 × Int32 × St) => x.2.2.2.2.1 = nI i ∧ x.2.1 = nI a ∧ Z x.2.2.2.2.2) a ?_ (i := 0) (by unfold FU; omega) (by omega) ⟨rfl, rfl, h2⟩
  rintro i ⟨v1, v2, v3, v4, v5, s3⟩ K hi ⟨hv, hw, h3⟩ hK
  dsimp only at hv hw h3
  subst hv hw
  unfold g_X11_luck_39
  dsimp only
  refine okI (fun _ => okR h3) (fun c => ?_)
  replace c := cnt_le rfl (by omega) c hi
  refine okB (T_X1_drawnDelays q h3) ?_
  intro r4 s4 h4
  unfold f_X11_luck_80
  refine okI (fun _ => hK _ c ⟨nI_1 _, rfl, h4⟩) (fun _ => ?_)
  refine okB (T_X2_winnerBy q h4) ?_
  intro r5 s5 h5
  refine okI (fun _ => okN (hK _ c ⟨nI_1 _, rfl, h5⟩)) (fun _ => hK _ c ⟨nI_1 _, rfl, h5⟩)
theorem of_cond {p0 x : Int32} {M : Nat} (h1 : ¬ p0 < (1 : Int32)) (h2 : p0 ≤ x) (hx : x = nI M) (hM : M ≤ 60) : ∃ k : Nat, p0 = nI k ∧ k ≤ 1000 := by
  have z1 : (1 : Int32).toInt = 1 := rfl
  rw [lt_toInt] at h1
  rw [le_toInt, hx, nI_toInt (by omega)] at h2
  obtain ⟨k, hk, e⟩ := nI_ofT (x := p0) (n := 1000) (by omega) (by omega)
  exact ⟨k, e, hk⟩
theorem sub1_1000 {x : Int32} (h0 : 0 ≤ x.toInt) (h : x.toInt ≤ 63) : (x - 1).toInt ≤ 1000 := by
  obtain ⟨k, hk, rfl⟩ := nI_ofT (x := x) (n := 63) (by omega) (by omega)
  rcases k with _ | k
  · decide
  · rw [nI_pred, nI_toInt (by omega)]
    omega
