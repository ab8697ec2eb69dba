/-! ===== questions of the reference ===== -/
theorem T_X12_bits {Z : St → Prop} {σ0 : St} {M T S E A U Y L P N : Nat} (q : QB Z σ0 M T S E A U Y L P N) {p0 : Int32} {s : St} (h : Z s) : Ok (fun _ s' => Z s') (f_X12_bits p0 s) := by
  have qM := q.b.hM
  have qT := q.b.hT
  have qS := q.b.S512
  have qE := q.b.hE
  have qA := q.b.hA
  have qU := q.b.hU
  have qY := q.b.hY
  have qA2 := q.b.A256
  have qU2 := q.b.U256
  unfold f_X12_bits
  refine okC (fun (i : Nat) (x : Int32 × Int32 × Int32 × St) => x.2.2.1 = nI i ∧ Z x.2.2.2) 12 ?_ (i := 0) (by unfold FU; omega) (by omega) ⟨rfl, h⟩
  rintro i1 ⟨v8, v9, v10, s6⟩ K2 hi3 ⟨hv5, h7⟩ hK4
  dsimp only at hv5 h7
  subst hv5
  unfold g_X12_bits_4
  dsimp only
  refine okI (fun _ => ?_) (fun c11 => ?_)
  ·
    exact okR h7
  ·
    replace c11 : i1 < 12 := cnt_le rfl (by omega) c11 hi3
    refine okN ?_
    refine okN ?_
    exact hK4 _ c11 ⟨nI_1 _, h7⟩
theorem T_X12_bit {Z : St → Prop} {σ0 : St} {M T S E A U Y L P N : Nat} (q : QB Z σ0 M T S E A U Y L P N) {p0 : Int32} {p1 : Int32} {s : St} (h : Z s) : Ok (fun _ s' => Z s') (f_X12_bit p0 p1 s) := by
  have qM := q.b.hM
  have qT := q.b.hT
  have qS := q.b.S512
  have qE := q.b.hE
  have qA := q.b.hA
  have qU := q.b.hU
  have qY := q.b.hY
  have qA2 := q.b.A256
  have qU2 := q.b.U256
  unfold f_X12_bit
  exact okR h
theorem T_X12_areTrains {Z : St → Prop} {σ0 : St} {M T S E A U Y L P N : Nat} (q : QB Z σ0 M T S E A U Y L P N) {p0 : Int32} {s : St} (h : Z s) : Ok (fun _ s' => Z s') (f_X12_areTrains p0 s) := by
  have qM := q.b.hM
  have qT := q.b.hT
  have qS := q.b.S512
  have qE := q.b.hE
  have qA := q.b.hA
  have qU := q.b.hU
  have qY := q.b.hY
  have qA2 := q.b.A256
  have qU2 := q.b.U256
  unfold f_X12_areTrains
  refine okB (T_X12_isWar q h) ?_
  intro r3 s1 h2
  refine okI (fun c4 => ?_) (fun c4 => ?_)
  ·
    unfold f_X12_areTrains_25
    unfold f_X12_areTrains_26
    refine okD rfl ?_
    exact okR h2
  ·
    rw [Q_X12_allTrains q h2, bd_mk]
    refine okB (T_X12_in q h2) ?_
    intro r7 s5 h6
    refine okI (fun c8 => ?_) (fun c8 => ?_)
    ·
      unfold f_X12_areTrains_25
      unfold f_X12_areTrains_26
      refine okD rfl ?_
      exact okR h6
    ·
      unfold f_X12_areTrains_26
      refine okD rfl ?_
      exact okR h6
theorem T_X12_priceOf {Z : St → Prop} {σ0 : St} {M T S E A U Y L P N : Nat} (q : QB Z σ0 M T S E A U Y L P N) {p0 : Int32} {s : St} (h : Z s) : Ok (fun _ s' => Z s') (f_X12_priceOf p0 s) := by
  have qM := q.b.hM
  have qT := q.b.hT
  have qS := q.b.S512
  have qE := q.b.hE
  have qA := q.b.hA
  have qU := q.b.hU
  have qY := q.b.hY
  have qA2 := q.b.A256
  have qU2 := q.b.U256
  unfold f_X12_priceOf
  refine okC (fun (i : Nat) (x : Int32 × Int32 × Int32 × St) => x.2.2.1 = nI i ∧ Z x.2.2.2) T ?_ (i := 0) (by unfold FU; omega) (by omega) ⟨rfl, h⟩
  rintro i1 ⟨v8, v9, v10, s6⟩ K2 hi3 ⟨hv5, h7⟩ hK4
  dsimp only at hv5 h7
  subst hv5
  unfold g_X12_priceOf_4
  dsimp only
  refine okD rfl ?_
  refine okI (fun _ => ?_) (fun c11 => ?_)
  ·
    exact okR h7
  ·
    replace c11 : i1 < T := cnt_le (q.at' h7).mT (by omega) c11 hi3
    refine okB (T_X12_bit q h7) ?_
    intro r14 s12 h13
    refine okB (T_X12_of q h13 (j := 5) (by omega) (by omega)) ?_
    intro r17 s15 h16
    refine okN ?_
    refine okN ?_
    exact hK4 _ c11 ⟨nI_1 _, h16⟩
theorem T_X12_isTea {Z : St → Prop} {σ0 : St} {M T S E A U Y L P N : Nat} (q : QB Z σ0 M T S E A U Y L P N) {p0 : Int32} {s : St} (h : Z s) : Ok (fun _ s' => Z s') (f_X12_isTea p0 s) := by
  have qM := q.b.hM
  have qT := q.b.hT
  have qS := q.b.S512
  have qE := q.b.hE
  have qA := q.b.hA
  have qU := q.b.hU
  have qY := q.b.hY
  have qA2 := q.b.A256
  have qU2 := q.b.U256
  unfold f_X12_isTea
  refine okC (fun (i : Nat) (x : Int32 × Int32 × St) => x.2.1 = nI i ∧ Z x.2.2) E ?_ (i := 0) (by unfold FU; omega) (by omega) ⟨rfl, h⟩
  rintro i1 ⟨v8, v9, s6⟩ K2 hi3 ⟨hv5, h7⟩ hK4
  dsimp only at hv5 h7
  subst hv5
  unfold g_X12_isTea_2
  dsimp only
  refine okD rfl ?_
  refine okI (fun _ => ?_) (fun c10 => ?_)
  ·
    refine okD rfl ?_
    exact okR h7
  ·
    replace c10 : i1 < E := cnt_le (q.at' h7).mE (by omega) c10 hi3
    refine okD (by simp only [zL1, zL2, zL4, zL6, zL11, zL13, zL67, zL75, zL107, zL115, nI_add, nI_mul]; exact inb_ln (n := 240) rfl (by omega) (by omega)) ?_
    refine okD (by simp only [zL1, zL2, zL4, zL6, zL11, zL13, zL67, zL75, zL107, zL115, nI_add, nI_mul]; exact inb_ln (n := 240) rfl (by omega) (by omega)) ?_
    refine okB (T_X12_in q h7) ?_
    intro r13 s11 h12
    refine okI (fun c14 => ?_) (fun c14 => ?_)
    ·
      refine okN ?_
      exact hK4 _ c10 ⟨nI_1 _, h12⟩
    ·
      refine okD rfl ?_
      exact okR h12
theorem T_X12_tea {Z : St → Prop} {σ0 : St} {M T S E A U Y L P N : Nat} (q : QB Z σ0 M T S E A U Y L P N) {p0 : Int32} {s : St} (h : Z s) : Ok (fun _ s' => Z s') (f_X12_tea p0 s) := by
  have qM := q.b.hM
  have qT := q.b.hT
  have qS := q.b.S512
  have qE := q.b.hE
  have qA := q.b.hA
  have qU := q.b.hU
  have qY := q.b.hY
  have qA2 := q.b.A256
  have qU2 := q.b.U256
  unfold f_X12_tea
  refine okB (T_X12_isWar q h) ?_
  intro r3 s1 h2
  refine okI (fun c4 => ?_) (fun c4 => ?_)
  ·
    unfold f_X12_tea_41
    unfold f_X12_tea_43
    exact okR h2
  ·
    refine okD rfl ?_
    refine okB (T_X12_in q h2) ?_
    intro r7 s5 h6
    refine okI (fun c8 => ?_) (fun c8 => ?_)
    ·
      unfold f_X12_tea_41
      unfold f_X12_tea_43
      exact okR h6
    ·
      refine okB (T_X12_isTea q h6) ?_
      intro r11 s9 h10
      refine okI (fun c12 => ?_) (fun c12 => ?_)
      ·
        unfold f_X12_tea_43
        exact okR h10
      ·
        unfold f_X12_tea_43
        exact okR h10
theorem T_X12_comesAt {Z : St → Prop} {σ0 : St} {M T S E A U Y L P N : Nat} (q : QB Z σ0 M T S E A U Y L P N) {t : Nat} {p1 : Int32} {s : St} (h : Z s) (ht : t < 9) : Ok (fun _ s' => Z s') (f_X12_comesAt (nI t) p1 s) := by
  have qM := q.b.hM
  have qT := q.b.hT
  have qS := q.b.S512
  have qE := q.b.hE
  have qA := q.b.hA
  have qU := q.b.hU
  have qY := q.b.hY
  have qA2 := q.b.A256
  have qU2 := q.b.U256
  unfold f_X12_comesAt
  refine okB (T_X12_of q h (j := 2) (by omega) (by omega)) ?_
  intro r3 s1 h2
  refine okB (T_X12_bit q h2) ?_
  intro r6 s4 h5
  refine okB (T_X12_of q h5 (j := 4) (by omega) (by omega)) ?_
  intro r9 s7 h8
  exact okR h8
theorem T_X12_menOf {Z : St → Prop} {σ0 : St} {M T S E A U Y L P N : Nat} (q : QB Z σ0 M T S E A U Y L P N) {p0 : Int32} {p1 : Int32} {p2 : Int32} {s : St} (h : Z s) : Ok (fun _ s' => Z s') (f_X12_menOf p0 p1 p2 s) := by
  have qM := q.b.hM
  have qT := q.b.hT
  have qS := q.b.S512
  have qE := q.b.hE
  have qA := q.b.hA
  have qU := q.b.hU
  have qY := q.b.hY
  have qA2 := q.b.A256
  have qU2 := q.b.U256
  unfold f_X12_menOf
  refine okC (fun (i : Nat) (x : Int32 × Int32 × Int32 × Int32 × Int32 × St) => x.2.2.2.2.1 = nI i ∧ Z x.2.2.2.2.2) T ?_ (i := 0) (by unfold FU; omega) (by omega) ⟨rfl, h⟩
  rintro i1 ⟨v8, v9, v10, v11, v12, s6⟩ K2 hi3 ⟨hv5, h7⟩ hK4
  dsimp only at hv5 h7
  subst hv5
  unfold g_X12_menOf_6
  dsimp only
  refine okD rfl ?_
  refine okI (fun _ => ?_) (fun c13 => ?_)
  ·
    exact okR h7
  ·
    replace c13 : i1 < T := cnt_le (q.at' h7).mT (by omega) c13 hi3
    refine okB (T_X12_of q h7 (j := 0) (by omega) (by omega)) ?_
    intro r16 s14 h15
    refine okI (fun c17 => ?_) (fun c17 => ?_)
    ·
      refine okB (T_X12_comesAt q h15 (by omega)) ?_
      intro r20 s18 h19
      refine okI (fun c21 => ?_) (fun c21 => ?_)
      ·
        unfold f_X12_menOf_51
        unfold f_X12_menOf_52
        refine okN ?_
        refine okN ?_
        exact hK4 _ c13 ⟨nI_1 _, h19⟩
      ·
        refine okB (T_X12_of q h19 (j := 1) (by omega) (by omega)) ?_
        intro r24 s22 h23
        unfold f_X12_menOf_52
        refine okN ?_
        refine okN ?_
        exact hK4 _ c13 ⟨nI_1 _, h23⟩
    ·
      unfold f_X12_menOf_51
      unfold f_X12_menOf_52
      refine okN ?_
      refine okN ?_
      exact hK4 _ c13 ⟨nI_1 _, h15⟩
theorem T_X12_frontOf {Z : St → Prop} {σ0 : St} {M T S E A U Y L P N : Nat} (q : QB Z σ0 M T S E A U Y L P N) {t : Nat} {p1 : Int32} {s : St} (h : Z s) (ht : t ≤ 60) : Ok (fun _ s' => Z s') (f_X12_frontOf (nI t) p1 s) := by
  unfold f_X12_frontOf
  refine okD rfl ?_
  refine okZ (Z := Z) (q.1.2.1 _ _ _ h (by decide)) (fun s0 h0 => ?_)
  refine okC (fun (i : Nat) (x : Int32 × Int32 × Int32 × St) => x.2.2.1 = nI i ∧ x.1 = nI t ∧ Z x.2.2.2) t ?_ (i := 0) (by unfold FU; omega) (by omega) ⟨rfl, rfl, h0⟩
  rintro i ⟨v1, v2, v3, s2⟩ K hi ⟨hv, hw, h2⟩ hK
  dsimp only at hv hw h2
  subst hv hw
  unfold g_X12_frontOf_9
  dsimp only
  refine okI (fun _ => okD (inb_ln (n := 61) rfl (by omega) (by omega)) (okR h2)) (fun c => ?_)
  replace c : i < t := cnt_le rfl (by omega) c hi
  have key : ∀ (k0 : Int32) (s3 : St), Z s3 → Ok (fun _ s' => Z s') (f_X12_frontOf_41 K (nI t) v2 (nI i) k0 s3) := by
    intro k0 s3 h3
    have key2 : ∀ a b : Int32, Ok (fun _ s' => Z s') (f_X12_frontOf_75 K (nI t) v2 (nI i) a b (nI i + 1) s3) := by
      intro a b
      unfold f_X12_frontOf_75
      rw [nI_1]
      refine okD (inb_ln (n := 61) rfl (by omega) (by omega)) ?_
      refine okZ (Z := Z) (q.1.2.1 _ _ _ h3 (by decide)) (fun s4 h4 => ?_)
      exact hK _ c ⟨rfl, rfl, h4⟩
    unfold f_X12_frontOf_41
    refine okD (inb_ln (n := 61) rfl (by omega) (by omega)) ?_
    exact okI (fun _ => okI (fun _ => key2 _ _) (fun _ => key2 _ _)) (fun _ => key2 _ _)
  refine okB (T_X12_isTea q h2) ?_
  intro r3 s3 h3
  refine okI (fun _ => ?_) (fun _ => key _ _ h3)
  refine okB (T_X12_menOf q h3) ?_
  intro r4 s4 h4
  refine okB (T_X12_menOf q h4) ?_
  intro r5 s5 h5
  exact key _ _ h5
theorem T_X12_lastFront {Z : St → Prop} {σ0 : St} {M T S E A U Y L P N : Nat} (q : QB Z σ0 M T S E A U Y L P N) {p0 : Int32} {s : St} (h : Z s) : Ok (fun _ s' => Z s') (f_X12_lastFront p0 s) := by
  unfold f_X12_lastFront
  refine okD rfl ?_
  rw [show gr s 59 (0 : Int32).toNatClampNeg = nI M from (q.at' h).mM]
  refine okB (T_X12_frontOf q h q.b.hM) ?_
  intro r1 s1 h1
  exact okR h1
theorem T_X12_goodBy {Z : St → Prop} {σ0 : St} {M T S E A U Y L P N : Nat} (q : QB Z σ0 M T S E A U Y L P N) {p0 : Int32} {p1 : Int32} {s : St} (h : Z s) : Ok (fun _ s' => Z s') (f_X12_goodBy p0 p1 s) := by
  have qM := q.b.hM
  have qT := q.b.hT
  have qS := q.b.S512
  have qE := q.b.hE
  have qA := q.b.hA
  have qU := q.b.hU
  have qY := q.b.hY
  have qA2 := q.b.A256
  have qU2 := q.b.U256
  unfold f_X12_goodBy
  refine okI (fun c1 => ?_) (fun c1 => ?_)
  ·
    try subst c1
    unfold f_X12_goodBy_10
    exact okR h
  ·
    unfold f_X12_goodBy_10
    exact okR h
theorem T_X12_isLate {Z : St → Prop} {σ0 : St} {M T S E A U Y L P N : Nat} (q : QB Z σ0 M T S E A U Y L P N) {p0 : Int32} {p1 : Int32} {s : St} (h : Z s) (hp : SD p0) : Ok (fun _ s' => Z s') (f_X12_isLate p0 p1 s) := by
  have qM := q.b.hM
  have qT := q.b.hT
  have qS := q.b.S512
  have qE := q.b.hE
  have qA := q.b.hA
  have qU := q.b.hU
  have qY := q.b.hY
  have qA2 := q.b.A256
  have qU2 := q.b.U256
  unfold f_X12_isLate
  refine okD rfl ?_
  refine okB (T_X12_menOf q h) ?_
  intro r3 s1 h2
  refine okD (inb_sd hp) ?_
  refine okI (fun c4 => ?_) (fun c4 => ?_)
  ·
    unfold f_X12_isLate_29
    refine okD rfl ?_
    exact okR h2
  ·
    unfold f_X12_isLate_29
    refine okD rfl ?_
    exact okR h2
theorem T_X12_winner {Z : St → Prop} {σ0 : St} {M T S E A U Y L P N : Nat} (q : QB Z σ0 M T S E A U Y L P N) {p0 : Int32} {s : St} (h : Z s) : Ok (fun _ s' => Z s') (f_X12_winner p0 s) := by
  have qM := q.b.hM
  have qT := q.b.hT
  have qS := q.b.S512
  have qE := q.b.hE
  have qA := q.b.hA
  have qU := q.b.hU
  have qY := q.b.hY
  have qA2 := q.b.A256
  have qU2 := q.b.U256
  unfold f_X12_winner
  refine okB (T_X12_isLate q h (Or.inl rfl)) ?_
  intro r3 s1 h2
  refine okB (T_X12_isLate q h2 (Or.inr rfl)) ?_
  intro r6 s4 h5
  refine okI (fun c7 => ?_) (fun c7 => ?_)
  ·
    refine okB (T_X12_lastFront q h5) ?_
    intro r10 s8 h9
    refine okI (fun c11 => ?_) (fun c11 => ?_)
    ·
      refine okI (fun c12 => ?_) (fun c12 => ?_)
      ·
        unfold f_X12_winner_55
        exact okR h9
      ·
        unfold f_X12_winner_55
        exact okR h9
    ·
      unfold f_X12_winner_55
      exact okR h9
  ·
    refine okI (fun c13 => ?_) (fun c13 => ?_)
    ·
      unfold f_X12_winner_28
      exact okR h5
    ·
      unfold f_X12_winner_28
      exact okR h5
theorem T_X12_men {Z : St → Prop} {σ0 : St} {M T S E A U Y L P N : Nat} (q : QB Z σ0 M T S E A U Y L P N) {p0 : Int32} {p1 : Int32} {p2 : Int32} {s : St} (h : Z s) : Ok (fun _ s' => Z s') (f_X12_men p0 p1 p2 s) := by
  have qM := q.b.hM
  have qT := q.b.hT
  have qS := q.b.S512
  have qE := q.b.hE
  have qA := q.b.hA
  have qU := q.b.hU
  have qY := q.b.hY
  have qA2 := q.b.A256
  have qU2 := q.b.U256
  unfold f_X12_men
  refine okB (T_X12_isSideR q h) ?_
  rintro r3 s1 ⟨h2, hq4⟩
  refine okI (fun c5 => ?_) (fun c5 => ?_)
  ·
    unfold f_X12_men_33
    unfold f_X12_men_35
    exact okR h2
  ·
    have hs6 := hq4.resolve_left c5
    refine okB (T_X12_isAny q h2) ?_
    intro r9 s7 h8
    refine okI (fun c10 => ?_) (fun c10 => ?_)
    ·
      unfold f_X12_men_33
      unfold f_X12_men_35
      exact okR h8
    ·
      refine okB (T_X12_areTrains q h8) ?_
      intro r13 s11 h12
      refine okI (fun c14 => ?_) (fun c14 => ?_)
      ·
        unfold f_X12_men_33
        unfold f_X12_men_35
        exact okR h12
      ·
        refine okB (T_X12_menOf q h12) ?_
        intro r17 s15 h16
        unfold f_X12_men_35
        exact okR h16
theorem T_X12_front {Z : St → Prop} {σ0 : St} {M T S E A U Y L P N : Nat} (q : QB Z σ0 M T S E A U Y L P N) {p0 p1 : Int32} {s : St} (h : Z s) : Ok (fun _ s' => Z s') (f_X12_front p0 p1 s) := by
  have qM := q.b.hM
  unfold f_X12_front f_X12_front_33 f_X12_front_36
  refine okB (T_X12_areTrains q h) ?_
  intro r1 s1 h1
  refine okI (fun _ => okR h1) (fun _ => okD rfl ?_)
  rw [S_in, bd_mk]
  refine okI (fun _ => okR h1) (fun c2 => ?_)
  obtain ⟨j, hj, -, -, rfl⟩ := in_nI (n := 60) c2 (by decide) (by rw [show gr s1 59 (0 : Int32).toNatClampNeg = nI M from (q.at' h1).mM, Int32.toInt_toInt64, nI_toInt (by omega)]; omega)
  refine okB (T_X12_frontOf q h1 hj) ?_
  intro r2 s2 h2
  exact okR h2
theorem T_X12_late {Z : St → Prop} {σ0 : St} {M T S E A U Y L P N : Nat} (q : QB Z σ0 M T S E A U Y L P N) {p0 : Int32} {s : St} (h : Z s) : Ok (fun _ s' => Z s') (f_X12_late p0 s) := by
  have qM := q.b.hM
  have qT := q.b.hT
  have qS := q.b.S512
  have qE := q.b.hE
  have qA := q.b.hA
  have qU := q.b.hU
  have qY := q.b.hY
  have qA2 := q.b.A256
  have qU2 := q.b.U256
  unfold f_X12_late
  refine okB (T_X12_areTrains q h) ?_
  intro r3 s1 h2
  refine okI (fun c4 => ?_) (fun c4 => ?_)
  ·
    unfold f_X12_late_42
    exact okR h2
  ·
    refine okB (T_X12_isLate q h2 (Or.inl rfl)) ?_
    intro r7 s5 h6
    refine okI (fun c8 => ?_) (fun c8 => ?_)
    ·
      unfold f_X12_late_22
      refine okB (T_X12_isLate q h6 (Or.inr rfl)) ?_
      intro r11 s9 h10
      refine okI (fun c12 => ?_) (fun c12 => ?_)
      ·
        unfold f_X12_late_36
        unfold f_X12_late_42
        exact okR h10
      ·
        unfold f_X12_late_36
        unfold f_X12_late_42
        exact okR h10
    ·
      unfold f_X12_late_22
      refine okB (T_X12_isLate q h6 (Or.inr rfl)) ?_
      intro r15 s13 h14
      refine okI (fun c16 => ?_) (fun c16 => ?_)
      ·
        unfold f_X12_late_36
        unfold f_X12_late_42
        exact okR h14
      ·
        unfold f_X12_late_36
        unfold f_X12_late_42
        exact okR h14
theorem T_X12_wins {Z : St → Prop} {σ0 : St} {M T S E A U Y L P N : Nat} (q : QB Z σ0 M T S E A U Y L P N) {p0 : Int32} {s : St} (h : Z s) : Ok (fun _ s' => Z s') (f_X12_wins p0 s) := by
  have qM := q.b.hM
  have qT := q.b.hT
  have qS := q.b.S512
  have qE := q.b.hE
  have qA := q.b.hA
  have qU := q.b.hU
  have qY := q.b.hY
  have qA2 := q.b.A256
  have qU2 := q.b.U256
  unfold f_X12_wins
  refine okB (T_X12_areTrains q h) ?_
  intro r3 s1 h2
  refine okI (fun c4 => ?_) (fun c4 => ?_)
  ·
    unfold f_X12_wins_18
    exact okR h2
  ·
    refine okB (T_X12_winner q h2) ?_
    intro r7 s5 h6
    unfold f_X12_wins_18
    exact okR h6
theorem T_X12_peak {Z : St → Prop} {σ0 : St} {M T S E A U Y L P N : Nat} (q : QB Z σ0 M T S E A U Y L P N) {p0 p1 : Int32} {s : St} (h : Z s) : Ok (fun _ s' => Z s') (f_X12_peak p0 p1 s) := by
  have qM := q.b.hM
  unfold f_X12_peak f_X12_peak_16
  refine okB (T_X12_isSideR q h) ?_
  rintro r1 s1 ⟨h1, -⟩
  refine okI (fun _ => okR h1) (fun _ => ?_)
  refine okB (T_X12_areTrains q h1) ?_
  intro r2 s2 h2
  refine okI (fun _ => okR h2) (fun _ => ?_)
  refine okB (T_X12_lastFront q h2) ?_
  intro r3 s3 h3
  refine okC (fun (i : Nat) (x : Int32 × Int32 × Int32 × St) => x.2.2.1 = nI i ∧ (∃ k, k ≤ 60 ∧ x.2.1 = nI k) ∧ Z x.2.2.2) (M + 1) ?_ (i := 1) (by unfold FU; omega) (by omega) ⟨rfl, ⟨0, by omega, rfl⟩, h3⟩
  rintro i ⟨v1, v2, v3, s4⟩ K hi ⟨hv, ⟨k, hk, hw⟩, h4⟩ hK
  dsimp only at hv hw h4
  subst hv hw
  unfold g_X12_peak_30
  dsimp only
  refine okD rfl ?_
  refine okI (fun _ => okR h4) (fun c => ?_)
  replace c : i < M + 1 := cnt_lt (q.at' h4).mM (by omega) c hi
  refine okD (inb_ln (n := 61) rfl (by omega) (by omega)) ?_
  refine okB (T_X12_goodBy q h4) ?_
  intro r5 s5 h5
  refine okD (inb_ln (n := 61) rfl (by omega) (by omega)) ?_
  refine okB (T_X12_goodBy q h5) ?_
  intro r6 s6 h6
  unfold f_X12_peak_71
  exact okI (fun _ => hK _ c ⟨nI_1 _, ⟨k, hk, rfl⟩, h6⟩) (fun _ => hK _ c ⟨nI_1 _, ⟨i, by omega, rfl⟩, h6⟩)
theorem T_X12_swings {Z : St → Prop} {σ0 : St} {M T S E A U Y L P N : Nat} (q : QB Z σ0 M T S E A U Y L P N) {p0 : Int32} {s : St} (h : Z s) : Ok (fun _ s' => Z s') (f_X12_swings p0 s) := by
  have qM := q.b.hM
  have qT := q.b.hT
  have qS := q.b.S512
  have qE := q.b.hE
  have qA := q.b.hA
  have qU := q.b.hU
  have qY := q.b.hY
  have qA2 := q.b.A256
  have qU2 := q.b.U256
  unfold f_X12_swings
  refine okB (T_X12_areTrains q h) ?_
  intro r3 s1 h2
  refine okI (fun c4 => ?_) (fun c4 => ?_)
  ·
    exact okR h2
  ·
    refine okB (T_X12_lastFront q h2) ?_
    intro r7 s5 h6
    refine okC (fun (i : Nat) (x : Int32 × Int32 × Int32 × St) => x.2.2.1 = nI i ∧ Z x.2.2.2) (M + 1) ?_ (i := 1) (by unfold FU; omega) (by omega) ⟨rfl, h6⟩
    rintro i8 ⟨v15, v16, v17, s13⟩ K9 hi10 ⟨hv12, h14⟩ hK11
    dsimp only at hv12 h14
    subst hv12
    unfold g_X12_swings_24
    dsimp only
    refine okD rfl ?_
    refine okI (fun _ => ?_) (fun c18 => ?_)
    ·
      exact okR h14
    ·
      replace c18 : i8 < M + 1 := cnt_lt (q.at' h14).mM (by omega) c18 hi10
      refine okD (inb_ln (n := 61) rfl (by omega) (by omega)) ?_
      refine okI (fun c19 => ?_) (fun c19 => ?_)
      ·
        refine okD (inb_ln (n := 61) rfl (by omega) (by omega)) ?_
        refine okI (fun c20 => ?_) (fun c20 => ?_)
        ·
          unfold f_X12_swings_64
          refine okI (fun c21 => ?_) (fun c21 => ?_)
          ·
            unfold f_X12_swings_95
            refine okN ?_
            exact hK11 _ c18 ⟨nI_1 _, h14⟩
          ·
            refine okI (fun c22 => ?_) (fun c22 => ?_)
            ·
              unfold f_X12_swings_89
              unfold f_X12_swings_90
              refine okN ?_
              unfold f_X12_swings_95
              refine okN ?_
              exact hK11 _ c18 ⟨nI_1 _, h14⟩
            ·
              refine okI (fun c23 => ?_) (fun c23 => ?_)
              ·
                unfold f_X12_swings_89
                unfold f_X12_swings_90
                refine okN ?_
                unfold f_X12_swings_95
                refine okN ?_
                exact hK11 _ c18 ⟨nI_1 _, h14⟩
              ·
                unfold f_X12_swings_90
                refine okN ?_
                unfold f_X12_swings_95
                refine okN ?_
                exact hK11 _ c18 ⟨nI_1 _, h14⟩
        ·
          unfold f_X12_swings_64
          refine okI (fun c24 => ?_) (fun c24 => ?_)
          ·
            unfold f_X12_swings_95
            refine okN ?_
            exact hK11 _ c18 ⟨nI_1 _, h14⟩
          ·
            refine okI (fun c25 => ?_) (fun c25 => ?_)
            ·
              unfold f_X12_swings_89
              unfold f_X12_swings_90
              refine okN ?_
              unfold f_X12_swings_95
              refine okN ?_
              exact hK11 _ c18 ⟨nI_1 _, h14⟩
            ·
              refine okI (fun c26 => ?_) (fun c26 => ?_)
              ·
                unfold f_X12_swings_89
                unfold f_X12_swings_90
                refine okN ?_
                unfold f_X12_swings_95
                refine okN ?_
                exact hK11 _ c18 ⟨nI_1 _, h14⟩
              ·
                unfold f_X12_swings_90
                refine okN ?_
                unfold f_X12_swings_95
                refine okN ?_
                exact hK11 _ c18 ⟨nI_1 _, h14⟩
      ·
        unfold f_X12_swings_64
        refine okI (fun c27 => ?_) (fun c27 => ?_)
        ·
          unfold f_X12_swings_95
          refine okN ?_
          exact hK11 _ c18 ⟨nI_1 _, h14⟩
        ·
          refine okI (fun c28 => ?_) (fun c28 => ?_)
          ·
            unfold f_X12_swings_89
            unfold f_X12_swings_90
            refine okN ?_
            unfold f_X12_swings_95
            refine okN ?_
            exact hK11 _ c18 ⟨nI_1 _, h14⟩
          ·
            refine okI (fun c29 => ?_) (fun c29 => ?_)
            ·
              unfold f_X12_swings_89
              unfold f_X12_swings_90
              refine okN ?_
              unfold f_X12_swings_95
              refine okN ?_
              exact hK11 _ c18 ⟨nI_1 _, h14⟩
            ·
              unfold f_X12_swings_90
              refine okN ?_
              unfold f_X12_swings_95
              refine okN ?_
              exact hK11 _ c18 ⟨nI_1 _, h14⟩
theorem T_X12_since {Z : St → Prop} {σ0 : St} {M T S E A U Y L P N : Nat} (q : QB Z σ0 M T S E A U Y L P N) {p0 : Int32} {p1 : Int32} {s : St} (h : Z s) : Ok (fun _ s' => Z s') (f_X12_since p0 p1 s) := by
  have qM := q.b.hM
  have qT := q.b.hT
  have qS := q.b.S512
  have qE := q.b.hE
  have qA := q.b.hA
  have qU := q.b.hU
  have qY := q.b.hY
  have qA2 := q.b.A256
  have qU2 := q.b.U256
  unfold f_X12_since
  refine okB (T_X12_isSideR q h) ?_
  rintro r3 s1 ⟨h2, hq4⟩
  refine okI (fun c5 => ?_) (fun c5 => ?_)
  ·
    unfold f_X12_since_16
    exact okR h2
  ·
    have hs6 := hq4.resolve_left c5
    refine okB (T_X12_areTrains q h2) ?_
    intro r9 s7 h8
    refine okI (fun c10 => ?_) (fun c10 => ?_)
    ·
      unfold f_X12_since_16
      exact okR h8
    ·
      refine okC (fun (i : Nat) (x : Int32 × Int32 × Int32 × St) => x.2.2.1 = nI i ∧ SD x.1 ∧ Z x.2.2.2) 100 ?_ (i := 0) (by unfold FU; omega) (by omega) ⟨rfl, hs6, h8⟩
      rintro i11 ⟨v18, v19, v20, s16⟩ K12 hi13 ⟨hv15, hx21, h17⟩ hK14
      dsimp only at hv15 hx21 h17
      subst hv15
      unfold g_X12_since_21
      dsimp only
      refine okI (fun _ => ?_) (fun c22 => ?_)
      ·
        exact okR h17
      ·
        replace c22 : i11 < 100 := cnt_le rfl (by omega) c22 hi13
        refine okB (T_X12_menOf q h17) ?_
        intro r25 s23 h24
        refine okD (inb_sd hx21) ?_
        refine okI (fun c26 => ?_) (fun c26 => ?_)
        ·
          refine okN ?_
          exact hK14 _ c22 ⟨nI_1 _, hx21, h24⟩
        ·
          exact okR h24
theorem T_X12_comes {Z : St → Prop} {σ0 : St} {M T S E A U Y L P N : Nat} (q : QB Z σ0 M T S E A U Y L P N) {p0 : Int32} {p1 : Int32} {s : St} (h : Z s) : Ok (fun _ s' => Z s') (f_X12_comes p0 p1 s) := by
  have qM := q.b.hM
  have qT := q.b.hT
  have qS := q.b.S512
  have qE := q.b.hE
  have qA := q.b.hA
  have qU := q.b.hU
  have qY := q.b.hY
  have qA2 := q.b.A256
  have qU2 := q.b.U256
  unfold f_X12_comes
  refine okB (T_X12_isAny q h) ?_
  intro r3 s1 h2
  refine okI (fun c4 => ?_) (fun c4 => ?_)
  ·
    unfold f_X12_comes_15
    exact okR h2
  ·
    refine okB (T_X12_areTrains q h2) ?_
    intro r7 s5 h6
    refine okI (fun c8 => ?_) (fun c8 => ?_)
    ·
      unfold f_X12_comes_15
      exact okR h6
    ·
      refine okC (fun (i : Nat) (x : Int32 × Int32 × Int32 × Int32 × St) => x.2.2.2.1 = nI i ∧ Z x.2.2.2.2) T ?_ (i := 0) (by unfold FU; omega) (by omega) ⟨rfl, h6⟩
      rintro i9 ⟨v16, v17, v18, v19, s14⟩ K10 hi11 ⟨hv13, h15⟩ hK12
      dsimp only at hv13 h15
      subst hv13
      unfold g_X12_comes_23
      dsimp only
      refine okD rfl ?_
      refine okI (fun _ => ?_) (fun c20 => ?_)
      ·
        exact okR h15
      ·
        replace c20 : i9 < T := cnt_le (q.at' h15).mT (by omega) c20 hi11
        refine okB (T_X12_comesAt q h15 (by omega)) ?_
        intro r23 s21 h22
        refine okI (fun c24 => ?_) (fun c24 => ?_)
        ·
          unfold f_X12_comes_54
          refine okN ?_
          refine okN ?_
          exact hK12 _ c20 ⟨nI_1 _, h22⟩
        ·
          unfold f_X12_comes_54
          refine okN ?_
          refine okN ?_
          exact hK12 _ c20 ⟨nI_1 _, h22⟩
theorem T_X12_even {Z : St → Prop} {σ0 : St} {M T S E A U Y L P N : Nat} (q : QB Z σ0 M T S E A U Y L P N) {p0 : Int32} {s : St} (h : Z s) : Ok (fun _ s' => Z s') (f_X12_even p0 s) := by
  have qM := q.b.hM
  have qT := q.b.hT
  have qS := q.b.S512
  have qE := q.b.hE
  have qA := q.b.hA
  have qU := q.b.hU
  have qY := q.b.hY
  have qA2 := q.b.A256
  have qU2 := q.b.U256
  unfold f_X12_even
  refine okB (T_X12_areTrains q h) ?_
  intro r3 s1 h2
  refine okI (fun c4 => ?_) (fun c4 => ?_)
  ·
    exact okR h2
  ·
    refine okC (fun (i : Nat) (x : Int32 × Int64 × Int32 × St) => x.2.2.1 = nI i ∧ Z x.2.2.2) M ?_ (i := 0) (by unfold FU; omega) (by omega) ⟨rfl, h2⟩
    rintro i5 ⟨v12, v13, v14, s10⟩ K6 hi7 ⟨hv9, h11⟩ hK8
    dsimp only at hv9 h11
    subst hv9
    unfold g_X12_even_17
    dsimp only
    refine okD rfl ?_
    refine okI (fun _ => ?_) (fun c15 => ?_)
    ·
      exact okR h11
    ·
      replace c15 : i5 < M := cnt_le (q.at' h11).mM (by omega) c15 hi7
      refine okB (T_X12_menOf q h11) ?_
      intro r18 s16 h17
      refine okB (T_X12_menOf q h17) ?_
      intro r21 s19 h20
      refine okI (fun c22 => ?_) (fun c22 => ?_)
      ·
        unfold f_X12_even_56
        refine okN ?_
        refine okN ?_
        exact hK8 _ c15 ⟨nI_1 _, h20⟩
      ·
        unfold f_X12_even_56
        refine okN ?_
        refine okN ?_
        exact hK8 _ c15 ⟨nI_1 _, h20⟩
theorem T_X12_worstOf {Z : St → Prop} {σ0 : St} {M T S E A U Y L P N : Nat} (q : QB Z σ0 M T S E A U Y L P N) {p0 : Int32} {s : St} (h : Z s) : Ok (fun _ s' => Z s') (f_X12_worstOf p0 s) := by
  have qM := q.b.hM
  have qT := q.b.hT
  have qS := q.b.S512
  have qE := q.b.hE
  have qA := q.b.hA
  have qU := q.b.hU
  have qY := q.b.hY
  have qA2 := q.b.A256
  have qU2 := q.b.U256
  unfold f_X12_worstOf
  refine okZ (Z := Z) (q.1.2.2 _ _ _ h (by decide)) (fun s1 h2 => ?_)
  refine okC (fun (i : Nat) (x : Int32 × Int32 × Int32 × St) => x.2.2.1 = nI i ∧ Z x.2.2.2) ((S - 1) + 1) ?_ (i := 0) (by unfold FU; omega) (by omega) ⟨rfl, h2⟩
  rintro i3 ⟨v10, v11, v12, s8⟩ K4 hi5 ⟨hv7, h9⟩ hK6
  dsimp only at hv7 h9
  subst hv7
  unfold g_X12_worstOf_11
  dsimp only
  rw [Q_X12_allTrains q h9, bd_mk]
  refine okI (fun _ => ?_) (fun c13 => ?_)
  ·
    exact okR h9
  ·
    replace c13 : i3 < (S - 1) + 1 := cnt_lt rfl (by omega) c13 hi5
    refine okB (T_X12_lastFront q h9) ?_
    intro r16 s14 h15
    refine okB (T_X12_goodBy q h15) ?_
    intro r19 s17 h18
    refine okI (fun c20 => ?_) (fun c20 => ?_)
    ·
      unfold f_X12_worstOf_67
      refine okN ?_
      exact hK6 _ c13 ⟨nI_1 _, h18⟩
    ·
      refine okI (fun c21 => ?_) (fun c21 => ?_)
      ·
        refine okB (T_X12_bits q h18) ?_
        intro r24 s22 h23
        refine okB (T_X12_bits q h23) ?_
        intro r27 s25 h26
        refine okI (fun c28 => ?_) (fun c28 => ?_)
        ·
          unfold f_X12_worstOf_59
          refine okZ (Z := Z) (q.1.2.2 _ _ _ h26 (by decide)) (fun s29 h30 => ?_)
          unfold f_X12_worstOf_67
          refine okN ?_
          exact hK6 _ c13 ⟨nI_1 _, h30⟩
        ·
          unfold f_X12_worstOf_67
          refine okN ?_
          exact hK6 _ c13 ⟨nI_1 _, h26⟩
      ·
        unfold f_X12_worstOf_59
        refine okZ (Z := Z) (q.1.2.2 _ _ _ h18 (by decide)) (fun s31 h32 => ?_)
        unfold f_X12_worstOf_67
        refine okN ?_
        exact hK6 _ c13 ⟨nI_1 _, h32⟩
theorem T_X12_worst {Z : St → Prop} {σ0 : St} {M T S E A U Y L P N : Nat} (q : QB Z σ0 M T S E A U Y L P N) {p0 : Int32} {s : St} (h : Z s) : Ok (fun _ s' => Z s') (f_X12_worst p0 s) := by
  have qM := q.b.hM
  have qT := q.b.hT
  have qS := q.b.S512
  have qE := q.b.hE
  have qA := q.b.hA
  have qU := q.b.hU
  have qY := q.b.hY
  have qA2 := q.b.A256
  have qU2 := q.b.U256
  unfold f_X12_worst
  refine okB (T_X12_isSideR q h) ?_
  rintro r3 s1 ⟨h2, hq4⟩
  refine okI (fun c5 => ?_) (fun c5 => ?_)
  ·
    unfold f_X12_worst_19
    exact okR h2
  ·
    have hs6 := hq4.resolve_left c5
    refine okB (T_X12_worstOf q h2) ?_
    intro r9 s7 h8
    unfold f_X12_worst_19
    exact okR h8
theorem T_X12_by {Z : St → Prop} {σ0 : St} {M T S E A U Y L P N : Nat} (q : QB Z σ0 M T S E A U Y L P N) {p0 : Int32} {s : St} (h : Z s) : Ok (fun _ s' => Z s') (f_X12_by p0 s) := by
  have qM := q.b.hM
  have qT := q.b.hT
  have qS := q.b.S512
  have qE := q.b.hE
  have qA := q.b.hA
  have qU := q.b.hU
  have qY := q.b.hY
  have qA2 := q.b.A256
  have qU2 := q.b.U256
  unfold f_X12_by
  refine okB (T_X12_isSideR q h) ?_
  rintro r3 s1 ⟨h2, hq4⟩
  refine okI (fun c5 => ?_) (fun c5 => ?_)
  ·
    exact okR h2
  ·
    have hs6 := hq4.resolve_left c5
    refine okB (T_X12_worstOf q h2) ?_
    intro r9 s7 h8
    exact okR h8
theorem T_X12_ways {Z : St → Prop} {σ0 : St} {M T S E A U Y L P N : Nat} (q : QB Z σ0 M T S E A U Y L P N) {p0 : Int32} {s : St} (h : Z s) : Ok (fun _ s' => Z s') (f_X12_ways p0 s) := by
  have qM := q.b.hM
  have qT := q.b.hT
  have qS := q.b.S512
  have qE := q.b.hE
  have qA := q.b.hA
  have qU := q.b.hU
  have qY := q.b.hY
  have qA2 := q.b.A256
  have qU2 := q.b.U256
  unfold f_X12_ways
  refine okB (T_X12_isSideR q h) ?_
  rintro r3 s1 ⟨h2, hq4⟩
  refine okI (fun c5 => ?_) (fun c5 => ?_)
  ·
    exact okR h2
  ·
    have hs6 := hq4.resolve_left c5
    refine okC (fun (i : Nat) (x : Int32 × Int32 × Int32 × St) => x.2.2.1 = nI i ∧ SD x.1 ∧ Z x.2.2.2) ((S - 1) + 1) ?_ (i := 0) (by unfold FU; omega) (by omega) ⟨rfl, hs6, h2⟩
    rintro i7 ⟨v14, v15, v16, s12⟩ K8 hi9 ⟨hv11, hx17, h13⟩ hK10
    dsimp only at hv11 hx17 h13
    subst hv11
    unfold g_X12_ways_15
    dsimp only
    rw [Q_X12_allTrains q h13, bd_mk]
    refine okI (fun _ => ?_) (fun c18 => ?_)
    ·
      exact okR h13
    ·
      replace c18 : i7 < (S - 1) + 1 := cnt_lt rfl (by omega) c18 hi9
      refine okB (T_X12_winner q h13) ?_
      intro r21 s19 h20
      refine okI (fun c22 => ?_) (fun c22 => ?_)
      ·
        unfold f_X12_ways_38
        refine okN ?_
        refine okN ?_
        exact hK10 _ c18 ⟨nI_1 _, hx17, h20⟩
      ·
        unfold f_X12_ways_38
        refine okN ?_
        refine okN ?_
        exact hK10 _ c18 ⟨nI_1 _, hx17, h20⟩
theorem T_X12_idle {Z : St → Prop} {σ0 : St} {M T S E A U Y L P N : Nat} (q : QB Z σ0 M T S E A U Y L P N)  {s : St} (h : Z s) : Ok (fun _ s' => Z s') (f_X12_idle s) := by
  have qM := q.b.hM
  have qT := q.b.hT
  have qS := q.b.S512
  have qE := q.b.hE
  have qA := q.b.hA
  have qU := q.b.hU
  have qY := q.b.hY
  have qA2 := q.b.A256
  have qU2 := q.b.U256
  unfold f_X12_idle
  refine okB (T_X12_isWar q h) ?_
  intro r3 s1 h2
  refine okI (fun c4 => ?_) (fun c4 => ?_)
  ·
    exact okR h2
  ·
    rw [Q_X12_allTrains q h2, bd_mk]
    refine okC (fun (i : Nat) (x : Int32 × Int32 × St) => x.2.1 = nI i ∧ Z x.2.2) ((S - 1) + 1) ?_ (i := 0) (by unfold FU; omega) (by omega) ⟨rfl, h2⟩
    rintro i5 ⟨v12, v13, s10⟩ K6 hi7 ⟨hv9, h11⟩ hK8
    dsimp only at hv9 h11
    subst hv9
    unfold g_X12_idle_17
    dsimp only
    rw [Q_X12_allTrains q h11, bd_mk]
    refine okI (fun _ => ?_) (fun c14 => ?_)
    ·
      refine okC (fun (i : Nat) (x : Int32 × Int32 × St) => x.2.1 = nI i ∧ Z x.2.2) ((S - 1) + 1) ?_ (i := 0) (by unfold FU; omega) (by omega) ⟨rfl, h11⟩
      rintro i15 ⟨v22, v23, s20⟩ K16 hi17 ⟨hv19, h21⟩ hK18
      dsimp only at hv19 h21
      subst hv19
      unfold g_X12_idle_44
      dsimp only
      rw [Q_X12_allTrains q h21, bd_mk]
      refine okI (fun _ => ?_) (fun c24 => ?_)
      ·
        exact okR h21
      ·
        replace c24 : i15 < (S - 1) + 1 := cnt_lt rfl (by omega) c24 hi17
        refine okC (fun (i : Nat) (x : Int32 × Int32 × Int32 × St) => x.2.2.1 = nI i ∧ x.2.1 = nI i15 ∧ Z x.2.2.2) T ?_ (i := 0) (by unfold FU; omega) (by omega) ⟨rfl, rfl, h21⟩
        rintro i25 ⟨v32, v33, v34, s30⟩ K26 hi27 ⟨hv29, hx35, h31⟩ hK28
        dsimp only at hv29 hx35 h31
        subst hv29 hx35
        unfold g_X12_idle_54
        dsimp only
        refine okD rfl ?_
        refine okI (fun _ => ?_) (fun c36 => ?_)
        ·
          refine okN ?_
          exact hK18 _ c24 ⟨nI_1 _, h31⟩
        ·
          replace c36 : i25 < T := cnt_le (q.at' h31).mT (by omega) c36 hi27
          refine okD (inb_ln (n := 512) rfl (by omega) (by omega)) ?_
          refine okD (inb_xs rfl (by omega) (by omega)) ?_
          refine okI (fun c37 => ?_) (fun c37 => ?_)
          ·
            unfold f_X12_idle_91
            refine okN ?_
            exact hK28 _ c36 ⟨nI_1 _, rfl, h31⟩
          ·
            refine okN ?_
            unfold f_X12_idle_91
            refine okN ?_
            exact hK28 _ c36 ⟨nI_1 _, rfl, h31⟩
    ·
      replace c14 : i5 < (S - 1) + 1 := cnt_lt rfl (by omega) c14 hi7
      refine okB (T_X12_winner q h11) ?_
      intro r40 s38 h39
      refine okD (inb_ln (n := 512) rfl (by omega) (by omega)) ?_
      refine okZ (Z := Z) (q.1.2.1 _ _ _ h39 (by decide)) (fun s41 h42 => ?_)
      refine okN ?_
      exact hK8 _ c14 ⟨nI_1 _, h42⟩
theorem T_X12_oftenOf {Z : St → Prop} {σ0 : St} {M T S E A U Y L P N : Nat} (q : QB Z σ0 M T S E A U Y L P N) {p0 : Int32} {s : St} (h : Z s) : Ok (fun _ s' => Z s') (f_X12_oftenOf p0 s) := by
  have qM := q.b.hM
  have qT := q.b.hT
  have qS := q.b.S512
  have qE := q.b.hE
  have qA := q.b.hA
  have qU := q.b.hU
  have qY := q.b.hY
  have qA2 := q.b.A256
  have qU2 := q.b.U256
  unfold f_X12_oftenOf
  refine okC (fun (i : Nat) (x : Int32 × Int64 × Int32 × St) => x.2.2.1 = nI i ∧ Z x.2.2.2) T ?_ (i := 0) (by unfold FU; omega) (by omega) ⟨rfl, h⟩
  rintro i1 ⟨v8, v9, v10, s6⟩ K2 hi3 ⟨hv5, h7⟩ hK4
  dsimp only at hv5 h7
  subst hv5
  unfold g_X12_oftenOf_5
  dsimp only
  refine okD rfl ?_
  refine okI (fun _ => ?_) (fun c11 => ?_)
  ·
    exact okR h7
  ·
    replace c11 : i1 < T := cnt_le (q.at' h7).mT (by omega) c11 hi3
    refine okB (T_X12_bit q h7) ?_
    intro r14 s12 h13
    refine okI (fun c15 => ?_) (fun c15 => ?_)
    ·
      refine okB (T_X12_of q h13 (j := 3) (by omega) (by omega)) ?_
      intro r18 s16 h17
      unfold f_X12_oftenOf_49
      refine okN ?_
      refine okN ?_
      exact hK4 _ c11 ⟨nI_1 _, h17⟩
    ·
      refine okB (T_X12_of q h13 (j := 3) (by omega) (by omega)) ?_
      intro r21 s19 h20
      unfold f_X12_oftenOf_49
      refine okN ?_
      refine okN ?_
      exact hK4 _ c11 ⟨nI_1 _, h20⟩
theorem T_X12_enough {Z : St → Prop} {σ0 : St} {M T S E A U Y L P N : Nat} (q : QB Z σ0 M T S E A U Y L P N) {p0 : Int32} {p1 : Int32} {s : St} (h : Z s) : Ok (fun _ s' => Z s') (f_X12_enough p0 p1 s) := by
  have qM := q.b.hM
  have qT := q.b.hT
  have qS := q.b.S512
  have qE := q.b.hE
  have qA := q.b.hA
  have qU := q.b.hU
  have qY := q.b.hY
  have qA2 := q.b.A256
  have qU2 := q.b.U256
  unfold f_X12_enough
  refine okB (T_X12_isSideR q h) ?_
  rintro r3 s1 ⟨h2, hq4⟩
  refine okI (fun c5 => ?_) (fun c5 => ?_)
  ·
    unfold f_X12_enough_18
    exact okR h2
  ·
    have hs6 := hq4.resolve_left c5
    refine okB (T_X12_in q h2) ?_
    intro r9 s7 h8
    refine okI (fun c10 => ?_) (fun c10 => ?_)
    ·
      unfold f_X12_enough_18
      exact okR h8
    ·
      refine okC (fun (i : Nat) (x : Int32 × Int32 × Int64 × Int32 × St) => x.2.2.2.1 = nI i ∧ SD x.1 ∧ Z x.2.2.2.2) ((S - 1) + 1) ?_ (i := 0) (by unfold FU; omega) (by omega) ⟨rfl, hs6, h8⟩
      rintro i11 ⟨v18, v19, v20, v21, s16⟩ K12 hi13 ⟨hv15, hx22, h17⟩ hK14
      dsimp only at hv15 hx22 h17
      subst hv15
      unfold g_X12_enough_27
      dsimp only
      rw [Q_X12_allTrains q h17, bd_mk]
      refine okI (fun _ => ?_) (fun c23 => ?_)
      ·
        refine okB (T_X12_allOftenR q h17) ?_
        rintro r26 s24 ⟨h25, hne⟩
        refine okB (T_X12_part q h25 hne) ?_
        intro r29 s27 h28
        exact okR h28
      ·
        replace c23 : i11 < (S - 1) + 1 := cnt_lt rfl (by omega) c23 hi13
        refine okB (T_X12_isLate q h17 hx22) ?_
        intro r32 s30 h31
        refine okI (fun c33 => ?_) (fun c33 => ?_)
        ·
          refine okB (T_X12_oftenOf q h31) ?_
          intro r36 s34 h35
          unfold f_X12_enough_57
          refine okN ?_
          refine okN ?_
          exact hK14 _ c23 ⟨nI_1 _, hx22, h35⟩
        ·
          unfold f_X12_enough_57
          refine okN ?_
          refine okN ?_
          exact hK14 _ c23 ⟨nI_1 _, hx22, h31⟩
theorem T_X12_chance {Z : St → Prop} {σ0 : St} {M T S E A U Y L P N : Nat} (q : QB Z σ0 M T S E A U Y L P N) {p0 : Int32} {p1 : Int32} {s : St} (h : Z s) : Ok (fun _ s' => Z s') (f_X12_chance p0 p1 s) := by
  have qM := q.b.hM
  have qT := q.b.hT
  have qS := q.b.S512
  have qE := q.b.hE
  have qA := q.b.hA
  have qU := q.b.hU
  have qY := q.b.hY
  have qA2 := q.b.A256
  have qU2 := q.b.U256
  unfold f_X12_chance
  refine okB (T_X12_isSideR q h) ?_
  rintro r3 s1 ⟨h2, hq4⟩
  refine okI (fun c5 => ?_) (fun c5 => ?_)
  ·
    unfold f_X12_chance_18
    exact okR h2
  ·
    have hs6 := hq4.resolve_left c5
    refine okB (T_X12_in q h2) ?_
    intro r9 s7 h8
    refine okI (fun c10 => ?_) (fun c10 => ?_)
    ·
      unfold f_X12_chance_18
      exact okR h8
    ·
      refine okC (fun (i : Nat) (x : Int32 × Int32 × Int64 × Int32 × St) => x.2.2.2.1 = nI i ∧ SD x.1 ∧ Z x.2.2.2.2) ((S - 1) + 1) ?_ (i := 0) (by unfold FU; omega) (by omega) ⟨rfl, hs6, h8⟩
      rintro i11 ⟨v18, v19, v20, v21, s16⟩ K12 hi13 ⟨hv15, hx22, h17⟩ hK14
      dsimp only at hv15 hx22 h17
      subst hv15
      unfold g_X12_chance_27
      dsimp only
      rw [Q_X12_allTrains q h17, bd_mk]
      refine okI (fun _ => ?_) (fun c23 => ?_)
      ·
        refine okB (T_X12_allOftenR q h17) ?_
        rintro r26 s24 ⟨h25, hne⟩
        refine okB (T_X12_part q h25 hne) ?_
        intro r29 s27 h28
        exact okR h28
      ·
        replace c23 : i11 < (S - 1) + 1 := cnt_lt rfl (by omega) c23 hi13
        refine okB (T_X12_winner q h17) ?_
        intro r32 s30 h31
        refine okI (fun c33 => ?_) (fun c33 => ?_)
        ·
          refine okB (T_X12_oftenOf q h31) ?_
          intro r36 s34 h35
          unfold f_X12_chance_57
          refine okN ?_
          refine okN ?_
          exact hK14 _ c23 ⟨nI_1 _, hx22, h35⟩
        ·
          unfold f_X12_chance_57
          refine okN ?_
          refine okN ?_
          exact hK14 _ c23 ⟨nI_1 _, hx22, h31⟩
theorem T_X12_menSent {Z : St → Prop} {σ0 : St} {M T S E A U Y L P N : Nat} (q : QB Z σ0 M T S E A U Y L P N) {p0 : Int32} {p1 : Int32} {s : St} (h : Z s) : Ok (fun _ s' => Z s') (f_X12_menSent p0 p1 s) := by
  have qM := q.b.hM
  have qT := q.b.hT
  have qS := q.b.S512
  have qE := q.b.hE
  have qA := q.b.hA
  have qU := q.b.hU
  have qY := q.b.hY
  have qA2 := q.b.A256
  have qU2 := q.b.U256
  unfold f_X12_menSent
  refine okC (fun (i : Nat) (x : Int32 × Int32 × Int32 × Int32 × St) => x.2.2.2.1 = nI i ∧ Z x.2.2.2.2) T ?_ (i := 0) (by unfold FU; omega) (by omega) ⟨rfl, h⟩
  rintro i1 ⟨v8, v9, v10, v11, s6⟩ K2 hi3 ⟨hv5, h7⟩ hK4
  dsimp only at hv5 h7
  subst hv5
  unfold g_X12_menSent_5
  dsimp only
  refine okD rfl ?_
  refine okI (fun _ => ?_) (fun c12 => ?_)
  ·
    exact okR h7
  ·
    replace c12 : i1 < T := cnt_le (q.at' h7).mT (by omega) c12 hi3
    refine okB (T_X12_bit q h7) ?_
    intro r15 s13 h14
    refine okI (fun c16 => ?_) (fun c16 => ?_)
    ·
      refine okB (T_X12_comesAt q h14 (by omega)) ?_
      intro r19 s17 h18
      refine okD rfl ?_
      refine okI (fun c20 => ?_) (fun c20 => ?_)
      ·
        unfold f_X12_menSent_53
        unfold f_X12_menSent_54
        refine okN ?_
        refine okN ?_
        exact hK4 _ c12 ⟨nI_1 _, h18⟩
      ·
        refine okB (T_X12_of q h18 (j := 1) (by omega) (by omega)) ?_
        intro r23 s21 h22
        unfold f_X12_menSent_54
        refine okN ?_
        refine okN ?_
        exact hK4 _ c12 ⟨nI_1 _, h22⟩
    ·
      unfold f_X12_menSent_53
      unfold f_X12_menSent_54
      refine okN ?_
      refine okN ?_
      exact hK4 _ c12 ⟨nI_1 _, h14⟩
theorem T_X12_isSurely {Z : St → Prop} {σ0 : St} {M T S E A U Y L P N : Nat} (q : QB Z σ0 M T S E A U Y L P N) {p0 : Int32} {p1 : Int32} {s : St} (h : Z s) (hp : SD p0) : Ok (fun _ s' => Z s') (f_X12_isSurely p0 p1 s) := by
  have qM := q.b.hM
  have qT := q.b.hT
  have qS := q.b.S512
  have qE := q.b.hE
  have qA := q.b.hA
  have qU := q.b.hU
  have qY := q.b.hY
  have qA2 := q.b.A256
  have qU2 := q.b.U256
  unfold f_X12_isSurely
  rw [Q_X12_allTrains q h, bd_mk]
  refine okB (T_X12_menSent q h) ?_
  intro r3 s1 h2
  refine okD (inb_sd hp) ?_
  refine okI (fun c4 => ?_) (fun c4 => ?_)
  ·
    unfold f_X12_isSurely_26
    refine okD rfl ?_
    exact okR h2
  ·
    unfold f_X12_isSurely_26
    refine okD rfl ?_
    exact okR h2
theorem T_X12_take {Z : St → Prop} {σ0 : St} {M T S E A U Y L P N : Nat} (q : QB Z σ0 M T S E A U Y L P N) {p0 : Int32} {p1 : Int32} {s : St} (h : Z s) : Ok (fun _ s' => Z s') (f_X12_take p0 p1 s) := by
  have qM := q.b.hM
  have qT := q.b.hT
  have qS := q.b.S512
  have qE := q.b.hE
  have qA := q.b.hA
  have qU := q.b.hU
  have qY := q.b.hY
  have qA2 := q.b.A256
  have qU2 := q.b.U256
  unfold f_X12_take
  refine okI (fun c1 => ?_) (fun c1 => ?_)
  ·
    unfold f_X12_take_17
    refine okZ (Z := Z) (q.1.2.2 _ _ _ h (by decide)) (fun s2 h3 => ?_)
    refine okZ (Z := Z) (q.1.2.2 _ _ _ h3 (by decide)) (fun s4 h5 => ?_)
    exact okR h5
  ·
    refine okI (fun c6 => ?_) (fun c6 => ?_)
    ·
      unfold f_X12_take_17
      refine okZ (Z := Z) (q.1.2.2 _ _ _ h (by decide)) (fun s7 h8 => ?_)
      refine okZ (Z := Z) (q.1.2.2 _ _ _ h8 (by decide)) (fun s9 h10 => ?_)
      exact okR h10
    ·
      exact okR h
theorem T_X12_orNone {Z : St → Prop} {σ0 : St} {M T S E A U Y L P N : Nat} (q : QB Z σ0 M T S E A U Y L P N)  {s : St} (h : Z s) : Ok (fun _ s' => Z s') (f_X12_orNone s) := by
  have qM := q.b.hM
  have qT := q.b.hT
  have qS := q.b.S512
  have qE := q.b.hE
  have qA := q.b.hA
  have qU := q.b.hU
  have qY := q.b.hY
  have qA2 := q.b.A256
  have qU2 := q.b.U256
  unfold f_X12_orNone
  refine okI (fun c1 => ?_) (fun c1 => ?_)
  ·
    unfold f_X12_orNone_16
    exact okR h
  ·
    unfold f_X12_orNone_16
    exact okR h
theorem T_X12_findSend {Z : St → Prop} {σ0 : St} {M T S E A U Y L P N : Nat} (q : QB Z σ0 M T S E A U Y L P N) {p0 p1 : Int32} {s : St} (h : Z s) (hp : SD p0) : Ok (fun _ s' => Z s') (f_X12_findSend p0 p1 s) := by
  unfold f_X12_findSend
  refine okZ (Z := Z) (q.1.2.2 _ _ _ h (by decide)) (fun s0 h0 => ?_)
  refine okB (T_X12_trainsOfR q h0) ?_
  rintro _ s1 ⟨h1, k, hk, rfl⟩
  refine okC (fun (i : Nat) (x : Int32 × Int32 × Int32 × Int32 × St) => x.2.2.2.1 = nI i ∧ x.2.2.1 = nI k ∧ SD x.1 ∧ Z x.2.2.2.2) (k + 1) ?_ (i := 0) (by unfold FU; omega) (by omega) ⟨rfl, rfl, hp, h1⟩
  rintro i ⟨v1, v2, v3, v4, s2⟩ K hi ⟨hv, hw, hsd, h2⟩ hK
  dsimp only at hv hw hsd h2
  subst hv hw
  unfold g_X12_findSend_14
  dsimp only
  refine okI (fun _ => okR h2) (fun c => ?_)
  replace c : i < k + 1 := cnt_lt rfl (by omega) c hi
  have key : ∀ s3, Z s3 → Ok (fun _ s' => Z s') (f_X12_findSend_63 K v1 v2 (nI k) (nI i) s3) := by
    intro s3 h3
    unfold f_X12_findSend_63
    exact hK _ c ⟨nI_1 _, rfl, hsd, h3⟩
  have key2 : ∀ k0 s3, Z s3 → Ok (fun _ s' => Z s') (f_X12_findSend_58 K v1 v2 (nI k) (nI i) k0 s3) := by
    intro k0 s3 h3
    unfold f_X12_findSend_58
    refine okB (T_X12_take q h3) ?_
    intro r4 s4 h4
    exact key _ h4
  refine okI (fun _ => ?_) (fun _ => key _ h2)
  refine okB (T_X12_isSurely q h2 hsd) ?_
  intro r3 s3 h3
  refine okI (fun _ => key _ h3) (fun _ => ?_)
  refine okI (fun _ => ?_) (fun _ => ?_)
  · refine okB (T_X12_bits q h3) ?_
    intro r4 s4 h4
    exact key2 _ _ h4
  · refine okB (T_X12_priceOf q h3) ?_
    intro r4 s4 h4
    exact key2 _ _ h4
theorem T_X12_send {Z : St → Prop} {σ0 : St} {M T S E A U Y L P N : Nat} (q : QB Z σ0 M T S E A U Y L P N) {p0 : Int32} {s : St} (h : Z s) : Ok (fun _ s' => Z s') (f_X12_send p0 s) := by
  have qM := q.b.hM
  have qT := q.b.hT
  have qS := q.b.S512
  have qE := q.b.hE
  have qA := q.b.hA
  have qU := q.b.hU
  have qY := q.b.hY
  have qA2 := q.b.A256
  have qU2 := q.b.U256
  unfold f_X12_send
  refine okB (T_X12_isSideR q h) ?_
  rintro r3 s1 ⟨h2, hq4⟩
  refine okI (fun c5 => ?_) (fun c5 => ?_)
  ·
    exact okR h2
  ·
    have hs6 := hq4.resolve_left c5
    refine okB (T_X12_findSend q h2 hs6) ?_
    intro r9 s7 h8
    refine okB (T_X12_orNone q h8) ?_
    intro r12 s10 h11
    exact okR h11
theorem T_X12_sent {Z : St → Prop} {σ0 : St} {M T S E A U Y L P N : Nat} (q : QB Z σ0 M T S E A U Y L P N) {p0 : Int32} {s : St} (h : Z s) : Ok (fun _ s' => Z s') (f_X12_sent p0 s) := by
  have qM := q.b.hM
  have qT := q.b.hT
  have qS := q.b.S512
  have qE := q.b.hE
  have qA := q.b.hA
  have qU := q.b.hU
  have qY := q.b.hY
  have qA2 := q.b.A256
  have qU2 := q.b.U256
  unfold f_X12_sent
  refine okB (T_X12_isSideR q h) ?_
  rintro r3 s1 ⟨h2, hq4⟩
  refine okI (fun c5 => ?_) (fun c5 => ?_)
  ·
    exact okR h2
  ·
    have hs6 := hq4.resolve_left c5
    refine okB (T_X12_findSend q h2 hs6) ?_
    intro r9 s7 h8
    exact okR h8
theorem T_X12_fewest {Z : St → Prop} {σ0 : St} {M T S E A U Y L P N : Nat} (q : QB Z σ0 M T S E A U Y L P N) {p0 : Int32} {s : St} (h : Z s) : Ok (fun _ s' => Z s') (f_X12_fewest p0 s) := by
  have qM := q.b.hM
  have qT := q.b.hT
  have qS := q.b.S512
  have qE := q.b.hE
  have qA := q.b.hA
  have qU := q.b.hU
  have qY := q.b.hY
  have qA2 := q.b.A256
  have qU2 := q.b.U256
  unfold f_X12_fewest
  refine okB (T_X12_isSideR q h) ?_
  rintro r3 s1 ⟨h2, hq4⟩
  refine okI (fun c5 => ?_) (fun c5 => ?_)
  ·
    exact okR h2
  ·
    have hs6 := hq4.resolve_left c5
    refine okB (T_X12_findSend q h2 hs6) ?_
    intro r9 s7 h8
    refine okB (T_X12_orNone q h8) ?_
    intro r12 s10 h11
    exact okR h11
theorem T_X12_enoughBy {Z : St → Prop} {σ0 : St} {M T S E A U Y L P N : Nat} (q : QB Z σ0 M T S E A U Y L P N) {p0 : Int32} {p1 : Int32} {s : St} (h : Z s) (hp : SD p0) : Ok (fun _ s' => Z s') (f_X12_enoughBy p0 p1 s) := by
  have qM := q.b.hM
  have qT := q.b.hT
  have qS := q.b.S512
  have qE := q.b.hE
  have qA := q.b.hA
  have qU := q.b.hU
  have qY := q.b.hY
  have qA2 := q.b.A256
  have qU2 := q.b.U256
  unfold f_X12_enoughBy
  refine okC (fun (i : Nat) (x : Int32 × Int32 × Int64 × Int32 × St) => x.2.2.2.1 = nI i ∧ SD x.1 ∧ Z x.2.2.2.2) ((S - 1) + 1) ?_ (i := 0) (by unfold FU; omega) (by omega) ⟨rfl, hp, h⟩
  rintro i1 ⟨v8, v9, v10, v11, s6⟩ K2 hi3 ⟨hv5, hx12, h7⟩ hK4
  dsimp only at hv5 hx12 h7
  subst hv5
  unfold g_X12_enoughBy_5
  dsimp only
  rw [Q_X12_allTrains q h7, bd_mk]
  refine okI (fun _ => ?_) (fun c13 => ?_)
  ·
    exact okR h7
  ·
    replace c13 : i1 < (S - 1) + 1 := cnt_lt rfl (by omega) c13 hi3
    refine okB (T_X12_menSent q h7) ?_
    intro r16 s14 h15
    refine okD (inb_sd hx12) ?_
    refine okI (fun c17 => ?_) (fun c17 => ?_)
    ·
      unfold f_X12_enoughBy_44
      refine okN ?_
      refine okN ?_
      exact hK4 _ c13 ⟨nI_1 _, hx12, h15⟩
    ·
      refine okB (T_X12_oftenOf q h15) ?_
      intro r20 s18 h19
      unfold f_X12_enoughBy_44
      refine okN ?_
      refine okN ?_
      exact hK4 _ c13 ⟨nI_1 _, hx12, h19⟩
theorem T_X12_isOften {Z : St → Prop} {σ0 : St} {M T S E A U Y L P N : Nat} (q : QB Z σ0 M T S E A U Y L P N) {p0 : Int64} {p1 : Int32} {s : St} (h : Z s) : Ok (fun _ s' => Z s') (f_X12_isOften p0 p1 s) := by
  have qM := q.b.hM
  have qT := q.b.hT
  have qS := q.b.S512
  have qE := q.b.hE
  have qA := q.b.hA
  have qU := q.b.hU
  have qY := q.b.hY
  have qA2 := q.b.A256
  have qU2 := q.b.U256
  unfold f_X12_isOften
  refine okD rfl ?_
  refine okI (fun c1 => ?_) (fun c1 => ?_)
  ·
    refine okI (fun c2 => ?_) (fun c2 => ?_)
    ·
      unfold f_X12_isOften_49
      refine okD rfl ?_
      exact okR h
    ·
      unfold f_X12_isOften_49
      refine okD rfl ?_
      exact okR h
  ·
    refine okB (T_X12_allOften q h) ?_
    intro r5 s3 h4
    refine okI (fun c6 => ?_) (fun c6 => ?_)
    ·
      unfold f_X12_isOften_49
      refine okD rfl ?_
      exact okR h4
    ·
      unfold f_X12_isOften_49
      refine okD rfl ?_
      exact okR h4
theorem T_X12_findRisk {Z : St → Prop} {σ0 : St} {M T S E A U Y L P N : Nat} (q : QB Z σ0 M T S E A U Y L P N) {p0 p1 : Int32} {s : St} (h : Z s) (hp : SD p0) : Ok (fun _ s' => Z s') (f_X12_findRisk p0 p1 s) := by
  unfold f_X12_findRisk
  refine okZ (Z := Z) (q.1.2.2 _ _ _ h (by decide)) (fun s0 h0 => ?_)
  refine okB (T_X12_trainsOfR q h0) ?_
  rintro _ s1 ⟨h1, k, hk, rfl⟩
  refine okC (fun (i : Nat) (x : Int32 × Int32 × Int32 × Int32 × St) => x.2.2.2.1 = nI i ∧ x.2.2.1 = nI k ∧ SD x.1 ∧ Z x.2.2.2.2) (k + 1) ?_ (i := 0) (by unfold FU; omega) (by omega) ⟨rfl, rfl, hp, h1⟩
  rintro i ⟨v1, v2, v3, v4, s2⟩ K hi ⟨hv, hw, hsd, h2⟩ hK
  dsimp only at hv hw hsd h2
  subst hv hw
  unfold g_X12_findRisk_14
  dsimp only
  refine okI (fun _ => okR h2) (fun c => ?_)
  replace c : i < k + 1 := cnt_lt rfl (by omega) c hi
  have key : ∀ s3, Z s3 → Ok (fun _ s' => Z s') (f_X12_findRisk_77 K v1 v2 (nI k) (nI i) s3) := by
    intro s3 h3
    unfold f_X12_findRisk_77
    exact hK _ c ⟨nI_1 _, rfl, hsd, h3⟩
  have key2 : ∀ s3, Z s3 → Ok (fun _ s' => Z s') (f_X12_findRisk_50 K v1 v2 (nI k) (nI i) s3) := by
    intro s3 h3
    unfold f_X12_findRisk_50
    refine okB (T_X12_enoughBy q h3 hsd) ?_
    intro r4 s4 h4
    refine okB (T_X12_isOften q h4) ?_
    intro r5 s5 h5
    refine okI (fun _ => key _ h5) (fun _ => ?_)
    refine okB (T_X12_priceOf q h5) ?_
    intro r6 s6 h6
    refine okB (T_X12_take q h6) ?_
    intro r7 s7 h7
    exact key _ h7
  refine okI (fun _ => ?_) (fun _ => key _ h2)
  refine okI (fun _ => key2 _ h2) (fun _ => ?_)
  refine okB (T_X12_priceOf q h2) ?_
  intro r3 s3 h3
  exact okI (fun _ => key _ h3) (fun _ => key2 _ h3)
theorem T_X12_risk {Z : St → Prop} {σ0 : St} {M T S E A U Y L P N : Nat} (q : QB Z σ0 M T S E A U Y L P N) {p0 : Int32} {p1 : Int32} {s : St} (h : Z s) : Ok (fun _ s' => Z s') (f_X12_risk p0 p1 s) := by
  have qM := q.b.hM
  have qT := q.b.hT
  have qS := q.b.S512
  have qE := q.b.hE
  have qA := q.b.hA
  have qU := q.b.hU
  have qY := q.b.hY
  have qA2 := q.b.A256
  have qU2 := q.b.U256
  unfold f_X12_risk
  refine okB (T_X12_isSideR q h) ?_
  rintro r3 s1 ⟨h2, hq4⟩
  refine okI (fun c5 => ?_) (fun c5 => ?_)
  ·
    unfold f_X12_risk_20
    exact okR h2
  ·
    have hs6 := hq4.resolve_left c5
    refine okB (T_X12_in q h2) ?_
    intro r9 s7 h8
    refine okI (fun c10 => ?_) (fun c10 => ?_)
    ·
      unfold f_X12_risk_20
      exact okR h8
    ·
      refine okB (T_X12_findRisk q h8 hs6) ?_
      intro r13 s11 h12
      refine okB (T_X12_orNone q h12) ?_
      intro r16 s14 h15
      exact okR h15
theorem T_X12_risked {Z : St → Prop} {σ0 : St} {M T S E A U Y L P N : Nat} (q : QB Z σ0 M T S E A U Y L P N) {p0 : Int32} {p1 : Int32} {s : St} (h : Z s) : Ok (fun _ s' => Z s') (f_X12_risked p0 p1 s) := by
  have qM := q.b.hM
  have qT := q.b.hT
  have qS := q.b.S512
  have qE := q.b.hE
  have qA := q.b.hA
  have qU := q.b.hU
  have qY := q.b.hY
  have qA2 := q.b.A256
  have qU2 := q.b.U256
  unfold f_X12_risked
  refine okB (T_X12_isSideR q h) ?_
  rintro r3 s1 ⟨h2, hq4⟩
  refine okI (fun c5 => ?_) (fun c5 => ?_)
  ·
    unfold f_X12_risked_20
    exact okR h2
  ·
    have hs6 := hq4.resolve_left c5
    refine okB (T_X12_in q h2) ?_
    intro r9 s7 h8
    refine okI (fun c10 => ?_) (fun c10 => ?_)
    ·
      unfold f_X12_risked_20
      exact okR h8
    ·
      refine okB (T_X12_findRisk q h8 hs6) ?_
      intro r13 s11 h12
      exact okR h12
theorem T_X12_findBribe {Z : St → Prop} {σ0 : St} {M T S E A U Y L P N : Nat} (q : QB Z σ0 M T S E A U Y L P N) {p0 p1 : Int32} {s : St} (h : Z s) (hp : SD p0) : Ok (fun _ s' => Z s') (f_X12_findBribe p0 p1 s) := by
  unfold f_X12_findBribe
  refine okZ (Z := Z) (q.1.2.2 _ _ _ h (by decide)) (fun s0 h0 => ?_)
  refine okB (T_X12_trainsOfR q h0) ?_
  rintro _ s1 ⟨h1, k', hk', rfl⟩
  obtain ⟨k, hk, e⟩ := and_lt (i := k') (p1 ^^^ (-1 : Int32)) hk' (by omega)
  rw [bnd_mk, e]
  refine okC (fun (i : Nat) (x : Int32 × Int32 × Int32 × St) => x.2.2.1 = nI i ∧ x.2.1 = nI k ∧ SD x.1 ∧ Z x.2.2.2) (k + 1) ?_ (i := 0) (by unfold FU; omega) (by omega) ⟨rfl, rfl, hp, h1⟩
  rintro i ⟨v1, v3, v4, s2⟩ K hi ⟨hv, hw, hsd, h2⟩ hK
  dsimp only at hv hw hsd h2
  subst hv hw
  unfold g_X12_findBribe_18
  dsimp only
  refine okI (fun _ => okR h2) (fun c => ?_)
  replace c : i < k + 1 := cnt_lt rfl (by omega) c hi
  have key : ∀ s3, Z s3 → Ok (fun _ s' => Z s') (f_X12_findBribe_55 K v1 (nI k) (nI i) s3) := by
    intro s3 h3
    unfold f_X12_findBribe_55
    exact hK _ c ⟨nI_1 _, rfl, hsd, h3⟩
  refine okI (fun _ => ?_) (fun _ => key _ h2)
  refine okB (T_X12_isLate q h2 hsd) ?_
  intro r3 s3 h3
  refine okI (fun _ => key _ h3) (fun _ => ?_)
  refine okB (T_X12_priceOf q h3) ?_
  intro r4 s4 h4
  refine okB (T_X12_take q h4) ?_
  intro r5 s5 h5
  exact key _ h5
theorem T_X12_bribe {Z : St → Prop} {σ0 : St} {M T S E A U Y L P N : Nat} (q : QB Z σ0 M T S E A U Y L P N) {p0 : Int32} {s : St} (h : Z s) : Ok (fun _ s' => Z s') (f_X12_bribe p0 s) := by
  have qM := q.b.hM
  have qT := q.b.hT
  have qS := q.b.S512
  have qE := q.b.hE
  have qA := q.b.hA
  have qU := q.b.hU
  have qY := q.b.hY
  have qA2 := q.b.A256
  have qU2 := q.b.U256
  unfold f_X12_bribe
  refine okB (T_X12_isSideR q h) ?_
  rintro r3 s1 ⟨h2, hq4⟩
  refine okI (fun c5 => ?_) (fun c5 => ?_)
  ·
    exact okR h2
  ·
    have hs6 := hq4.resolve_left c5
    refine okB (T_X12_findBribe q h2 hs6) ?_
    intro r9 s7 h8
    refine okB (T_X12_orNone q h8) ?_
    intro r12 s10 h11
    exact okR h11
theorem T_X12_bribed {Z : St → Prop} {σ0 : St} {M T S E A U Y L P N : Nat} (q : QB Z σ0 M T S E A U Y L P N) {p0 : Int32} {s : St} (h : Z s) : Ok (fun _ s' => Z s') (f_X12_bribed p0 s) := by
  have qM := q.b.hM
  have qT := q.b.hT
  have qS := q.b.S512
  have qE := q.b.hE
  have qA := q.b.hA
  have qU := q.b.hU
  have qY := q.b.hY
  have qA2 := q.b.A256
  have qU2 := q.b.U256
  unfold f_X12_bribed
  refine okB (T_X12_isSideR q h) ?_
  rintro r3 s1 ⟨h2, hq4⟩
  refine okI (fun c5 => ?_) (fun c5 => ?_)
  ·
    exact okR h2
  ·
    have hs6 := hq4.resolve_left c5
    refine okB (T_X12_findBribe q h2 hs6) ?_
    intro r9 s7 h8
    exact okR h8
theorem T_X12_guardOf {Z : St → Prop} {σ0 : St} {M T S E A U Y L P N : Nat} (q : QB Z σ0 M T S E A U Y L P N) {p0 : Int32} {s : St} (h : Z s) (hp : SD p0) : Ok (fun _ s' => Z s') (f_X12_guardOf p0 s) := by
  have qM := q.b.hM
  have qT := q.b.hT
  have qS := q.b.S512
  have qE := q.b.hE
  have qA := q.b.hA
  have qU := q.b.hU
  have qY := q.b.hY
  have qA2 := q.b.A256
  have qU2 := q.b.U256
  unfold f_X12_guardOf
  refine okB (T_X12_findBribe q h hp) ?_
  intro r3 s1 h2
  refine okI (fun c4 => ?_) (fun c4 => ?_)
  ·
    unfold f_X12_guardOf_27
    refine okZ (Z := Z) (q.1.2.2 _ _ _ h2 (by decide)) (fun s5 h6 => ?_)
    refine okC (fun (i : Nat) (x : Int32 × Int32 × Int32 × St) => x.2.2.1 = nI i ∧ SD x.1 ∧ Z x.2.2.2) T ?_ (i := 0) (by unfold FU; omega) (by omega) ⟨rfl, hp, h6⟩
    rintro i7 ⟨v14, v15, v16, s12⟩ K8 hi9 ⟨hv11, hx17, h13⟩ hK10
    dsimp only at hv11 hx17 h13
    subst hv11
    unfold g_X12_guardOf_32
    dsimp only
    refine okD rfl ?_
    refine okI (fun _ => ?_) (fun c18 => ?_)
    ·
      exact okR h13
    ·
      replace c18 : i7 < T := cnt_le (q.at' h13).mT (by omega) c18 hi9
      refine okB (T_X12_of q h13 (j := 0) (by omega) (by omega)) ?_
      intro r21 s19 h20
      refine okI (fun c22 => ?_) (fun c22 => ?_)
      ·
        refine okB (T_X12_findBribe q h20 hx17) ?_
        intro r25 s23 h24
        refine okI (fun c26 => ?_) (fun c26 => ?_)
        ·
          unfold f_X12_guardOf_81
          refine okI (fun c27 => ?_) (fun c27 => ?_)
          ·
            refine okZ (Z := Z) (q.1.2.2 _ _ _ h24 (by decide)) (fun s28 h29 => ?_)
            unfold f_X12_guardOf_103
            refine okN ?_
            exact hK10 _ c18 ⟨nI_1 _, hx17, h29⟩
          ·
            unfold f_X12_guardOf_103
            refine okN ?_
            exact hK10 _ c18 ⟨nI_1 _, hx17, h24⟩
        ·
          unfold f_X12_guardOf_81
          refine okI (fun c30 => ?_) (fun c30 => ?_)
          ·
            refine okZ (Z := Z) (q.1.2.2 _ _ _ h24 (by decide)) (fun s31 h32 => ?_)
            unfold f_X12_guardOf_103
            refine okN ?_
            exact hK10 _ c18 ⟨nI_1 _, hx17, h32⟩
          ·
            unfold f_X12_guardOf_103
            refine okN ?_
            exact hK10 _ c18 ⟨nI_1 _, hx17, h24⟩
      ·
        unfold f_X12_guardOf_103
        refine okN ?_
        exact hK10 _ c18 ⟨nI_1 _, hx17, h20⟩
  ·
    unfold f_X12_guardOf_27
    refine okZ (Z := Z) (q.1.2.2 _ _ _ h2 (by decide)) (fun s33 h34 => ?_)
    refine okC (fun (i : Nat) (x : Int32 × Int32 × Int32 × St) => x.2.2.1 = nI i ∧ SD x.1 ∧ Z x.2.2.2) T ?_ (i := 0) (by unfold FU; omega) (by omega) ⟨rfl, hp, h34⟩
    rintro i35 ⟨v42, v43, v44, s40⟩ K36 hi37 ⟨hv39, hx45, h41⟩ hK38
    dsimp only at hv39 hx45 h41
    subst hv39
    unfold g_X12_guardOf_32
    dsimp only
    refine okD rfl ?_
    refine okI (fun _ => ?_) (fun c46 => ?_)
    ·
      exact okR h41
    ·
      replace c46 : i35 < T := cnt_le (q.at' h41).mT (by omega) c46 hi37
      refine okB (T_X12_of q h41 (j := 0) (by omega) (by omega)) ?_
      intro r49 s47 h48
      refine okI (fun c50 => ?_) (fun c50 => ?_)
      ·
        refine okB (T_X12_findBribe q h48 hx45) ?_
        intro r53 s51 h52
        refine okI (fun c54 => ?_) (fun c54 => ?_)
        ·
          unfold f_X12_guardOf_81
          refine okI (fun c55 => ?_) (fun c55 => ?_)
          ·
            refine okZ (Z := Z) (q.1.2.2 _ _ _ h52 (by decide)) (fun s56 h57 => ?_)
            unfold f_X12_guardOf_103
            refine okN ?_
            exact hK38 _ c46 ⟨nI_1 _, hx45, h57⟩
          ·
            unfold f_X12_guardOf_103
            refine okN ?_
            exact hK38 _ c46 ⟨nI_1 _, hx45, h52⟩
        ·
          unfold f_X12_guardOf_81
          refine okI (fun c58 => ?_) (fun c58 => ?_)
          ·
            refine okZ (Z := Z) (q.1.2.2 _ _ _ h52 (by decide)) (fun s59 h60 => ?_)
            unfold f_X12_guardOf_103
            refine okN ?_
            exact hK38 _ c46 ⟨nI_1 _, hx45, h60⟩
          ·
            unfold f_X12_guardOf_103
            refine okN ?_
            exact hK38 _ c46 ⟨nI_1 _, hx45, h52⟩
      ·
        unfold f_X12_guardOf_103
        refine okN ?_
        exact hK38 _ c46 ⟨nI_1 _, hx45, h48⟩
theorem T_X12_guard {Z : St → Prop} {σ0 : St} {M T S E A U Y L P N : Nat} (q : QB Z σ0 M T S E A U Y L P N) {p0 : Int32} {s : St} (h : Z s) : Ok (fun _ s' => Z s') (f_X12_guard p0 s) := by
  have qM := q.b.hM
  have qT := q.b.hT
  have qS := q.b.S512
  have qE := q.b.hE
  have qA := q.b.hA
  have qU := q.b.hU
  have qY := q.b.hY
  have qA2 := q.b.A256
  have qU2 := q.b.U256
  unfold f_X12_guard
  refine okB (T_X12_isSideR q h) ?_
  rintro r3 s1 ⟨h2, hq4⟩
  refine okI (fun c5 => ?_) (fun c5 => ?_)
  ·
    unfold f_X12_guard_18
    exact okR h2
  ·
    have hs6 := hq4.resolve_left c5
    refine okB (T_X12_guardOf q h2 hs6) ?_
    intro r9 s7 h8
    unfold f_X12_guard_18
    exact okR h8
theorem T_X12_guarded {Z : St → Prop} {σ0 : St} {M T S E A U Y L P N : Nat} (q : QB Z σ0 M T S E A U Y L P N) {p0 : Int32} {s : St} (h : Z s) : Ok (fun _ s' => Z s') (f_X12_guarded p0 s) := by
  have qM := q.b.hM
  have qT := q.b.hT
  have qS := q.b.S512
  have qE := q.b.hE
  have qA := q.b.hA
  have qU := q.b.hU
  have qY := q.b.hY
  have qA2 := q.b.A256
  have qU2 := q.b.U256
  unfold f_X12_guarded
  refine okB (T_X12_isSideR q h) ?_
  rintro r3 s1 ⟨h2, hq4⟩
  refine okI (fun c5 => ?_) (fun c5 => ?_)
  ·
    unfold f_X12_guarded_17
    exact okR h2
  ·
    have hs6 := hq4.resolve_left c5
    refine okB (T_X12_guardOf q h2 hs6) ?_
    intro r9 s7 h8
    refine okI (fun c10 => ?_) (fun c10 => ?_)
    ·
      unfold f_X12_guarded_17
      exact okR h8
    ·
      refine okI (fun c11 => ?_) (fun c11 => ?_)
      ·
        unfold f_X12_guarded_38
        exact okR h8
      ·
        unfold f_X12_guarded_38
        exact okR h8
theorem T_X12_fillFronts {Z : St → Prop} {σ0 : St} {M T S E A U Y L P N : Nat} (q : QB Z σ0 M T S E A U Y L P N)  {s : St} (h : Z s) : Ok (fun _ s' => Z s') (f_X12_fillFronts s) := by
  have qM := q.b.hM
  have qT := q.b.hT
  have qS := q.b.S512
  have qE := q.b.hE
  have qA := q.b.hA
  have qU := q.b.hU
  have qY := q.b.hY
  have qA2 := q.b.A256
  have qU2 := q.b.U256
  unfold f_X12_fillFronts
  refine okC (fun (i : Nat) (x : Int32 × St) => x.1 = nI i ∧ Z x.2) ((S - 1) + 1) ?_ (i := 0) (by unfold FU; omega) (by omega) ⟨rfl, h⟩
  rintro i1 ⟨v8, s6⟩ K2 hi3 ⟨hv5, h7⟩ hK4
  dsimp only at hv5 h7
  subst hv5
  unfold g_X12_fillFronts_2
  dsimp only
  rw [Q_X12_allTrains q h7, bd_mk]
  refine okI (fun _ => ?_) (fun c9 => ?_)
  ·
    exact okR h7
  ·
    replace c9 : i1 < (S - 1) + 1 := cnt_lt rfl (by omega) c9 hi3
    refine okB (T_X12_lastFront q h7) ?_
    intro r12 s10 h11
    refine okD (inb_ln (n := 512) rfl (by omega) (by omega)) ?_
    refine okZ (Z := Z) (q.1.2.1 _ _ _ h11 (by decide)) (fun s13 h14 => ?_)
    refine okN ?_
    exact hK4 _ c9 ⟨nI_1 _, h14⟩
theorem T_X12_isBought {Z : St → Prop} {σ0 : St} {M T S E A U Y L P N : Nat} (q : QB Z σ0 M T S E A U Y L P N) {p0 : Int32} {p1 : Int32} {p2 : Int32} {s : St} (h : Z s) : Ok (fun _ s' => Z s') (f_X12_isBought p0 p1 p2 s) := by
  have qM := q.b.hM
  have qT := q.b.hT
  have qS := q.b.S512
  have qE := q.b.hE
  have qA := q.b.hA
  have qU := q.b.hU
  have qY := q.b.hY
  have qA2 := q.b.A256
  have qU2 := q.b.U256
  unfold f_X12_isBought
  refine okB (T_X12_trainsOf q h) ?_
  intro r3 s1 h2
  refine okI (fun c4 => ?_) (fun c4 => ?_)
  ·
    refine okB (T_X12_priceOf q h2) ?_
    intro r7 s5 h6
    refine okI (fun c8 => ?_) (fun c8 => ?_)
    ·
      unfold f_X12_isBought_25
      unfold f_X12_isBought_26
      refine okD rfl ?_
      exact okR h6
    ·
      unfold f_X12_isBought_26
      refine okD rfl ?_
      exact okR h6
  ·
    unfold f_X12_isBought_25
    unfold f_X12_isBought_26
    refine okD rfl ?_
    exact okR h2
theorem T_X12_spoilOf {Z : St → Prop} {σ0 : St} {M T S E A U Y L P N : Nat} (q : QB Z σ0 M T S E A U Y L P N) {p0 : Int32} {p1 : Int32} {s : St} (h : Z s) : Ok (fun _ s' => Z s') (f_X12_spoilOf p0 p1 s) := by
  have qM := q.b.hM
  have qT := q.b.hT
  have qS := q.b.S512
  have qE := q.b.hE
  have qA := q.b.hA
  have qU := q.b.hU
  have qY := q.b.hY
  have qA2 := q.b.A256
  have qU2 := q.b.U256
  unfold f_X12_spoilOf
  refine okB (T_X12_fillFronts q h) ?_
  intro r3 s1 h2
  refine okC (fun (i : Nat) (x : Int32 × Int32 × Int32 × Int32 × St) => x.2.2.2.1 = nI i ∧ Z x.2.2.2.2) ((S - 1) + 1) ?_ (i := 0) (by unfold FU; omega) (by omega) ⟨rfl, h2⟩
  rintro i4 ⟨v11, v12, v13, v14, s9⟩ K5 hi6 ⟨hv8, h10⟩ hK7
  dsimp only at hv8 h10
  subst hv8
  unfold g_X12_spoilOf_11
  dsimp only
  rw [Q_X12_allTrains q h10, bd_mk]
  refine okI (fun _ => ?_) (fun c15 => ?_)
  ·
    exact okR h10
  ·
    replace c15 : i4 < (S - 1) + 1 := cnt_lt rfl (by omega) c15 hi6
    refine okB (T_X12_isBought q h10) ?_
    intro r18 s16 h17
    refine okI (fun c19 => ?_) (fun c19 => ?_)
    ·
      unfold f_X12_spoilOf_67
      refine okN ?_
      exact hK7 _ c15 ⟨nI_1 _, h17⟩
    ·
      refine okD (inb_ln (n := 512) rfl (by omega) (by omega)) ?_
      refine okB (T_X12_goodBy q h17) ?_
      intro r22 s20 h21
      refine okI (fun c23 => ?_) (fun c23 => ?_)
      ·
        refine okD (inb_ln (n := 512) rfl (by omega) (by omega)) ?_
        refine okB (T_X12_goodBy q h21) ?_
        intro r26 s24 h25
        refine okZ (Z := Z) (q.1.2.2 _ _ _ h25 (by decide)) (fun s27 h28 => ?_)
        unfold f_X12_spoilOf_67
        refine okN ?_
        exact hK7 _ c15 ⟨nI_1 _, h28⟩
      ·
        unfold f_X12_spoilOf_67
        refine okN ?_
        exact hK7 _ c15 ⟨nI_1 _, h21⟩
theorem T_X12_spoil {Z : St → Prop} {σ0 : St} {M T S E A U Y L P N : Nat} (q : QB Z σ0 M T S E A U Y L P N) {p0 : Int32} {p1 : Int32} {s : St} (h : Z s) : Ok (fun _ s' => Z s') (f_X12_spoil p0 p1 s) := by
  have qM := q.b.hM
  have qT := q.b.hT
  have qS := q.b.S512
  have qE := q.b.hE
  have qA := q.b.hA
  have qU := q.b.hU
  have qY := q.b.hY
  have qA2 := q.b.A256
  have qU2 := q.b.U256
  unfold f_X12_spoil
  refine okB (T_X12_isSideR q h) ?_
  rintro r3 s1 ⟨h2, hq4⟩
  refine okI (fun c5 => ?_) (fun c5 => ?_)
  ·
    unfold f_X12_spoil_24
    unfold f_X12_spoil_27
    exact okR h2
  ·
    have hs6 := hq4.resolve_left c5
    refine okB (T_X12_isPrice q h2) ?_
    intro r9 s7 h8
    refine okI (fun c10 => ?_) (fun c10 => ?_)
    ·
      unfold f_X12_spoil_24
      unfold f_X12_spoil_27
      exact okR h8
    ·
      refine okB (T_X12_spoilOf q h8) ?_
      intro r13 s11 h12
      unfold f_X12_spoil_27
      exact okR h12
theorem T_X12_spoils {Z : St → Prop} {σ0 : St} {M T S E A U Y L P N : Nat} (q : QB Z σ0 M T S E A U Y L P N) {p0 : Int32} {p1 : Int32} {s : St} (h : Z s) : Ok (fun _ s' => Z s') (f_X12_spoils p0 p1 s) := by
  have qM := q.b.hM
  have qT := q.b.hT
  have qS := q.b.S512
  have qE := q.b.hE
  have qA := q.b.hA
  have qU := q.b.hU
  have qY := q.b.hY
  have qA2 := q.b.A256
  have qU2 := q.b.U256
  unfold f_X12_spoils
  refine okB (T_X12_isSideR q h) ?_
  rintro r3 s1 ⟨h2, hq4⟩
  refine okI (fun c5 => ?_) (fun c5 => ?_)
  ·
    unfold f_X12_spoils_15
    exact okR h2
  ·
    have hs6 := hq4.resolve_left c5
    refine okB (T_X12_isPrice q h2) ?_
    intro r9 s7 h8
    refine okI (fun c10 => ?_) (fun c10 => ?_)
    ·
      unfold f_X12_spoils_15
      exact okR h8
    ·
      refine okB (T_X12_spoilOf q h8) ?_
      intro r13 s11 h12
      exact okR h12
theorem T_X12_bestGood {Z : St → Prop} {σ0 : St} {M T S E A U Y L P N : Nat} (q : QB Z σ0 M T S E A U Y L P N) {p0 : Int32} {t : Nat} {p2 : Int32} {s : St} (h : Z s) (ht : t < 512) : Ok (fun _ s' => Z s') (f_X12_bestGood p0 (nI t) p2 s) := by
  have qM := q.b.hM
  have qT := q.b.hT
  have qS := q.b.S512
  have qE := q.b.hE
  have qA := q.b.hA
  have qU := q.b.hU
  have qY := q.b.hY
  have qA2 := q.b.A256
  have qU2 := q.b.U256
  unfold f_X12_bestGood
  refine okC (fun (i : Nat) (x : Int32 × Int32 × Int32 × Int32 × Int32 × St) => x.2.2.2.2.1 = nI i ∧ x.2.1 = nI t ∧ Z x.2.2.2.2.2) ((S - 1) + 1) ?_ (i := 0) (by unfold FU; omega) (by omega) ⟨rfl, rfl, h⟩
  rintro i1 ⟨v8, v9, v10, v11, v12, s6⟩ K2 hi3 ⟨hv5, hx13, h7⟩ hK4
  dsimp only at hv5 hx13 h7
  subst hv5 hx13
  unfold g_X12_bestGood_8
  dsimp only
  rw [Q_X12_allTrains q h7, bd_mk]
  refine okI (fun _ => ?_) (fun c14 => ?_)
  ·
    exact okR h7
  ·
    replace c14 : i1 < (S - 1) + 1 := cnt_lt rfl (by omega) c14 hi3
    refine okB (T_X12_isBought q h7) ?_
    intro r17 s15 h16
    refine okI (fun c18 => ?_) (fun c18 => ?_)
    ·
      unfold f_X12_bestGood_50
      refine okN ?_
      exact hK4 _ c14 ⟨nI_1 _, rfl, h16⟩
    ·
      refine okD (inb_or rfl (by omega) (by omega)) ?_
      refine okB (T_X12_goodBy q h16) ?_
      intro r21 s19 h20
      refine okN ?_
      unfold f_X12_bestGood_50
      refine okN ?_
      exact hK4 _ c14 ⟨nI_1 _, rfl, h20⟩
theorem T_X12_answer {Z : St → Prop} {σ0 : St} {M T S E A U Y L P N : Nat} (q : QB Z σ0 M T S E A U Y L P N) {p0 : Int32} {p1 : Int32} {s : St} (h : Z s) : Ok (fun _ s' => Z s') (f_X12_answer p0 p1 s) := by
  have qM := q.b.hM
  have qT := q.b.hT
  have qS := q.b.S512
  have qE := q.b.hE
  have qA := q.b.hA
  have qU := q.b.hU
  have qY := q.b.hY
  have qA2 := q.b.A256
  have qU2 := q.b.U256
  unfold f_X12_answer
  refine okB (T_X12_isSideR q h) ?_
  rintro r3 s1 ⟨h2, hq4⟩
  refine okI (fun c5 => ?_) (fun c5 => ?_)
  ·
    unfold f_X12_answer_15
    exact okR h2
  ·
    have hs6 := hq4.resolve_left c5
    refine okB (T_X12_isPrice q h2) ?_
    intro r9 s7 h8
    refine okI (fun c10 => ?_) (fun c10 => ?_)
    ·
      unfold f_X12_answer_15
      exact okR h8
    ·
      refine okB (T_X12_fillFronts q h8) ?_
      intro r13 s11 h12
      refine okC (fun (i : Nat) (x : Int32 × Int32 × Int32 × Int32 × St) => x.2.2.2.1 = nI i ∧ SD x.1 ∧ Z x.2.2.2.2) ((S - 1) + 1) ?_ (i := 0) (by unfold FU; omega) (by omega) ⟨rfl, hs6, h12⟩
      rintro i14 ⟨v21, v22, v23, v24, s19⟩ K15 hi16 ⟨hv18, hx25, h20⟩ hK17
      dsimp only at hv18 hx25 h20
      subst hv18
      unfold g_X12_answer_30
      dsimp only
      rw [Q_X12_allTrains q h20, bd_mk]
      refine okI (fun _ => ?_) (fun c26 => ?_)
      ·
        exact okR h20
      ·
        replace c26 : i14 < (S - 1) + 1 := cnt_lt rfl (by omega) c26 hi16
        refine okB (T_X12_isBought q h20) ?_
        intro r29 s27 h28
        refine okI (fun c30 => ?_) (fun c30 => ?_)
        ·
          unfold f_X12_answer_63
          refine okN ?_
          exact hK17 _ c26 ⟨nI_1 _, hx25, h28⟩
        ·
          refine okB (T_X12_bestGood q h28 (by omega)) ?_
          intro r33 s31 h32
          refine okN ?_
          unfold f_X12_answer_63
          refine okN ?_
          exact hK17 _ c26 ⟨nI_1 _, hx25, h32⟩
theorem T_X12_rests {Z : St → Prop} {σ0 : St} {M T S E A U Y L P N : Nat} (q : QB Z σ0 M T S E A U Y L P N) {p0 : Int32} {s : St} (h : Z s) : Ok (fun _ s' => Z s') (f_X12_rests p0 s) := by
  have qM := q.b.hM
  have qT := q.b.hT
  have qS := q.b.S512
  have qE := q.b.hE
  have qA := q.b.hA
  have qU := q.b.hU
  have qY := q.b.hY
  have qA2 := q.b.A256
  have qU2 := q.b.U256
  unfold f_X12_rests
  refine okB (T_X12_isWar q h) ?_
  intro r3 s1 h2
  refine okI (fun c4 => ?_) (fun c4 => ?_)
  ·
    unfold f_X12_rests_14
    exact okR h2
  ·
    refine okB (T_X12_isPrice q h2) ?_
    intro r7 s5 h6
    refine okI (fun c8 => ?_) (fun c8 => ?_)
    ·
      unfold f_X12_rests_14
      exact okR h6
    ·
      refine okB (T_X12_fillFronts q h6) ?_
      intro r11 s9 h10
      refine okC (fun (i : Nat) (x : Int32 × Int32 × Int32 × St) => x.2.2.1 = nI i ∧ Z x.2.2.2) ((S - 1) + 1) ?_ (i := 0) (by unfold FU; omega) (by omega) ⟨rfl, h10⟩
      rintro i12 ⟨v19, v20, v21, s17⟩ K13 hi14 ⟨hv16, h18⟩ hK15
      dsimp only at hv16 h18
      subst hv16
      unfold g_X12_rests_25
      dsimp only
      rw [Q_X12_allTrains q h18, bd_mk]
      refine okI (fun _ => ?_) (fun c22 => ?_)
      ·
        exact okR h18
      ·
        replace c22 : i12 < (S - 1) + 1 := cnt_lt rfl (by omega) c22 hi14
        refine okB (T_X12_isBought q h18) ?_
        intro r25 s23 h24
        refine okI (fun c26 => ?_) (fun c26 => ?_)
        ·
          unfold f_X12_rests_122
          refine okN ?_
          exact hK15 _ c22 ⟨nI_1 _, h24⟩
        ·
          refine okB (T_X12_bestGood q h24 (by omega)) ?_
          intro r29 s27 h28
          refine okC (fun (i : Nat) (x : Int32 × Int32 × Int32 × Int32 × Int32 × St) => x.2.2.2.2.1 = nI i ∧ x.2.2.1 = nI i12 ∧ Z x.2.2.2.2.2) ((S - 1) + 1) ?_ (i := 0) (by unfold FU; omega) (by omega) ⟨rfl, rfl, h28⟩
          rintro i30 ⟨v37, v38, v39, v40, v41, s35⟩ K31 hi32 ⟨hv34, hx42, h36⟩ hK33
          dsimp only at hv34 hx42 h36
          subst hv34 hx42
          unfold g_X12_rests_58
          dsimp only
          rw [Q_X12_allTrains q h36, bd_mk]
          refine okI (fun _ => ?_) (fun c43 => ?_)
          ·
            unfold f_X12_rests_122
            refine okN ?_
            exact hK15 _ c22 ⟨nI_1 _, h36⟩
          ·
            replace c43 : i30 < (S - 1) + 1 := cnt_lt rfl (by omega) c43 hi32
            refine okB (T_X12_isBought q h36) ?_
            intro r46 s44 h45
            refine okI (fun c47 => ?_) (fun c47 => ?_)
            ·
              unfold f_X12_rests_116
              refine okN ?_
              exact hK33 _ c43 ⟨nI_1 _, rfl, h45⟩
            ·
              refine okD (inb_or rfl (by omega) (by omega)) ?_
              refine okI (fun c48 => ?_) (fun c48 => ?_)
              ·
                refine okD (inb_or rfl (by omega) (by omega)) ?_
                refine okB (T_X12_bestGood q h45 (by omega)) ?_
                intro r51 s49 h50
                refine okI (fun c52 => ?_) (fun c52 => ?_)
                ·
                  refine okN ?_
                  unfold f_X12_rests_116
                  refine okN ?_
                  exact hK33 _ c43 ⟨nI_1 _, rfl, h50⟩
                ·
                  unfold f_X12_rests_116
                  refine okN ?_
                  exact hK33 _ c43 ⟨nI_1 _, rfl, h50⟩
              ·
                unfold f_X12_rests_116
                refine okN ?_
                exact hK33 _ c43 ⟨nI_1 _, rfl, h45⟩
theorem T_X12_holdsBy {Z : St → Prop} {σ0 : St} {M T S E A U Y L P N : Nat} (q : QB Z σ0 M T S E A U Y L P N) {p0 : Int32} {p1 : Int32} {s : St} (h : Z s) : Ok (fun _ s' => Z s') (f_X12_holdsBy p0 p1 s) := by
  have qM := q.b.hM
  have qT := q.b.hT
  have qS := q.b.S512
  have qE := q.b.hE
  have qA := q.b.hA
  have qU := q.b.hU
  have qY := q.b.hY
  have qA2 := q.b.A256
  have qU2 := q.b.U256
  unfold f_X12_holdsBy
  refine okC (fun (i : Nat) (x : Int32 × Int32 × Int32 × St) => x.2.2.1 = nI i ∧ Z x.2.2.2) U ?_ (i := 0) (by unfold FU; omega) (by omega) ⟨rfl, h⟩
  rintro i1 ⟨v8, v9, v10, s6⟩ K2 hi3 ⟨hv5, h7⟩ hK4
  dsimp only at hv5 h7
  subst hv5
  unfold g_X12_holdsBy_2
  dsimp only
  refine okD rfl ?_
  refine okI (fun _ => ?_) (fun c11 => ?_)
  ·
    refine okD rfl ?_
    exact okR h7
  ·
    replace c11 : i1 < U := cnt_le (q.at' h7).mU (by omega) c11 hi3
    refine okD (by simp only [zL1, zL2, zL4, zL6, zL11, zL13, zL67, zL75, zL107, zL115, nI_add, nI_mul]; exact inb_ln (n := 240) rfl (by omega) (by omega)) ?_
    refine okB (T_X12_bit q h7) ?_
    intro r14 s12 h13
    refine okN ?_
    refine okD (by simp only [zL1, zL2, zL4, zL6, zL11, zL13, zL67, zL75, zL107, zL115, nI_add, nI_mul]; exact inb_ln (n := 240) rfl (by omega) (by omega)) ?_
    refine okB (T_X12_bit q h13) ?_
    intro r17 s15 h16
    refine okN ?_
    refine okB (T_X12_in q h16) ?_
    intro r20 s18 h19
    refine okI (fun c21 => ?_) (fun c21 => ?_)
    ·
      refine okN ?_
      exact hK4 _ c11 ⟨nI_1 _, h19⟩
    ·
      refine okD rfl ?_
      exact okR h19
theorem T_X12_readingsOf {Z : St → Prop} {σ0 : St} {M T S E A U Y L P N : Nat} (q : QB Z σ0 M T S E A U Y L P N) {p0 : Int32} {s : St} (h : Z s) : Ok (fun _ s' => Z s') (f_X12_readingsOf p0 s) := by
  have qM := q.b.hM
  have qT := q.b.hT
  have qS := q.b.S512
  have qE := q.b.hE
  have qA := q.b.hA
  have qU := q.b.hU
  have qY := q.b.hY
  have qA2 := q.b.A256
  have qU2 := q.b.U256
  unfold f_X12_readingsOf
  refine okC (fun (i : Nat) (x : Int32 × Int32 × Int32 × St) => x.2.2.1 = nI i ∧ Z x.2.2.2) (2 ^ (2 * U)) ?_ (i := 0) (by unfold FU; omega) (by omega) ⟨rfl, h⟩
  rintro i1 ⟨v8, v9, v10, s6⟩ K2 hi3 ⟨hv5, h7⟩ hK4
  dsimp only at hv5 h7
  subst hv5
  unfold g_X12_readingsOf_4
  dsimp only
  rw [Q_X12_allReadings q h7, bd_mk]
  refine okI (fun _ => ?_) (fun c11 => ?_)
  ·
    exact okR h7
  ·
    replace c11 : i1 < (2 ^ (2 * U)) := cnt_le rfl (by omega) c11 hi3
    refine okB (T_X12_holdsBy q h7) ?_
    intro r14 s12 h13
    refine okI (fun c15 => ?_) (fun c15 => ?_)
    ·
      unfold f_X12_readingsOf_27
      refine okN ?_
      refine okN ?_
      exact hK4 _ c11 ⟨nI_1 _, h13⟩
    ·
      unfold f_X12_readingsOf_27
      refine okN ?_
      refine okN ?_
      exact hK4 _ c11 ⟨nI_1 _, h13⟩
theorem T_X12_isSigned {Z : St → Prop} {σ0 : St} {M T S E A U Y L P N : Nat} (q : QB Z σ0 M T S E A U Y L P N) {p0 : Int32} {s : St} (h : Z s) : Ok (fun _ s' => Z s') (f_X12_isSigned p0 s) := by
  have qM := q.b.hM
  have qT := q.b.hT
  have qS := q.b.S512
  have qE := q.b.hE
  have qA := q.b.hA
  have qU := q.b.hU
  have qY := q.b.hY
  have qA2 := q.b.A256
  have qU2 := q.b.U256
  unfold f_X12_isSigned
  refine okB (T_X12_isWar q h) ?_
  intro r3 s1 h2
  refine okI (fun c4 => ?_) (fun c4 => ?_)
  ·
    unfold f_X12_isSigned_23
    unfold f_X12_isSigned_24
    refine okD rfl ?_
    exact okR h2
  ·
    refine okB (T_X12_in q h2) ?_
    intro r7 s5 h6
    refine okI (fun c8 => ?_) (fun c8 => ?_)
    ·
      unfold f_X12_isSigned_23
      unfold f_X12_isSigned_24
      refine okD rfl ?_
      exact okR h6
    ·
      unfold f_X12_isSigned_24
      refine okD rfl ?_
      exact okR h6
theorem T_X12_readings {Z : St → Prop} {σ0 : St} {M T S E A U Y L P N : Nat} (q : QB Z σ0 M T S E A U Y L P N) {p0 : Int32} {s : St} (h : Z s) : Ok (fun _ s' => Z s') (f_X12_readings p0 s) := by
  have qM := q.b.hM
  have qT := q.b.hT
  have qS := q.b.S512
  have qE := q.b.hE
  have qA := q.b.hA
  have qU := q.b.hU
  have qY := q.b.hY
  have qA2 := q.b.A256
  have qU2 := q.b.U256
  unfold f_X12_readings
  refine okB (T_X12_isSigned q h) ?_
  intro r3 s1 h2
  refine okI (fun c4 => ?_) (fun c4 => ?_)
  ·
    unfold f_X12_readings_18
    exact okR h2
  ·
    refine okB (T_X12_readingsOf q h2) ?_
    intro r7 s5 h6
    unfold f_X12_readings_18
    exact okR h6
theorem T_X12_loopholes {Z : St → Prop} {σ0 : St} {M T S E A U Y L P N : Nat} (q : QB Z σ0 M T S E A U Y L P N)  {s : St} (h : Z s) : Ok (fun _ s' => Z s') (f_X12_loopholes s) := by
  have qM := q.b.hM
  have qT := q.b.hT
  have qS := q.b.S512
  have qE := q.b.hE
  have qA := q.b.hA
  have qU := q.b.hU
  have qY := q.b.hY
  have qA2 := q.b.A256
  have qU2 := q.b.U256
  unfold f_X12_loopholes
  refine okB (T_X12_isWar q h) ?_
  intro r3 s1 h2
  refine okI (fun c4 => ?_) (fun c4 => ?_)
  ·
    exact okR h2
  ·
    refine okC (fun (i : Nat) (x : Int64 × Int32 × St) => x.2.1 = nI i ∧ Z x.2.2) 60 ?_ (i := 0) (by unfold FU; omega) (by omega) ⟨rfl, h2⟩
    rintro i5 ⟨v12, v13, s10⟩ K6 hi7 ⟨hv9, h11⟩ hK8
    dsimp only at hv9 h11
    subst hv9
    unfold g_X12_loopholes_15
    dsimp only
    refine okI (fun _ => ?_) (fun c14 => ?_)
    ·
      exact okR h11
    ·
      replace c14 : i5 < 60 := cnt_le rfl (by omega) c14 hi7
      refine okB (T_X12_readingsOf q h11) ?_
      intro r17 s15 h16
      rw [Q_X12_allReadings q h16, bd_mk]
      refine okB (T_X12_in q h16) ?_
      intro r20 s18 h19
      refine okI (fun c21 => ?_) (fun c21 => ?_)
      ·
        unfold f_X12_loopholes_49
        refine okN ?_
        refine okN ?_
        exact hK8 _ c14 ⟨nI_1 _, h19⟩
      ·
        unfold f_X12_loopholes_49
        refine okN ?_
        refine okN ?_
        exact hK8 _ c14 ⟨nI_1 _, h19⟩
theorem T_X12_closedOf {Z : St → Prop} {σ0 : St} {M T S E A U Y L P N : Nat} (q : QB Z σ0 M T S E A U Y L P N) {p0 : Int32} {s : St} (h : Z s) : Ok (fun _ s' => Z s') (f_X12_closedOf p0 s) := by
  have qM := q.b.hM
  have qT := q.b.hT
  have qS := q.b.S512
  have qE := q.b.hE
  have qA := q.b.hA
  have qU := q.b.hU
  have qY := q.b.hY
  have qA2 := q.b.A256
  have qU2 := q.b.U256
  unfold f_X12_closedOf
  refine okC (fun (i : Nat) (x : Int32 × Int32 × Int32 × St) => x.2.2.1 = nI i ∧ Z x.2.2.2) (2 ^ (2 * U)) ?_ (i := 0) (by unfold FU; omega) (by omega) ⟨rfl, h⟩
  rintro i1 ⟨v8, v9, v10, s6⟩ K2 hi3 ⟨hv5, h7⟩ hK4
  dsimp only at hv5 h7
  subst hv5
  unfold g_X12_closedOf_4
  dsimp only
  rw [Q_X12_allReadings q h7, bd_mk]
  refine okI (fun _ => ?_) (fun c11 => ?_)
  ·
    exact okR h7
  ·
    replace c11 : i1 < (2 ^ (2 * U)) := cnt_le rfl (by omega) c11 hi3
    refine okI (fun c12 => ?_) (fun c12 => ?_)
    ·
      unfold f_X12_closedOf_31
      refine okC (fun (i : Nat) (x : Int32 × Int32 × Int32 × Int32 × Int32 × St) => x.2.2.2.2.1 = nI i ∧ x.2.2.1 = nI i1 ∧ Z x.2.2.2.2.2) (2 ^ (2 * U)) ?_ (i := 0) (by unfold FU; omega) (by omega) ⟨rfl, rfl, h7⟩
      rintro i13 ⟨v20, v21, v22, v23, v24, s18⟩ K14 hi15 ⟨hv17, hx25, h19⟩ hK16
      dsimp only at hv17 hx25 h19
      subst hv17 hx25
      unfold g_X12_closedOf_37
      dsimp only
      rw [Q_X12_allReadings q h19, bd_mk]
      refine okI (fun _ => ?_) (fun c26 => ?_)
      ·
        unfold f_X12_closedOf_83
        refine okI (fun c27 => ?_) (fun c27 => ?_)
        ·
          unfold f_X12_closedOf_93
          unfold f_X12_closedOf_94
          refine okN ?_
          exact hK4 _ c11 ⟨nI_1 _, h19⟩
        ·
          unfold f_X12_closedOf_93
          unfold f_X12_closedOf_94
          refine okN ?_
          exact hK4 _ c11 ⟨nI_1 _, h19⟩
      ·
        replace c26 : i13 < (2 ^ (2 * U)) := cnt_le rfl (by omega) c26 hi15
        refine okI (fun c28 => ?_) (fun c28 => ?_)
        ·
          unfold f_X12_closedOf_83
          refine okI (fun c29 => ?_) (fun c29 => ?_)
          ·
            unfold f_X12_closedOf_93
            unfold f_X12_closedOf_94
            refine okN ?_
            exact hK4 _ c11 ⟨nI_1 _, h19⟩
          ·
            unfold f_X12_closedOf_93
            unfold f_X12_closedOf_94
            refine okN ?_
            exact hK4 _ c11 ⟨nI_1 _, h19⟩
        ·
          refine okI (fun c30 => ?_) (fun c30 => ?_)
          ·
            refine okB (T_X12_holdsBy q h19) ?_
            intro r33 s31 h32
            refine okI (fun c34 => ?_) (fun c34 => ?_)
            ·
              unfold f_X12_closedOf_70
              unfold f_X12_closedOf_75
              refine okN ?_
              exact hK16 _ c26 ⟨nI_1 _, rfl, h32⟩
            ·
              unfold f_X12_closedOf_75
              refine okN ?_
              exact hK16 _ c26 ⟨nI_1 _, rfl, h32⟩
          ·
            unfold f_X12_closedOf_70
            unfold f_X12_closedOf_75
            refine okN ?_
            exact hK16 _ c26 ⟨nI_1 _, rfl, h19⟩
    ·
      refine okB (T_X12_bits q h7) ?_
      intro r37 s35 h36
      refine okB (T_X12_bits q h36) ?_
      intro r40 s38 h39
      refine okI (fun c41 => ?_) (fun c41 => ?_)
      ·
        unfold f_X12_closedOf_31
        refine okC (fun (i : Nat) (x : Int32 × Int32 × Int32 × Int32 × Int32 × St) => x.2.2.2.2.1 = nI i ∧ x.2.2.1 = nI i1 ∧ Z x.2.2.2.2.2) (2 ^ (2 * U)) ?_ (i := 0) (by unfold FU; omega) (by omega) ⟨rfl, rfl, h39⟩
        rintro i42 ⟨v49, v50, v51, v52, v53, s47⟩ K43 hi44 ⟨hv46, hx54, h48⟩ hK45
        dsimp only at hv46 hx54 h48
        subst hv46 hx54
        unfold g_X12_closedOf_37
        dsimp only
        rw [Q_X12_allReadings q h48, bd_mk]
        refine okI (fun _ => ?_) (fun c55 => ?_)
        ·
          unfold f_X12_closedOf_83
          refine okI (fun c56 => ?_) (fun c56 => ?_)
          ·
            unfold f_X12_closedOf_93
            unfold f_X12_closedOf_94
            refine okN ?_
            exact hK4 _ c11 ⟨nI_1 _, h48⟩
          ·
            unfold f_X12_closedOf_93
            unfold f_X12_closedOf_94
            refine okN ?_
            exact hK4 _ c11 ⟨nI_1 _, h48⟩
        ·
          replace c55 : i42 < (2 ^ (2 * U)) := cnt_le rfl (by omega) c55 hi44
          refine okI (fun c57 => ?_) (fun c57 => ?_)
          ·
            unfold f_X12_closedOf_83
            refine okI (fun c58 => ?_) (fun c58 => ?_)
            ·
              unfold f_X12_closedOf_93
              unfold f_X12_closedOf_94
              refine okN ?_
              exact hK4 _ c11 ⟨nI_1 _, h48⟩
            ·
              unfold f_X12_closedOf_93
              unfold f_X12_closedOf_94
              refine okN ?_
              exact hK4 _ c11 ⟨nI_1 _, h48⟩
          ·
            refine okI (fun c59 => ?_) (fun c59 => ?_)
            ·
              refine okB (T_X12_holdsBy q h48) ?_
              intro r62 s60 h61
              refine okI (fun c63 => ?_) (fun c63 => ?_)
              ·
                unfold f_X12_closedOf_70
                unfold f_X12_closedOf_75
                refine okN ?_
                exact hK45 _ c55 ⟨nI_1 _, rfl, h61⟩
              ·
                unfold f_X12_closedOf_75
                refine okN ?_
                exact hK45 _ c55 ⟨nI_1 _, rfl, h61⟩
            ·
              unfold f_X12_closedOf_70
              unfold f_X12_closedOf_75
              refine okN ?_
              exact hK45 _ c55 ⟨nI_1 _, rfl, h48⟩
      ·
        unfold f_X12_closedOf_94
        refine okN ?_
        exact hK4 _ c11 ⟨nI_1 _, h39⟩
theorem T_X12_close {Z : St → Prop} {σ0 : St} {M T S E A U Y L P N : Nat} (q : QB Z σ0 M T S E A U Y L P N) {p0 : Int32} {s : St} (h : Z s) : Ok (fun _ s' => Z s') (f_X12_close p0 s) := by
  have qM := q.b.hM
  have qT := q.b.hT
  have qS := q.b.S512
  have qE := q.b.hE
  have qA := q.b.hA
  have qU := q.b.hU
  have qY := q.b.hY
  have qA2 := q.b.A256
  have qU2 := q.b.U256
  unfold f_X12_close
  refine okB (T_X12_isSigned q h) ?_
  intro r3 s1 h2
  refine okI (fun c4 => ?_) (fun c4 => ?_)
  ·
    exact okR h2
  ·
    refine okB (T_X12_closedOf q h2) ?_
    intro r7 s5 h6
    refine okI (fun c8 => ?_) (fun c8 => ?_)
    ·
      unfold f_X12_close_30
      exact okR h6
    ·
      refine okB (T_X12_bits q h6) ?_
      intro r11 s9 h10
      unfold f_X12_close_30
      exact okR h10
theorem T_X12_closed {Z : St → Prop} {σ0 : St} {M T S E A U Y L P N : Nat} (q : QB Z σ0 M T S E A U Y L P N) {p0 : Int32} {s : St} (h : Z s) : Ok (fun _ s' => Z s') (f_X12_closed p0 s) := by
  have qM := q.b.hM
  have qT := q.b.hT
  have qS := q.b.S512
  have qE := q.b.hE
  have qA := q.b.hA
  have qU := q.b.hU
  have qY := q.b.hY
  have qA2 := q.b.A256
  have qU2 := q.b.U256
  unfold f_X12_closed
  refine okB (T_X12_isSigned q h) ?_
  intro r3 s1 h2
  refine okI (fun c4 => ?_) (fun c4 => ?_)
  ·
    unfold f_X12_closed_18
    exact okR h2
  ·
    refine okB (T_X12_closedOf q h2) ?_
    intro r7 s5 h6
    unfold f_X12_closed_18
    exact okR h6
theorem T_X12_signs {Z : St → Prop} {σ0 : St} {M T S E A U Y L P N : Nat} (q : QB Z σ0 M T S E A U Y L P N)  {s : St} (h : Z s) : Ok (fun _ s' => Z s') (f_X12_signs s) := by
  have qM := q.b.hM
  have qT := q.b.hT
  have qS := q.b.S512
  have qE := q.b.hE
  have qA := q.b.hA
  have qU := q.b.hU
  have qY := q.b.hY
  have qA2 := q.b.A256
  have qU2 := q.b.U256
  unfold f_X12_signs
  refine okB (T_X12_isWar q h) ?_
  intro r3 s1 h2
  refine okI (fun c4 => ?_) (fun c4 => ?_)
  ·
    exact okR h2
  ·
    refine okC (fun (i : Nat) (x : Int32 × St) => x.1 = nI i ∧ Z x.2) 60 ?_ (i := 0) (by unfold FU; omega) (by omega) ⟨rfl, h2⟩
    rintro i5 ⟨v12, s10⟩ K6 hi7 ⟨hv9, h11⟩ hK8
    dsimp only at hv9 h11
    subst hv9
    unfold g_X12_signs_12
    dsimp only
    refine okI (fun _ => ?_) (fun c13 => ?_)
    ·
      exact okR h11
    ·
      replace c13 : i5 < 60 := cnt_le rfl (by omega) c13 hi7
      refine okB (T_X12_readingsOf q h11) ?_
      intro r16 s14 h15
      rw [Q_X12_allReadings q h15, bd_mk]
      refine okI (fun c17 => ?_) (fun c17 => ?_)
      ·
        exact okR h15
      ·
        refine okN ?_
        exact hK8 _ c13 ⟨nI_1 _, h15⟩
theorem T_X12_isTreaty {Z : St → Prop} {σ0 : St} {M T S E A U Y L P N : Nat} (q : QB Z σ0 M T S E A U Y L P N) {t : Nat} {p1 : Int32} {s : St} (h : Z s) (ht : t ≤ M) : Ok (fun _ s' => Z s') (f_X12_isTreaty (nI t) p1 s) := by
  have qM := q.b.hM
  unfold f_X12_isTreaty
  rw [bnd_mk, nI_1]
  refine okC (fun (i : Nat) (x : Int32 × Int32 × Int32 × St) => x.2.2.1 = nI i ∧ x.1 = nI t ∧ Z x.2.2.2) (M + 1) ?_ (i := t + 1) (by unfold FU; omega) (by omega) ⟨rfl, rfl, h⟩
  rintro i ⟨v1, v2, v3, s2⟩ K hi ⟨hv, hw, h2⟩ hK
  dsimp only at hv hw h2
  subst hv hw
  unfold g_X12_isTreaty_4
  dsimp only
  refine okD rfl ?_
  refine okI (fun _ => okD rfl (okR h2)) (fun c => ?_)
  replace c : i < M + 1 := cnt_lt (q.at' h2).mM (by omega) c hi
  refine okD (inb_ln (n := 61) rfl (by omega) (by omega)) ?_
  refine okD (inb_ln (n := 61) rfl (by omega) (by omega)) ?_
  refine okI (fun _ => okN (hK _ c ⟨nI_1 _, rfl, h2⟩)) (fun _ => okD rfl (okR h2))
theorem T_X12_treaties {Z : St → Prop} {σ0 : St} {M T S E A U Y L P N : Nat} (q : QB Z σ0 M T S E A U Y L P N) {p0 : Int32} {s : St} (h : Z s) : Ok (fun _ s' => Z s') (f_X12_treaties p0 s) := by
  have qM := q.b.hM
  have qT := q.b.hT
  have qS := q.b.S512
  have qE := q.b.hE
  have qA := q.b.hA
  have qU := q.b.hU
  have qY := q.b.hY
  have qA2 := q.b.A256
  have qU2 := q.b.U256
  unfold f_X12_treaties
  refine okB (T_X12_areTrains q h) ?_
  intro r3 s1 h2
  refine okI (fun c4 => ?_) (fun c4 => ?_)
  ·
    exact okR h2
  ·
    refine okB (T_X12_lastFront q h2) ?_
    intro r7 s5 h6
    refine okC (fun (i : Nat) (x : Int64 × Int32 × St) => x.2.1 = nI i ∧ Z x.2.2) (M + 1) ?_ (i := 1) (by unfold FU; omega) (by omega) ⟨rfl, h6⟩
    rintro i8 ⟨v15, v16, s13⟩ K9 hi10 ⟨hv12, h14⟩ hK11
    dsimp only at hv12 h14
    subst hv12
    unfold g_X12_treaties_23
    dsimp only
    refine okD rfl ?_
    refine okI (fun _ => ?_) (fun c17 => ?_)
    ·
      exact okR h14
    ·
      replace c17 : i8 < M + 1 := cnt_lt (q.at' h14).mM (by omega) c17 hi10
      refine okD rfl ?_
      refine okB (T_X12_isTreaty q h14 (by omega)) ?_
      intro r20 s18 h19
      refine okI (fun c21 => ?_) (fun c21 => ?_)
      ·
        unfold f_X12_treaties_60
        refine okN ?_
        refine okN ?_
        exact hK11 _ c17 ⟨nI_1 _, h19⟩
      ·
        unfold f_X12_treaties_60
        refine okN ?_
        refine okN ?_
        exact hK11 _ c17 ⟨nI_1 _, h19⟩
theorem T_X12_price {Z : St → Prop} {σ0 : St} {M T S E A U Y L P N : Nat} (q : QB Z σ0 M T S E A U Y L P N) {p0 p1 : Int32} {s : St} (h : Z s) : Ok (fun _ s' => Z s') (f_X12_price p0 p1 s) := by
  have qM := q.b.hM
  unfold f_X12_price f_X12_price_24
  refine okB (T_X12_areTrains q h) ?_
  intro r1 s1 h1
  refine okI (fun _ => okR h1) (fun _ => okD rfl ?_)
  rw [S_in, bd_mk]
  refine okI (fun _ => okR h1) (fun c2 => ?_)
  rw [show gr s1 59 (0 : Int32).toNatClampNeg = nI M from (q.at' h1).mM] at c2
  have e : (nI M).toInt64.toInt = M := by rw [Int32.toInt_toInt64, nI_toInt (by omega)]
  obtain ⟨t, -, -, ht, rfl⟩ := in_nI (n := 60) c2 (by decide) (by omega)
  refine okB (T_X12_lastFront q h1) ?_
  intro r2 s2 h2
  refine okC (fun (i : Nat) (x : Int32 × Int32 × St) => x.2.1 = nI i ∧ x.1 = nI t ∧ Z x.2.2) (60 + 1) ?_ (i := 0) (by unfold FU; omega) (by omega) ⟨rfl, rfl, h2⟩
  rintro i ⟨v1, v2, s3⟩ K hi ⟨hv, hw, h3⟩ hK
  dsimp only at hv hw h3
  subst hv hw
  unfold g_X12_price_35
  dsimp only
  refine okI (fun _ => okR h3) (fun c => ?_)
  replace c : i < 60 + 1 := cnt_lt rfl (by omega) c hi
  refine okB (T_X12_isTreaty q h3 (by omega)) ?_
  intro r4 s4 h4
  exact okI (fun _ => okN (hK _ c ⟨nI_1 _, rfl, h4⟩)) (fun _ => okR h4)
theorem T_X12_spiesBy {Z : St → Prop} {σ0 : St} {M T S E A U Y L P N : Nat} (q : QB Z σ0 M T S E A U Y L P N) {p0 : Int32} {s : St} (h : Z s) : Ok (fun _ s' => Z s') (f_X12_spiesBy p0 s) := by
  have qM := q.b.hM
  have qT := q.b.hT
  have qS := q.b.S512
  have qE := q.b.hE
  have qA := q.b.hA
  have qU := q.b.hU
  have qY := q.b.hY
  have qA2 := q.b.A256
  have qU2 := q.b.U256
  unfold f_X12_spiesBy
  refine okC (fun (i : Nat) (x : Int32 × Int32 × Int32 × St) => x.2.2.1 = nI i ∧ Z x.2.2.2) Y ?_ (i := 0) (by unfold FU; omega) (by omega) ⟨rfl, h⟩
  rintro i1 ⟨v8, v9, v10, s6⟩ K2 hi3 ⟨hv5, h7⟩ hK4
  dsimp only at hv5 h7
  subst hv5
  unfold g_X12_spiesBy_4
  dsimp only
  refine okD rfl ?_
  refine okI (fun _ => ?_) (fun c11 => ?_)
  ·
    exact okR h7
  ·
    replace c11 : i1 < Y := cnt_le (q.at' h7).mY (by omega) c11 hi3
    refine okD (by simp only [zL1, zL2, zL4, zL6, zL11, zL13, zL67, zL75, zL107, zL115, nI_add, nI_mul]; exact inb_ln (n := 240) rfl (by omega) (by omega)) ?_
    refine okI (fun c12 => ?_) (fun c12 => ?_)
    ·
      unfold f_X12_spiesBy_39
      refine okN ?_
      refine okN ?_
      exact hK4 _ c11 ⟨nI_1 _, h7⟩
    ·
      unfold f_X12_spiesBy_39
      refine okN ?_
      refine okN ?_
      exact hK4 _ c11 ⟨nI_1 _, h7⟩
theorem T_X12_knowing {Z : St → Prop} {σ0 : St} {M T S E A U Y L P N : Nat} (q : QB Z σ0 M T S E A U Y L P N) {p0 : Int32} {p1 : Int32} {s : St} (h : Z s) : Ok (fun _ s' => Z s') (f_X12_knowing p0 p1 s) := by
  have qM := q.b.hM
  have qT := q.b.hT
  have qS := q.b.S512
  have qE := q.b.hE
  have qA := q.b.hA
  have qU := q.b.hU
  have qY := q.b.hY
  have qA2 := q.b.A256
  have qU2 := q.b.U256
  unfold f_X12_knowing
  refine okC (fun (i : Nat) (x : Int32 × Int32 × Int32 × Int32 × St) => x.2.2.2.1 = nI i ∧ Z x.2.2.2.2) Y ?_ (i := 0) (by unfold FU; omega) (by omega) ⟨rfl, h⟩
  rintro i1 ⟨v8, v9, v10, v11, s6⟩ K2 hi3 ⟨hv5, h7⟩ hK4
  dsimp only at hv5 h7
  subst hv5
  unfold g_X12_knowing_5
  dsimp only
  refine okD rfl ?_
  refine okI (fun _ => ?_) (fun c12 => ?_)
  ·
    exact okR h7
  ·
    replace c12 : i1 < Y := cnt_le (q.at' h7).mY (by omega) c12 hi3
    refine okB (T_X12_bit q h7) ?_
    intro r15 s13 h14
    refine okD (by simp only [zL1, zL2, zL4, zL6, zL11, zL13, zL67, zL75, zL107, zL115, nI_add, nI_mul]; exact inb_ln (n := 240) rfl (by omega) (by omega)) ?_
    refine okB (T_X12_bit q h14) ?_
    intro r18 s16 h17
    refine okN ?_
    refine okN ?_
    exact hK4 _ c12 ⟨nI_1 _, h17⟩
theorem T_X12_spies {Z : St → Prop} {σ0 : St} {M T S E A U Y L P N : Nat} (q : QB Z σ0 M T S E A U Y L P N) {p0 : Int32} {s : St} (h : Z s) : Ok (fun _ s' => Z s') (f_X12_spies p0 s) := by
  have qM := q.b.hM
  have qT := q.b.hT
  have qS := q.b.S512
  have qE := q.b.hE
  have qA := q.b.hA
  have qU := q.b.hU
  have qY := q.b.hY
  have qA2 := q.b.A256
  have qU2 := q.b.U256
  unfold f_X12_spies
  refine okB (T_X12_areTrains q h) ?_
  intro r3 s1 h2
  refine okI (fun c4 => ?_) (fun c4 => ?_)
  ·
    unfold f_X12_spies_18
    exact okR h2
  ·
    refine okB (T_X12_spiesBy q h2) ?_
    intro r7 s5 h6
    unfold f_X12_spies_18
    exact okR h6
theorem T_X12_watchOf {Z : St → Prop} {σ0 : St} {M T S E A U Y L P N : Nat} (q : QB Z σ0 M T S E A U Y L P N) {p0 : Int32} {s : St} (h : Z s) : Ok (fun _ s' => Z s') (f_X12_watchOf p0 s) := by
  have qM := q.b.hM
  have qT := q.b.hT
  have qS := q.b.S512
  have qE := q.b.hE
  have qA := q.b.hA
  have qU := q.b.hU
  have qY := q.b.hY
  have qA2 := q.b.A256
  have qU2 := q.b.U256
  unfold f_X12_watchOf
  refine okB (T_X12_spiesBy q h) ?_
  intro r3 s1 h2
  refine okB (T_X12_bits q h2) ?_
  intro r6 s4 h5
  refine okZ (Z := Z) (q.1.2.2 _ _ _ h5 (by decide)) (fun s7 h8 => ?_)
  refine okC (fun (i : Nat) (x : Int32 × Int32 × Int32 × Int32 × St) => x.2.2.2.1 = nI i ∧ Z x.2.2.2.2) T ?_ (i := 0) (by unfold FU; omega) (by omega) ⟨rfl, h8⟩
  rintro i9 ⟨v16, v17, v18, v19, s14⟩ K10 hi11 ⟨hv13, h15⟩ hK12
  dsimp only at hv13 h15
  subst hv13
  unfold g_X12_watchOf_19
  dsimp only
  refine okD rfl ?_
  refine okI (fun _ => ?_) (fun c20 => ?_)
  ·
    exact okR h15
  ·
    replace c20 : i9 < T := cnt_le (q.at' h15).mT (by omega) c20 hi11
    refine okB (T_X12_knowing q h15) ?_
    intro r23 s21 h22
    refine okB (T_X12_bits q h22) ?_
    intro r26 s24 h25
    refine okB (T_X12_knowing q h25) ?_
    intro r29 s27 h28
    refine okN ?_
    refine okB (T_X12_bit q h28) ?_
    intro r32 s30 h31
    refine okI (fun c33 => ?_) (fun c33 => ?_)
    ·
      unfold f_X12_watchOf_85
      refine okN ?_
      exact hK12 _ c20 ⟨nI_1 _, h31⟩
    ·
      refine okI (fun c34 => ?_) (fun c34 => ?_)
      ·
        refine okZ (Z := Z) (q.1.2.2 _ _ _ h31 (by decide)) (fun s35 h36 => ?_)
        unfold f_X12_watchOf_85
        refine okN ?_
        exact hK12 _ c20 ⟨nI_1 _, h36⟩
      ·
        unfold f_X12_watchOf_85
        refine okN ?_
        exact hK12 _ c20 ⟨nI_1 _, h31⟩
theorem T_X12_watch {Z : St → Prop} {σ0 : St} {M T S E A U Y L P N : Nat} (q : QB Z σ0 M T S E A U Y L P N) {p0 : Int32} {s : St} (h : Z s) : Ok (fun _ s' => Z s') (f_X12_watch p0 s) := by
  have qM := q.b.hM
  have qT := q.b.hT
  have qS := q.b.S512
  have qE := q.b.hE
  have qA := q.b.hA
  have qU := q.b.hU
  have qY := q.b.hY
  have qA2 := q.b.A256
  have qU2 := q.b.U256
  unfold f_X12_watch
  refine okB (T_X12_areTrains q h) ?_
  intro r3 s1 h2
  refine okI (fun c4 => ?_) (fun c4 => ?_)
  ·
    unfold f_X12_watch_18
    exact okR h2
  ·
    refine okB (T_X12_watchOf q h2) ?_
    intro r7 s5 h6
    unfold f_X12_watch_18
    exact okR h6
theorem T_X12_leaves {Z : St → Prop} {σ0 : St} {M T S E A U Y L P N : Nat} (q : QB Z σ0 M T S E A U Y L P N) {p0 : Int32} {s : St} (h : Z s) : Ok (fun _ s' => Z s') (f_X12_leaves p0 s) := by
  have qM := q.b.hM
  have qT := q.b.hT
  have qS := q.b.S512
  have qE := q.b.hE
  have qA := q.b.hA
  have qU := q.b.hU
  have qY := q.b.hY
  have qA2 := q.b.A256
  have qU2 := q.b.U256
  unfold f_X12_leaves
  refine okB (T_X12_areTrains q h) ?_
  intro r3 s1 h2
  refine okI (fun c4 => ?_) (fun c4 => ?_)
  ·
    exact okR h2
  ·
    refine okB (T_X12_watchOf q h2) ?_
    intro r7 s5 h6
    exact okR h6
theorem T_X12_known {Z : St → Prop} {σ0 : St} {M T S E A U Y L P N : Nat} (q : QB Z σ0 M T S E A U Y L P N) {p0 : Int32} {p1 : Int32} {s : St} (h : Z s) : Ok (fun _ s' => Z s') (f_X12_known p0 p1 s) := by
  have qM := q.b.hM
  have qT := q.b.hT
  have qS := q.b.S512
  have qE := q.b.hE
  have qA := q.b.hA
  have qU := q.b.hU
  have qY := q.b.hY
  have qA2 := q.b.A256
  have qU2 := q.b.U256
  unfold f_X12_known
  refine okB (T_X12_areTrains q h) ?_
  intro r3 s1 h2
  refine okI (fun c4 => ?_) (fun c4 => ?_)
  ·
    unfold f_X12_known_18
    exact okR h2
  ·
    refine okB (T_X12_in q h2) ?_
    intro r7 s5 h6
    refine okI (fun c8 => ?_) (fun c8 => ?_)
    ·
      unfold f_X12_known_18
      exact okR h6
    ·
      refine okB (T_X12_spiesBy q h6) ?_
      intro r11 s9 h10
      refine okC (fun (i : Nat) (x : Int32 × Int32 × Int32 × Int32 × St) => x.2.2.2.1 = nI i ∧ Z x.2.2.2.2) T ?_ (i := 0) (by unfold FU; omega) (by omega) ⟨rfl, h10⟩
      rintro i12 ⟨v19, v20, v21, v22, s17⟩ K13 hi14 ⟨hv16, h18⟩ hK15
      dsimp only at hv16 h18
      subst hv16
      unfold g_X12_known_33
      dsimp only
      refine okD rfl ?_
      refine okI (fun _ => ?_) (fun c23 => ?_)
      ·
        exact okR h18
      ·
        replace c23 : i12 < T := cnt_le (q.at' h18).mT (by omega) c23 hi14
        refine okI (fun c24 => ?_) (fun c24 => ?_)
        ·
          unfold f_X12_known_83
          refine okN ?_
          exact hK15 _ c23 ⟨nI_1 _, h18⟩
        ·
          refine okB (T_X12_knowing q h18) ?_
          intro r27 s25 h26
          refine okI (fun c28 => ?_) (fun c28 => ?_)
          ·
            refine okB (T_X12_bits q h26) ?_
            intro r31 s29 h30
            unfold f_X12_known_69
            refine okI (fun c32 => ?_) (fun c32 => ?_)
            ·
              unfold f_X12_known_80
              refine okN ?_
              unfold f_X12_known_83
              refine okN ?_
              exact hK15 _ c23 ⟨nI_1 _, h30⟩
            ·
              unfold f_X12_known_80
              refine okN ?_
              unfold f_X12_known_83
              refine okN ?_
              exact hK15 _ c23 ⟨nI_1 _, h30⟩
          ·
            unfold f_X12_known_69
            refine okI (fun c33 => ?_) (fun c33 => ?_)
            ·
              unfold f_X12_known_80
              refine okN ?_
              unfold f_X12_known_83
              refine okN ?_
              exact hK15 _ c23 ⟨nI_1 _, h26⟩
            ·
              unfold f_X12_known_80
              refine okN ?_
              unfold f_X12_known_83
              refine okN ?_
              exact hK15 _ c23 ⟨nI_1 _, h26⟩
theorem T_X12_endOf {Z : St → Prop} {σ0 : St} {M T S E A U Y L P N : Nat} (q : QB Z σ0 M T S E A U Y L P N) {t : Nat} {s : St} (h : Z s) (ht : t < 8) : Ok (fun _ s' => Z s') (f_X12_endOf (nI t) s) := by
  have qM := q.b.hM
  have qT := q.b.hT
  have qS := q.b.S512
  have qE := q.b.hE
  have qA := q.b.hA
  have qU := q.b.hU
  have qY := q.b.hY
  have qA2 := q.b.A256
  have qU2 := q.b.U256
  unfold f_X12_endOf
  refine okB (T_X12_ofAsk q h (j := 1) (by omega) (by omega)) ?_
  intro r3 s1 h2
  refine okB (T_X12_ofAsk q h2 (j := 2) (by omega) (by omega)) ?_
  intro r6 s4 h5
  exact okR h5
theorem QB.ask {Z : St → Prop} {σ0 : St} {M T S E A U Y L P N : Nat} (q : QB Z σ0 M T S E A U Y L P N) {k : Nat} (hk : k < A) : ∃ a l : Nat, a ≤ 59 ∧ 1 ≤ l ∧ l ≤ 20 ∧ gr σ0 59 (75 + 4 * k + 1) = nI a ∧ gr σ0 59 (75 + 4 * k + 2) = nI l := by
  obtain ⟨-, -, -, ⟨k', hk', -, h3, h4⟩, -⟩ := q.2.2
  have e := q.b.mA
  have hA := q.b.hA
  rw [h3] at e
  obtain rfl : k' = A := (nI_eq (by omega) (by omega)).mp e
  have a1 := (h4 k hk 1 (by omega)).2
  have a2 := (h4 k hk 2 (by omega)).2
  replace a1 : (0 : Int) ≤ (gr σ0 59 (75 + 4 * k + 1)).toInt ∧ (gr σ0 59 (75 + 4 * k + 1)).toInt ≤ 59 := a1
  replace a2 : (1 : Int) ≤ (gr σ0 59 (75 + 4 * k + 2)).toInt ∧ (gr σ0 59 (75 + 4 * k + 2)).toInt ≤ 20 := a2
  obtain ⟨a, ha, e1⟩ := nI_ofT (n := 59) a1.1 a1.2
  obtain ⟨l, hl, e2⟩ := nI_ofT (x := gr σ0 59 (75 + 4 * k + 2)) (n := 20) (by omega) a2.2
  refine ⟨a, l, ha, ?_, hl, e1, e2⟩
  rw [e2, nI_toInt (by omega)] at a2
  omega
theorem T_X12_nextAskR {Z : St → Prop} {σ0 : St} {M T S E A U Y L P N : Nat} (q : QB Z σ0 M T S E A U Y L P N) {p0 p1 : Int32} {s : St} (h : Z s) : Ok (fun r s' => Z s' ∧ (r = -1 ∨ ∃ k, k < A ∧ r = nI k ∧ p1.toInt ≤ (gr σ0 59 (75 + 4 * k + 1)).toInt)) (f_X12_nextAsk p0 p1 s) := by
  have qA := q.b.hA
  unfold f_X12_nextAsk
  refine okC (fun (i : Nat) (x : Int32 × Int32 × Int32 × Int32 × St) => x.2.2.2.1 = nI i ∧ x.2.1 = p1 ∧ (x.2.2.1 = -1 ∨ ∃ k, k < A ∧ x.2.2.1 = nI k ∧ p1.toInt ≤ (gr σ0 59 (75 + 4 * k + 1)).toInt) ∧ Z x.2.2.2.2) A ?_ (i := 0) (by unfold FU; omega) (by omega) ⟨rfl, rfl, Or.inl rfl, h⟩
  rintro i ⟨v1, v2, v3, v4, s2⟩ K hi ⟨hv, hw, hx, h2⟩ hK
  dsimp only at hv hw hx h2
  subst hv hw
  unfold g_X12_nextAsk_5 f_X12_nextAsk_62 f_X12_nextAsk_59
  dsimp only
  refine okD rfl ?_
  refine okI (fun _ => okR ⟨h2, hx⟩) (fun c => ?_)
  replace c : i < A := cnt_le (q.at' h2).mA (by omega) c hi
  refine okB (T_X12_bit q h2) ?_
  intro r3 s3 h3
  refine okI (fun _ => ?_) (fun _ => hK _ c ⟨nI_1 _, rfl, hx, h3⟩)
  rw [show f_X12_ofAsk (nI i) (1 : Int32) s3 = some (gr s3 59 (75 + 4 * i + 1), s3) from S_X12_ofAsk s3 (j := 1) (by omega) (by omega), bd_mk]
  refine okI (fun _ => hK _ c ⟨nI_1 _, rfl, hx, h3⟩) (fun c3 => ?_)
  rw [lt_toInt, q.g59 h3] at c3
  have hnew : nI i = -1 ∨ ∃ k, k < A ∧ nI i = nI k ∧ v2.toInt ≤ (gr σ0 59 (75 + 4 * k + 1)).toInt := Or.inr ⟨i, c, rfl, by omega⟩
  refine okI (fun _ => ?_) (fun c4 => ?_)
  · unfold f_X12_nextAsk_62
    exact hK _ c ⟨nI_1 _, rfl, hnew, h3⟩
  obtain ⟨k, hk, rfl, -⟩ := hx.resolve_left c4
  rw [show f_X12_ofAsk (nI i) (1 : Int32) s3 = some (gr s3 59 (75 + 4 * i + 1), s3) from S_X12_ofAsk s3 (j := 1) (by omega) (by omega), bd_mk]
  rw [show f_X12_ofAsk (nI k) (1 : Int32) s3 = some (gr s3 59 (75 + 4 * k + 1), s3) from S_X12_ofAsk s3 (j := 1) (by omega) (by omega), bd_mk]
  refine okI (fun _ => hK _ c ⟨nI_1 _, rfl, hx, h3⟩) (fun _ => ?_)
  unfold f_X12_nextAsk_62
  exact hK _ c ⟨nI_1 _, rfl, hnew, h3⟩
theorem T_X12_canGrant {Z : St → Prop} {σ0 : St} {M T S E A U Y L P N : Nat} (q : QB Z σ0 M T S E A U Y L P N) {p0 p1 : Int32} {s : St} (h : Z s) : Ok (fun _ s' => Z s') (f_X12_canGrant p0 p1 s) := by
  have qA := q.b.hA
  unfold f_X12_canGrant
  refine okB (T_X12_nextAskR q h) ?_
  rintro r1 s1 ⟨h1, hr⟩
  refine okM (fun (x : Int32 × Int32 × Int32 × Int32 × Int32 × St) => (x.2.2.2.2.1 = -1 ∨ ∃ k, k < A ∧ x.2.2.2.2.1 = nI k) ∧ Z x.2.2.2.2.2) (fun x => if x.2.2.2.2.1 = -1 then 0 else 61 - (gr σ0 59 (75 + 4 * x.2.2.2.2.1.toNatClampNeg + 1)).toInt.toNat) ?_ (by
    dsimp only
    by_cases c : r1 = -1
    · rw [if_pos c]; decide
    · rw [if_neg c]; unfold FU; omega) ⟨by
    rcases hr with e | ⟨k, hk, e, -⟩
    · exact Or.inl e
    · exact Or.inr ⟨k, hk, e⟩, h1⟩
  rintro ⟨v1, v2, v3, v4, v6, s2⟩ K ⟨hv, h2⟩ hK
  dsimp only at hv h2 hK
  unfold g_X12_canGrant_17 f_X12_canGrant_86
  dsimp only
  refine okI (fun _ => ?_) (fun c => ?_)
  · refine okB (T_X12_bits q h2) ?_
    intro r3 s3 h3
    exact okI (fun _ => okD rfl (okR h3)) (fun _ => okD rfl (okR h3))
  obtain ⟨k, hk, rfl⟩ := hv.resolve_left c
  have key : ∀ s3, Z s3 → Ok (fun _ s' => Z s') (f_X12_canGrant_41 K v1 v2 v3 (nI k) s3) := by
    intro s3 h3
    unfold f_X12_canGrant_41
    refine okB (T_X12_ofAsk q h3 (j := 0) (by omega) (by omega)) ?_
    intro r4 s4 h4
    unfold f_X12_endOf
    rw [show f_X12_ofAsk (nI k) (1 : Int32) s4 = some (gr s4 59 (75 + 4 * k + 1), s4) from S_X12_ofAsk s4 (j := 1) (by omega) (by omega), bd_mk]
    rw [show f_X12_ofAsk (nI k) (2 : Int32) s4 = some (gr s4 59 (75 + 4 * k + 2), s4) from S_X12_ofAsk s4 (j := 2) (by omega) (by omega), bd_mk, bd_mk, bnd_mk]
    refine okB (T_X12_nextAskR q h4) ?_
    rintro r5 s5 ⟨h5, hr5⟩
    obtain ⟨a, l, ha, hl, hl2, e1, e2⟩ := q.ask hk
    refine hK _ ⟨?_, h5⟩ ?_
    · rcases hr5 with e | ⟨j, hj, e, -⟩
      · exact Or.inl e
      · exact Or.inr ⟨j, hj, e⟩
    · dsimp only
      rw [if_neg c, nI_clamp (by omega), e1, nI_toInt (by omega)]
      rcases hr5 with e | ⟨j, hj, e, hle⟩
      · rw [if_pos e]; omega
      · by_cases c5 : r5 = -1
        · rw [if_pos c5]; omega
        · rw [if_neg c5, e, nI_clamp (by omega)]
          rw [q.g59 h4, e1, e2, nI_add, nI_toInt (by omega)] at hle
          omega
  refine okI (fun _ => key _ h2) (fun _ => ?_)
  rw [show f_X12_ofAsk (nI k) (0 : Int32) s2 = some (gr s2 59 (75 + 4 * k + 0), s2) from S_X12_ofAsk s2 (j := 0) (by omega) (by omega), bd_mk]
  exact okI (fun _ => okD rfl (okR h2)) (fun _ => key _ h2)
theorem T_X12_grantOf {Z : St → Prop} {σ0 : St} {M T S E A U Y L P N : Nat} (q : QB Z σ0 M T S E A U Y L P N) {p0 : Int32} {s : St} (h : Z s) : Ok (fun _ s' => Z s') (f_X12_grantOf p0 s) := by
  have qM := q.b.hM
  have qT := q.b.hT
  have qS := q.b.S512
  have qE := q.b.hE
  have qA := q.b.hA
  have qU := q.b.hU
  have qY := q.b.hY
  have qA2 := q.b.A256
  have qU2 := q.b.U256
  unfold f_X12_grantOf
  refine okC (fun (i : Nat) (x : Int32 × Int32 × Int32 × St) => x.2.2.1 = nI i ∧ Z x.2.2.2) (2 ^ A) ?_ (i := 0) (by unfold FU; omega) (by omega) ⟨rfl, h⟩
  rintro i1 ⟨v8, v9, v10, s6⟩ K2 hi3 ⟨hv5, h7⟩ hK4
  dsimp only at hv5 h7
  subst hv5
  unfold g_X12_grantOf_4
  dsimp only
  refine okD rfl ?_
  refine okI (fun _ => ?_) (fun c11 => ?_)
  ·
    exact okR h7
  ·
    replace c11 : i1 < (2 ^ A) := cnt_le (q.at' h7).rA (by omega) c11 hi3
    refine okC (fun (i : Nat) (x : Int32 × Int32 × Int32 × Int32 × Int32 × St) => x.2.2.2.2.1 = nI i ∧ x.2.2.1 = nI i1 ∧ Z x.2.2.2.2.2) A ?_ (i := 0) (by unfold FU; omega) (by omega) ⟨rfl, rfl, h7⟩
    rintro i12 ⟨v19, v20, v21, v22, v23, s17⟩ K13 hi14 ⟨hv16, hx24, h18⟩ hK15
    dsimp only at hv16 hx24 h18
    subst hv16 hx24
    unfold g_X12_grantOf_23
    dsimp only
    refine okD rfl ?_
    refine okI (fun _ => ?_) (fun c25 => ?_)
    ·
      refine okI (fun c26 => ?_) (fun c26 => ?_)
      ·
        unfold f_X12_grantOf_86
        refine okN ?_
        exact hK4 _ c11 ⟨nI_1 _, h18⟩
      ·
        refine okB (T_X12_canGrant q h18) ?_
        intro r29 s27 h28
        refine okI (fun c30 => ?_) (fun c30 => ?_)
        ·
          unfold f_X12_grantOf_86
          refine okN ?_
          exact hK4 _ c11 ⟨nI_1 _, h28⟩
        ·
          refine okZ (Z := Z) (q.1.2.2 _ _ _ h28 (by decide)) (fun s31 h32 => ?_)
          unfold f_X12_grantOf_86
          refine okN ?_
          exact hK4 _ c11 ⟨nI_1 _, h32⟩
    ·
      replace c25 : i12 < A := cnt_le (q.at' h18).mA (by omega) c25 hi14
      refine okB (T_X12_bit q h18) ?_
      intro r35 s33 h34
      refine okB (T_X12_ofAsk q h34 (j := 3) (by omega) (by omega)) ?_
      intro r38 s36 h37
      refine okN ?_
      refine okN ?_
      exact hK15 _ c25 ⟨nI_1 _, rfl, h37⟩
theorem T_X12_grant {Z : St → Prop} {σ0 : St} {M T S E A U Y L P N : Nat} (q : QB Z σ0 M T S E A U Y L P N)  {s : St} (h : Z s) : Ok (fun _ s' => Z s') (f_X12_grant s) := by
  have qM := q.b.hM
  have qT := q.b.hT
  have qS := q.b.S512
  have qE := q.b.hE
  have qA := q.b.hA
  have qU := q.b.hU
  have qY := q.b.hY
  have qA2 := q.b.A256
  have qU2 := q.b.U256
  unfold f_X12_grant
  refine okB (T_X12_isWar q h) ?_
  intro r3 s1 h2
  refine okI (fun c4 => ?_) (fun c4 => ?_)
  ·
    unfold f_X12_grant_17
    exact okR h2
  ·
    refine okB (T_X12_grantOf q h2) ?_
    intro r7 s5 h6
    unfold f_X12_grant_17
    exact okR h6
theorem T_X12_granted {Z : St → Prop} {σ0 : St} {M T S E A U Y L P N : Nat} (q : QB Z σ0 M T S E A U Y L P N)  {s : St} (h : Z s) : Ok (fun _ s' => Z s') (f_X12_granted s) := by
  have qM := q.b.hM
  have qT := q.b.hT
  have qS := q.b.S512
  have qE := q.b.hE
  have qA := q.b.hA
  have qU := q.b.hU
  have qY := q.b.hY
  have qA2 := q.b.A256
  have qU2 := q.b.U256
  unfold f_X12_granted
  refine okB (T_X12_isWar q h) ?_
  intro r3 s1 h2
  refine okI (fun c4 => ?_) (fun c4 => ?_)
  ·
    exact okR h2
  ·
    refine okB (T_X12_grantOf q h2) ?_
    intro r7 s5 h6
    exact okR h6
theorem T_X12_halves {Z : St → Prop} {σ0 : St} {M T S E A U Y L P N : Nat} (q : QB Z σ0 M T S E A U Y L P N)  {s : St} (h : Z s) : Ok (fun _ s' => Z s') (f_X12_halves s) := by
  have qM := q.b.hM
  have qT := q.b.hT
  have qS := q.b.S512
  have qE := q.b.hE
  have qA := q.b.hA
  have qU := q.b.hU
  have qY := q.b.hY
  have qA2 := q.b.A256
  have qU2 := q.b.U256
  unfold f_X12_halves
  refine okB (T_X12_isWar q h) ?_
  intro r3 s1 h2
  refine okI (fun c4 => ?_) (fun c4 => ?_)
  ·
    unfold f_X12_halves_17
    exact okR h2
  ·
    refine okB (T_X12_grantOf q h2) ?_
    intro r7 s5 h6
    unfold f_X12_halves_17
    exact okR h6
theorem T_X12_halved {Z : St → Prop} {σ0 : St} {M T S E A U Y L P N : Nat} (q : QB Z σ0 M T S E A U Y L P N)  {s : St} (h : Z s) : Ok (fun _ s' => Z s') (f_X12_halved s) := by
  have qM := q.b.hM
  have qT := q.b.hT
  have qS := q.b.S512
  have qE := q.b.hE
  have qA := q.b.hA
  have qU := q.b.hU
  have qY := q.b.hY
  have qA2 := q.b.A256
  have qU2 := q.b.U256
  unfold f_X12_halved
  refine okB (T_X12_isWar q h) ?_
  intro r3 s1 h2
  refine okI (fun c4 => ?_) (fun c4 => ?_)
  ·
    exact okR h2
  ·
    refine okB (T_X12_grantOf q h2) ?_
    intro r7 s5 h6
    exact okR h6
theorem T_X12_dry {Z : St → Prop} {σ0 : St} {M T S E A U Y L P N : Nat} (q : QB Z σ0 M T S E A U Y L P N) {p0 p1 p2 : Int32} {s : St} (h : Z s) : Ok (fun _ s' => Z s') (f_X12_dry p0 p1 p2 s) := by
  unfold f_X12_dry f_X12_dry_40
  refine okB (T_X12_isWar q h) ?_
  intro r1 s1 h1
  refine okI (fun _ => okR h1) (fun _ => ?_)
  rw [S_in, bd_mk]
  refine okI (fun _ => okR h1) (fun c1 => ?_)
  rw [S_in, bd_mk]
  refine okI (fun _ => okR h1) (fun c2 => ?_)
  rw [S_in, bd_mk]
  refine okI (fun _ => okR h1) (fun _ => ?_)
  obtain ⟨a, ha, -, -, rfl⟩ := in_nI (n := 9) c1 (by decide) (by decide)
  obtain ⟨b, hb, -, -, rfl⟩ := in_nI (n := 9) c2 (by decide) (by rw [Int32.toInt_toInt64, nI_toInt (by omega)]; omega)
  refine okC (fun (i : Nat) (x : Int32 × Int32 × Int32 × Int64 × Int64 × Int32 × St) => x.2.2.2.2.2.1 = nI i ∧ x.1 = nI a ∧ x.2.1 = nI b ∧ x.2.2.2.2.1 = 1 ∧ Z x.2.2.2.2.2.2) b ?_ (i := 0) (by unfold FU; omega) (by omega) ⟨rfl, rfl, rfl, rfl, h1⟩
  rintro i ⟨v1, v2, v3, v4, v6, v8, s2⟩ K hi ⟨hv, ha1, hb1, h61, h2⟩ hK
  dsimp only at hv ha1 hb1 h61 h2
  subst hv ha1 hb1 h61
  unfold g_X12_dry_53
  dsimp only
  refine okI (fun _ => ?_) (fun c => ?_)
  · refine okC (fun (i : Nat) (x : Int32 × Int32 × Int32 × Int64 × Int64 × Int32 × St) => x.2.2.2.2.2.1 = nI i ∧ x.1 = nI a ∧ x.2.2.2.2.1 = Int64.ofNat (100 ^ i) ∧ Z x.2.2.2.2.2.2) a ?_ (i := 0) (by unfold FU; omega) (by omega) ⟨rfl, rfl, rfl, h2⟩
    rintro i ⟨v1, v2, v3, v4, v6, v8, s3⟩ K hi ⟨hv, ha1, h61, h3⟩ hK
    dsimp only at hv ha1 h61 h3
    subst hv ha1 h61
    unfold g_X12_dry_84 f_X12_dry_118
    dsimp only
    refine okI (fun _ => ?_) (fun c => ?_)
    · refine okB (T_X12_part q h3 (pow100 i (by omega))) ?_
      intro r4 s4 h4
      exact okR h4
    · replace c := cnt_le rfl (by omega) c hi
      exact okI (fun _ => okD rfl (hK _ c ⟨nI_1 _, rfl, pow100s i, h3⟩)) (fun _ => okD rfl (hK _ c ⟨nI_1 _, rfl, pow100s i, h3⟩))
  · replace c := cnt_le rfl (by omega) c hi
    refine okD ?_ (okN (okN (hK _ c ⟨nI_1 _, rfl, rfl, rfl, h2⟩)))
    rw [Bool.not_eq_true', decide_eq_false_iff_not, nI_1]
    intro e
    have e2 := congrArg Int64.toInt e
    rw [Int32.toInt_toInt64, nI_toInt (by omega)] at e2
    have z0 : (0 : Int64).toInt = 0 := rfl
    omega
theorem T_X12_insist {Z : St → Prop} {σ0 : St} {M T S E A U Y L P N : Nat} (q : QB Z σ0 M T S E A U Y L P N) {p0 : Int32} {s : St} (h : Z s) : Ok (fun _ s' => Z s') (f_X12_insist p0 s) := by
  have qM := q.b.hM
  have qT := q.b.hT
  have qS := q.b.S512
  have qE := q.b.hE
  have qA := q.b.hA
  have qU := q.b.hU
  have qY := q.b.hY
  have qA2 := q.b.A256
  have qU2 := q.b.U256
  unfold f_X12_insist
  refine okB (T_X12_isWar q h) ?_
  intro r3 s1 h2
  refine okI (fun c4 => ?_) (fun c4 => ?_)
  ·
    unfold f_X12_insist_19
    exact okR h2
  ·
    refine okB (T_X12_in q h2) ?_
    intro r7 s5 h6
    refine okI (fun c8 => ?_) (fun c8 => ?_)
    ·
      unfold f_X12_insist_19
      exact okR h6
    ·
      refine okC (fun (i : Nat) (x : Int32 × Int32 × Int32 × St) => x.2.2.1 = nI i ∧ Z x.2.2.2) (60 + 1) ?_ (i := 1) (by unfold FU; omega) (by omega) ⟨rfl, h6⟩
      rintro i9 ⟨v16, v17, v18, s14⟩ K10 hi11 ⟨hv13, h15⟩ hK12
      dsimp only at hv13 h15
      subst hv13
      unfold g_X12_insist_28
      dsimp only
      refine okI (fun _ => ?_) (fun c19 => ?_)
      ·
        exact okR h15
      ·
        replace c19 : i9 < 60 + 1 := cnt_lt rfl (by omega) c19 hi11
        refine okD rfl ?_
        refine okN ?_
        refine okI (fun c20 => ?_) (fun c20 => ?_)
        ·
          refine okN ?_
          exact hK12 _ c19 ⟨nI_1 _, h15⟩
        ·
          exact okR h15
theorem T_X12_drawnDelays {Z : St → Prop} {σ0 : St} {M T S E A U Y L P N : Nat} (q : QB Z σ0 M T S E A U Y L P N) {p0 : Int64} {s : St} (h : Z s) : Ok (fun _ s' => Z s') (f_X12_drawnDelays p0 s) := by
  have qM := q.b.hM
  have qT := q.b.hT
  have qS := q.b.S512
  have qE := q.b.hE
  have qA := q.b.hA
  have qU := q.b.hU
  have qY := q.b.hY
  have qA2 := q.b.A256
  have qU2 := q.b.U256
  unfold f_X12_drawnDelays
  refine okN ?_
  refine okD rfl ?_
  refine okI (fun c1 => ?_) (fun c1 => ?_)
  ·
    refine okC (fun (i : Nat) (x : Int64 × Int32 × Int32 × St) => x.2.2.1 = nI i ∧ Z x.2.2.2) T ?_ (i := 0) (by unfold FU; omega) (by omega) ⟨rfl, h⟩
    rintro i2 ⟨v9, v10, v11, s7⟩ K3 hi4 ⟨hv6, h8⟩ hK5
    dsimp only at hv6 h8
    subst hv6
    unfold g_X12_drawnDelays_42
    dsimp only
    refine okD rfl ?_
    refine okI (fun _ => ?_) (fun c12 => ?_)
    ·
      exact okR h8
    ·
      replace c12 : i2 < T := cnt_le (q.at' h8).mT (by omega) c12 hi4
      refine okN ?_
      refine okB (T_X12_of q h8 (j := 3) (by omega) (by omega)) ?_
      intro r15 s13 h14
      refine okI (fun c16 => ?_) (fun c16 => ?_)
      ·
        unfold f_X12_drawnDelays_98
        refine okN ?_
        refine okN ?_
        exact hK5 _ c12 ⟨nI_1 _, h14⟩
      ·
        unfold f_X12_drawnDelays_98
        refine okN ?_
        refine okN ?_
        exact hK5 _ c12 ⟨nI_1 _, h14⟩
  ·
    exact okR h
theorem T_X12_isSeed {Z : St → Prop} {σ0 : St} {M T S E A U Y L P N : Nat} (q : QB Z σ0 M T S E A U Y L P N) {p0 : Int32} {s : St} (h : Z s) : Ok (fun _ s' => Z s') (f_X12_isSeed p0 s) := by
  have qM := q.b.hM
  have qT := q.b.hT
  have qS := q.b.S512
  have qE := q.b.hE
  have qA := q.b.hA
  have qU := q.b.hU
  have qY := q.b.hY
  have qA2 := q.b.A256
  have qU2 := q.b.U256
  unfold f_X12_isSeed
  refine okB (T_X12_isWar q h) ?_
  intro r3 s1 h2
  refine okI (fun c4 => ?_) (fun c4 => ?_)
  ·
    unfold f_X12_isSeed_23
    unfold f_X12_isSeed_24
    refine okD rfl ?_
    exact okR h2
  ·
    refine okB (T_X12_in q h2) ?_
    intro r7 s5 h6
    refine okI (fun c8 => ?_) (fun c8 => ?_)
    ·
      unfold f_X12_isSeed_23
      unfold f_X12_isSeed_24
      refine okD rfl ?_
      exact okR h6
    ·
      unfold f_X12_isSeed_24
      refine okD rfl ?_
      exact okR h6
theorem T_X12_drawn {Z : St → Prop} {σ0 : St} {M T S E A U Y L P N : Nat} (q : QB Z σ0 M T S E A U Y L P N) {p0 : Int32} {p1 : Int32} {s : St} (h : Z s) : Ok (fun _ s' => Z s') (f_X12_drawn p0 p1 s) := by
  have qM := q.b.hM
  have qT := q.b.hT
  have qS := q.b.S512
  have qE := q.b.hE
  have qA := q.b.hA
  have qU := q.b.hU
  have qY := q.b.hY
  have qA2 := q.b.A256
  have qU2 := q.b.U256
  unfold f_X12_drawn
  refine okB (T_X12_isSeed q h) ?_
  intro r3 s1 h2
  refine okI (fun c4 => ?_) (fun c4 => ?_)
  ·
    unfold f_X12_drawn_20
    exact okR h2
  ·
    refine okB (T_X12_in q h2) ?_
    intro r7 s5 h6
    refine okI (fun c8 => ?_) (fun c8 => ?_)
    ·
      unfold f_X12_drawn_20
      exact okR h6
    ·
      refine okB (T_X12_drawnDelays q h6) ?_
      intro r11 s9 h10
      refine okI (fun c12 => ?_) (fun c12 => ?_)
      ·
        try subst c12
        exact okR h10
      ·
        refine okI (fun c13 => ?_) (fun c13 => ?_)
        ·
          refine okI (fun c14 => ?_) (fun c14 => ?_)
          ·
            try subst c14
            unfold f_X12_drawn_51
            exact okR h10
          ·
            unfold f_X12_drawn_51
            exact okR h10
        ·
          refine okI (fun c15 => ?_) (fun c15 => ?_)
          ·
            try subst c15
            refine okB (T_X12_winner q h10) ?_
            intro r18 s16 h17
            unfold f_X12_drawn_70
            exact okR h17
          ·
            refine okB (T_X12_lastFront q h10) ?_
            intro r21 s19 h20
            unfold f_X12_drawn_70
            exact okR h20
theorem T_X12_luck {Z : St → Prop} {σ0 : St} {M T S E A U Y L P N : Nat} (q : QB Z σ0 M T S E A U Y L P N) {p0 p1 p2 : Int32} {s : St} (h : Z s) : Ok (fun _ s' => Z s') (f_X12_luck p0 p1 p2 s) := by
  unfold f_X12_luck f_X12_luck_28
  refine okB (T_X12_isSeed q h) ?_
  intro r1 s1 h1
  refine okI (fun _ => okR h1) (fun _ => ?_)
  rw [S_in, bd_mk]
  refine okI (fun _ => okR h1) (fun c1 => ?_)
  refine okB (T_X12_isSideR q h1) ?_
  rintro r2 s2 ⟨h2, -⟩
  refine okI (fun _ => okR h2) (fun _ => ?_)
  obtain ⟨a, ha, -, -, rfl⟩ := in_nI (n := 20) c1 (by decide) (by decide)
  refine okC (fun (i : Nat) (x : Int32 × Int32 × Int32 × Int32 × Int32 × St) => x.2.2.2.2.1 = nI i ∧ x.2.1 = nI a ∧ Z x.2.2.2.2.2) a ?_ (i := 0) (by unfold FU; omega) (by omega) ⟨rfl, rfl, h2⟩
  rintro i ⟨v1, v2, v3, v4, v5, s3⟩ K hi ⟨hv, hw, h3⟩ hK
  dsimp only at hv hw h3
  subst hv hw
  unfold g_X12_luck_37 f_X12_luck_77 f_X12_luck_78
  dsimp only
  refine okI (fun _ => okR h3) (fun c => ?_)
  replace c := cnt_le rfl (by omega) c hi
  refine okB (T_X12_drawnDelays q h3) ?_
  intro r4 s4 h4
  refine okI (fun _ => ?_) (fun _ => ?_)
  · exact okN (okN (hK _ c ⟨nI_1 _, rfl, h4⟩))
  refine okB (T_X12_winner q h4) ?_
  intro r5 s5 h5
  exact okI (fun _ => okN (okN (hK _ c ⟨nI_1 _, rfl, h5⟩))) (fun _ => okN (okN (hK _ c ⟨nI_1 _, rfl, h5⟩)))
theorem T_X12_count {Z : St → Prop} {σ0 : St} {M T S E A U Y L P N : Nat} (q : QB Z σ0 M T S E A U Y L P N) {p0 : Int32} {s : St} (h : Z s) : Ok (fun _ s' => Z s') (f_X12_count p0 s) := by
  have qM := q.b.hM
  have qT := q.b.hT
  have qS := q.b.S512
  have qE := q.b.hE
  have qA := q.b.hA
  have qU := q.b.hU
  have qY := q.b.hY
  have qA2 := q.b.A256
  have qU2 := q.b.U256
  unfold f_X12_count
  refine okI (fun c1 => ?_) (fun c1 => ?_)
  ·
    try subst c1
    refine okD rfl ?_
    exact okR h
  ·
    refine okI (fun c2 => ?_) (fun c2 => ?_)
    ·
      try subst c2
      refine okD rfl ?_
      exact okR h
    ·
      refine okI (fun c3 => ?_) (fun c3 => ?_)
      ·
        try subst c3
        refine okD rfl ?_
        exact okR h
      ·
        refine okI (fun c4 => ?_) (fun c4 => ?_)
        ·
          try subst c4
          refine okD rfl ?_
          exact okR h
        ·
          refine okI (fun c5 => ?_) (fun c5 => ?_)
          ·
            try subst c5
            refine okD rfl ?_
            exact okR h
          ·
            refine okI (fun c6 => ?_) (fun c6 => ?_)
            ·
              try subst c6
              refine okD rfl ?_
              exact okR h
            ·
              refine okI (fun c7 => ?_) (fun c7 => ?_)
              ·
                try subst c7
                refine okD rfl ?_
                exact okR h
              ·
                refine okI (fun c8 => ?_) (fun c8 => ?_)
                ·
                  try subst c8
                  refine okD rfl ?_
                  exact okR h
                ·
                  refine okI (fun c9 => ?_) (fun c9 => ?_)
                  ·
                    try subst c9
                    refine okD rfl ?_
                    exact okR h
                  ·
                    refine okI (fun c10 => ?_) (fun c10 => ?_)
                    ·
                      try subst c10
                      refine okD rfl ?_
                      exact okR h
                    ·
                      refine okI (fun c11 => ?_) (fun c11 => ?_)
                      ·
                        try subst c11
                        exact okR h
                      ·
                        refine okI (fun c12 => ?_) (fun c12 => ?_)
                        ·
                          try subst c12
                          refine okD rfl ?_
                          exact okR h
                        ·
                          refine okI (fun c13 => ?_) (fun c13 => ?_)
                          ·
                            try subst c13
                            refine okC (fun (i : Nat) (x : Int32 × Int32 × St) => x.2.1 = nI i ∧ Z x.2.2) 4 ?_ (i := 0) (by unfold FU; omega) (by omega) ⟨rfl, h⟩
                            rintro i14 ⟨v21, v22, s19⟩ K15 hi16 ⟨hv18, h20⟩ hK17
                            dsimp only at hv18 h20
                            subst hv18
                            unfold g_X12_count_157
                            dsimp only
                            refine okI (fun _ => ?_) (fun c23 => ?_)
                            ·
                              exact okR h20
                            ·
                              replace c23 : i14 < 4 := cnt_le rfl (by omega) c23 hi16
                              refine okD (inb_ln (n := 4) rfl (by omega) (by omega)) ?_
                              refine okI (fun c24 => ?_) (fun c24 => ?_)
                              ·
                                unfold f_X12_count_178
                                refine okN ?_
                                refine okN ?_
                                exact hK17 _ c23 ⟨nI_1 _, h20⟩
                              ·
                                unfold f_X12_count_178
                                refine okN ?_
                                refine okN ?_
                                exact hK17 _ c23 ⟨nI_1 _, h20⟩
                          ·
                            exact okR h
