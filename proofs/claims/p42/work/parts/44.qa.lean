/-! ===== questions of the class, 0 .. 44 ===== -/
theorem T_X1_wednesdaysToInsist {Z : St → Prop} {σ0 : St} {M T S E A U Y L P N : Nat} (q : ZB Z σ0 M T S E A U Y L P N) {p0 : Int32} {p1 : Int32} {s : St} (h : Z s) : Ok (fun _ s' => Z s') (f_X1_wednesdaysToInsist p0 p1 s) := by
  have qM := q.b.hM
  have qT := q.b.hT
  have qS := q.b.S512
  have qE := q.b.hE
  have qA := q.b.hA
  have qU := q.b.hU
  have qY := q.b.hY
  have qA2 := q.b.A256
  have qU2 := q.b.U256
  unfold f_X1_wednesdaysToInsist
  refine okC (fun (i : Nat) (x : Int32 × Int32 × Int32 × Int32 × St) => x.2.2.2.1 = nI i ∧ Z x.2.2.2.2) (60 + 1) ?_ (i := 1) (by unfold FU; omega) (by omega) ⟨rfl, h⟩
  rintro i1 ⟨v8, v9, v10, v11, s6⟩ K2 hi3 ⟨hv5, h7⟩ hK4
  dsimp only at hv5 h7
  subst hv5
  unfold g_X1_wednesdaysToInsist_5
  dsimp only
  refine okI (fun _ => ?_) (fun c12 => ?_)
  ·
    exact okR h7
  ·
    replace c12 : i1 < 60 + 1 := cnt_lt rfl (by omega) c12 hi3
    refine okN ?_
    refine okI (fun c13 => ?_) (fun c13 => ?_)
    ·
      refine okN ?_
      exact hK4 _ c12 ⟨nI_1 _, h7⟩
    ·
      exact okR h7
theorem T_X1_next {Z : St → Prop} {σ0 : St} {M T S E A U Y L P N : Nat} (q : ZB Z σ0 M T S E A U Y L P N) {p0 : Int64} {s : St} (h : Z s) : Ok (fun _ s' => Z s') (f_X1_next p0 s) := by
  have qM := q.b.hM
  have qT := q.b.hT
  have qS := q.b.S512
  have qE := q.b.hE
  have qA := q.b.hA
  have qU := q.b.hU
  have qY := q.b.hY
  have qA2 := q.b.A256
  have qU2 := q.b.U256
  unfold f_X1_next
  exact okR h
theorem T_X1_draw {Z : St → Prop} {σ0 : St} {M T S E A U Y L P N : Nat} (q : ZB Z σ0 M T S E A U Y L P N) {p0 : Int64} {s : St} (h : Z s) : Ok (fun _ s' => Z s') (f_X1_draw p0 s) := by
  have qM := q.b.hM
  have qT := q.b.hT
  have qS := q.b.S512
  have qE := q.b.hE
  have qA := q.b.hA
  have qU := q.b.hU
  have qY := q.b.hY
  have qA2 := q.b.A256
  have qU2 := q.b.U256
  unfold f_X1_draw
  exact okR h
theorem T_X1_commonDivisor {Z : St → Prop} {σ0 : St} {M T S E A U Y L P N : Nat} (q : ZB Z σ0 M T S E A U Y L P N) {p0 : Int64} {p1 : Int64} {s : St} (h : Z s) : Ok (fun _ s' => Z s') (f_X1_commonDivisor p0 p1 s) := by
  have qM := q.b.hM
  have qT := q.b.hT
  have qS := q.b.S512
  have qE := q.b.hE
  have qA := q.b.hA
  have qU := q.b.hU
  have qY := q.b.hY
  have qA2 := q.b.A256
  have qU2 := q.b.U256
  unfold f_X1_commonDivisor
  refine okC (fun (i : Nat) (x : Int64 × Int64 × Int32 × St) => x.2.2.1 = nI i ∧ Z x.2.2.2) 200 ?_ (i := 0) (by unfold FU; omega) (by omega) ⟨rfl, h⟩
  rintro i1 ⟨v8, v9, v10, s6⟩ K2 hi3 ⟨hv5, h7⟩ hK4
  dsimp only at hv5 h7
  subst hv5
  unfold g_X1_commonDivisor_3
  dsimp only
  refine okI (fun _ => ?_) (fun c11 => ?_)
  ·
    unfold f_X1_commonDivisor_33
    exact okR h7
  ·
    replace c11 : i1 < 200 := cnt_le rfl (by omega) c11 hi3
    refine okI (fun c12 => ?_) (fun c12 => ?_)
    ·
      unfold f_X1_commonDivisor_33
      exact okR h7
    ·
      refine okD (ndz (by assumption)) ?_
      refine okN ?_
      refine okN ?_
      exact hK4 _ c11 ⟨nI_1 _, h7⟩
theorem T_X2_frontBehind {Z : St → Prop} {σ0 : St} {M T S E A U Y L P N : Nat} (q : ZB Z σ0 M T S E A U Y L P N) {p0 : Int32} {s : St} (h : Z s) : Ok (fun _ s' => Z s') (f_X2_frontBehind p0 s) := by
  have qM := q.b.hM
  have qT := q.b.hT
  have qS := q.b.S512
  have qE := q.b.hE
  have qA := q.b.hA
  have qU := q.b.hU
  have qY := q.b.hY
  have qA2 := q.b.A256
  have qU2 := q.b.U256
  unfold f_X2_frontBehind
  refine okI (fun c1 => ?_) (fun c1 => ?_)
  ·
    unfold f_X2_frontBehind_22
    unfold f_X2_frontBehind_23
    exact okR h
  ·
    refine okI (fun c2 => ?_) (fun c2 => ?_)
    ·
      unfold f_X2_frontBehind_22
      unfold f_X2_frontBehind_23
      exact okR h
    ·
      refine okD (inb_cond (n := 61) (by assumption) (by assumption) rfl ⟨rfl, by decide⟩) ?_
      unfold f_X2_frontBehind_23
      exact okR h
theorem T_X2_farthestFrom {Z : St → Prop} {σ0 : St} {M T S E A U Y L P N : Nat} (q : ZB Z σ0 M T S E A U Y L P N) {p0 : Int32} {s : St} (h : Z s) (hp : ∃ k : Nat, p0 = nI k ∧ k ≤ 1000) : Ok (fun _ s' => Z s') (f_X2_farthestFrom p0 s) := T_X2_farthestFrom0 q h (fun h => T_X2_frontBehind q h) hp
theorem T_X2_treatyEnds {Z : St → Prop} {σ0 : St} {M T S E A U Y L P N : Nat} (q : ZB Z σ0 M T S E A U Y L P N)  {s : St} (h : Z s) : Ok (fun _ s' => Z s') (f_X2_treatyEnds s) := by
  have qM := q.b.hM
  have qT := q.b.hT
  have qS := q.b.S512
  have qE := q.b.hE
  have qA := q.b.hA
  have qU := q.b.hU
  have qY := q.b.hY
  have qA2 := q.b.A256
  have qU2 := q.b.U256
  unfold f_X2_treatyEnds
  refine okC (fun (i : Nat) (x : Int64 × Int32 × St) => x.2.1 = nI i ∧ Z x.2.2) (M + 1) ?_ (i := 1) (by unfold FU; omega) (by omega) ⟨rfl, h⟩
  rintro i1 ⟨v8, v9, s6⟩ K2 hi3 ⟨hv5, h7⟩ hK4
  dsimp only at hv5 h7
  subst hv5
  unfold g_X2_treatyEnds_4
  dsimp only
  refine okI (fun _ => ?_) (fun c10 => ?_)
  ·
    exact okR h7
  ·
    replace c10 : i1 < M + 1 := cnt_lt (q.at' h7).cM (by omega) c10 hi3
    refine okB (T_X2_farthestFrom q h7 ⟨_, rfl, by omega⟩) ?_
    intro r13 s11 h12
    refine okI (fun c14 => ?_) (fun c14 => ?_)
    ·
      unfold f_X2_treatyEnds_38
      refine okN ?_
      exact hK4 _ c10 ⟨nI_1 _, h12⟩
    ·
      refine okN ?_
      unfold f_X2_treatyEnds_38
      refine okN ?_
      exact hK4 _ c10 ⟨nI_1 _, h12⟩
theorem T_X2_reckonedWinner {Z : St → Prop} {σ0 : St} {M T S E A U Y L P N : Nat} (q : ZB Z σ0 M T S E A U Y L P N) {p0 : Int32} {s : St} (h : Z s) : Ok (fun _ s' => Z s') (f_X2_reckonedWinner p0 s) := by
  have qM := q.b.hM
  have qT := q.b.hT
  have qS := q.b.S512
  have qE := q.b.hE
  have qA := q.b.hA
  have qU := q.b.hU
  have qY := q.b.hY
  have qA2 := q.b.A256
  have qU2 := q.b.U256
  unfold f_X2_reckonedWinner
  refine okI (fun c1 => ?_) (fun c1 => ?_)
  ·
    unfold f_X2_reckonedWinner_20
    unfold f_X2_reckonedWinner_21
    exact okR h
  ·
    refine okI (fun c2 => ?_) (fun c2 => ?_)
    ·
      unfold f_X2_reckonedWinner_20
      unfold f_X2_reckonedWinner_21
      exact okR h
    ·
      refine okD (inb_cond (n := 512) (by assumption) (by assumption) rfl ⟨rfl, by decide⟩) ?_
      unfold f_X2_reckonedWinner_21
      exact okR h
theorem T_X2_winner {Z : St → Prop} {σ0 : St} {M T S E A U Y L P N : Nat} (q : ZB Z σ0 M T S E A U Y L P N) {p0 : Int32} {p1 : Int32} {s : St} (h : Z s) : Ok (fun _ s' => Z s') (f_X2_winner p0 p1 s) := by
  have qM := q.b.hM
  have qT := q.b.hT
  have qS := q.b.S512
  have qE := q.b.hE
  have qA := q.b.hA
  have qU := q.b.hU
  have qY := q.b.hY
  have qA2 := q.b.A256
  have qU2 := q.b.U256
  unfold f_X2_winner
  refine okI (fun c1 => ?_) (fun c1 => ?_)
  ·
    try subst c1
    exact okR h
  ·
    refine okI (fun c2 => ?_) (fun c2 => ?_)
    ·
      try subst c2
      exact okR h
    ·
      refine okI (fun c3 => ?_) (fun c3 => ?_)
      ·
        refine okI (fun c4 => ?_) (fun c4 => ?_)
        ·
          unfold f_X2_winner_49
          exact okR h
        ·
          unfold f_X2_winner_49
          exact okR h
      ·
        unfold f_X2_winner_49
        exact okR h
theorem T_X2_good {Z : St → Prop} {σ0 : St} {M T S E A U Y L P N : Nat} (q : ZB Z σ0 M T S E A U Y L P N) {p0 : Int32} {p1 : Int32} {s : St} (h : Z s) : Ok (fun _ s' => Z s') (f_X2_good p0 p1 s) := by
  have qM := q.b.hM
  have qT := q.b.hT
  have qS := q.b.S512
  have qE := q.b.hE
  have qA := q.b.hA
  have qU := q.b.hU
  have qY := q.b.hY
  have qA2 := q.b.A256
  have qU2 := q.b.U256
  unfold f_X2_good
  refine okI (fun c1 => ?_) (fun c1 => ?_)
  ·
    try subst c1
    unfold f_X2_good_10
    exact okR h
  ·
    unfold f_X2_good_10
    exact okR h
theorem T_X2_signOf {Z : St → Prop} {σ0 : St} {M T S E A U Y L P N : Nat} (q : ZB Z σ0 M T S E A U Y L P N) {p0 : Int32} {s : St} (h : Z s) : Ok (fun _ s' => Z s') (f_X2_signOf p0 s) := by
  have qM := q.b.hM
  have qT := q.b.hT
  have qS := q.b.S512
  have qE := q.b.hE
  have qA := q.b.hA
  have qU := q.b.hU
  have qY := q.b.hY
  have qA2 := q.b.A256
  have qU2 := q.b.U256
  unfold f_X2_signOf
  refine okI (fun c1 => ?_) (fun c1 => ?_)
  ·
    refine okI (fun c2 => ?_) (fun c2 => ?_)
    ·
      unfold f_X2_signOf_17
      exact okR h
    ·
      unfold f_X2_signOf_17
      exact okR h
  ·
    unfold f_X2_signOf_17
    exact okR h
theorem T_X3_isBought {Z : St → Prop} {σ0 : St} {M T S E A U Y L P N : Nat} (q : ZB Z σ0 M T S E A U Y L P N) {p0 : Int32} {p1 : Int32} {p2 : Int32} {s : St} (h : Z s) : Ok (fun _ s' => Z s') (f_X3_isBought p0 p1 p2 s) := by
  have qM := q.b.hM
  have qT := q.b.hT
  have qS := q.b.S512
  have qE := q.b.hE
  have qA := q.b.hA
  have qU := q.b.hU
  have qY := q.b.hY
  have qA2 := q.b.A256
  have qU2 := q.b.U256
  unfold f_X3_isBought
  refine okI (fun c1 => ?_) (fun c1 => ?_)
  ·
    unfold f_X3_isBought_41
    unfold f_X3_isBought_42
    refine okD rfl ?_
    exact okR h
  ·
    refine okI (fun c2 => ?_) (fun c2 => ?_)
    ·
      unfold f_X3_isBought_41
      unfold f_X3_isBought_42
      refine okD rfl ?_
      exact okR h
    ·
      refine okD (inb_and rfl (by assumption) (by assumption)) ?_
      refine okI (fun c3 => ?_) (fun c3 => ?_)
      ·
        unfold f_X3_isBought_41
        unfold f_X3_isBought_42
        refine okD rfl ?_
        exact okR h
      ·
        refine okD (inb_and rfl (by assumption) (by assumption)) ?_
        refine okI (fun c4 => ?_) (fun c4 => ?_)
        ·
          unfold f_X3_isBought_41
          unfold f_X3_isBought_42
          refine okD rfl ?_
          exact okR h
        ·
          unfold f_X3_isBought_42
          refine okD rfl ?_
          exact okR h
theorem T_X3_orPriceless {Z : St → Prop} {σ0 : St} {M T S E A U Y L P N : Nat} (q : ZB Z σ0 M T S E A U Y L P N) {p0 : Int32} {s : St} (h : Z s) : Ok (fun _ s' => Z s') (f_X3_orPriceless p0 s) := by
  have qM := q.b.hM
  have qT := q.b.hT
  have qS := q.b.S512
  have qE := q.b.hE
  have qA := q.b.hA
  have qU := q.b.hU
  have qY := q.b.hY
  have qA2 := q.b.A256
  have qU2 := q.b.U256
  unfold f_X3_orPriceless
  refine okI (fun c1 => ?_) (fun c1 => ?_)
  ·
    unfold f_X3_orPriceless_20
    unfold f_X3_orPriceless_22
    exact okR h
  ·
    refine okI (fun c2 => ?_) (fun c2 => ?_)
    ·
      unfold f_X3_orPriceless_20
      unfold f_X3_orPriceless_22
      exact okR h
    ·
      refine okD (inb_cond (n := 512) (by assumption) (by assumption) rfl ⟨rfl, by decide⟩) ?_
      unfold f_X3_orPriceless_22
      exact okR h
theorem T_X4_allReadings {Z : St → Prop} {σ0 : St} {M T S E A U Y L P N : Nat} (q : ZB Z σ0 M T S E A U Y L P N)  {s : St} (h : Z s) : Ok (fun _ s' => Z s') (f_X4_allReadings s) := by
  have qM := q.b.hM
  have qT := q.b.hT
  have qS := q.b.S512
  have qE := q.b.hE
  have qA := q.b.hA
  have qU := q.b.hU
  have qY := q.b.hY
  have qA2 := q.b.A256
  have qU2 := q.b.U256
  unfold f_X4_allReadings
  exact okR h
theorem T_X7_countRows {Z : St → Prop} {σ0 : St} {M T S E A U Y L P N : Nat} (q : ZB Z σ0 M T S E A U Y L P N)  {s : St} (h : Z s) : Ok (fun _ s' => Z s') (f_X7_countRows s) := by
  have qM := q.b.hM
  have qT := q.b.hT
  have qS := q.b.S512
  have qE := q.b.hE
  have qA := q.b.hA
  have qU := q.b.hU
  have qY := q.b.hY
  have qA2 := q.b.A256
  have qU2 := q.b.U256
  unfold f_X7_countRows
  refine okC (fun (i : Nat) (x : Int32 × Int32 × St) => x.2.1 = nI i ∧ Z x.2.2) 4 ?_ (i := 0) (by unfold FU; omega) (by omega) ⟨rfl, h⟩
  rintro i1 ⟨v8, v9, s6⟩ K2 hi3 ⟨hv5, h7⟩ hK4
  dsimp only at hv5 h7
  subst hv5
  unfold g_X7_countRows_4
  dsimp only
  refine okI (fun _ => ?_) (fun c10 => ?_)
  ·
    exact okR h7
  ·
    replace c10 : i1 < 4 := cnt_le rfl (by omega) c10 hi3
    refine okD (inb_ln (n := 4) rfl (by omega) (by omega)) ?_
    refine okI (fun c11 => ?_) (fun c11 => ?_)
    ·
      unfold f_X7_countRows_21
      refine okN ?_
      exact hK4 _ c10 ⟨nI_1 _, h7⟩
    ·
      refine okN ?_
      unfold f_X7_countRows_21
      refine okN ?_
      exact hK4 _ c10 ⟨nI_1 _, h7⟩
theorem T_X11_train {Z : St → Prop} {σ0 : St} {M T S E A U Y L P N : Nat} (q : ZB Z σ0 M T S E A U Y L P N) {p0 : Int32} {p1 : Int32} {s : St} (h : Z s) : Ok (fun _ s' => Z s') (f_X11_train p0 p1 s) := by
  have qM := q.b.hM
  have qT := q.b.hT
  have qS := q.b.S512
  have qE := q.b.hE
  have qA := q.b.hA
  have qU := q.b.hU
  have qY := q.b.hY
  have qA2 := q.b.A256
  have qU2 := q.b.U256
  unfold f_X11_train
  refine okB (T_X9_cell3 q h) ?_
  intro r3 s1 h2
  exact okR h2
theorem T_X11_need {Z : St → Prop} {σ0 : St} {M T S E A U Y L P N : Nat} (q : ZB Z σ0 M T S E A U Y L P N) {p0 : Int32} {s : St} (h : Z s) : Ok (fun _ s' => Z s') (f_X11_need p0 s) := by
  have qM := q.b.hM
  have qT := q.b.hT
  have qS := q.b.S512
  have qE := q.b.hE
  have qA := q.b.hA
  have qU := q.b.hU
  have qY := q.b.hY
  have qA2 := q.b.A256
  have qU2 := q.b.U256
  unfold f_X11_need
  refine okB (T_X10_hasSide q h) ?_
  intro r3 s1 h2
  refine okI (fun c4 => ?_) (fun c4 => ?_)
  ·
    unfold f_X11_need_24
    exact okR h2
  ·
    refine okB (T_X10_needOf q h2) ?_
    intro r7 s5 h6
    unfold f_X11_need_24
    exact okR h6
theorem T_X11_tea {Z : St → Prop} {σ0 : St} {M T S E A U Y L P N : Nat} (q : ZB Z σ0 M T S E A U Y L P N) {p0 : Int32} {s : St} (h : Z s) : Ok (fun _ s' => Z s') (f_X11_tea p0 s) := by
  have qM := q.b.hM
  have qT := q.b.hT
  have qS := q.b.S512
  have qE := q.b.hE
  have qA := q.b.hA
  have qU := q.b.hU
  have qY := q.b.hY
  have qA2 := q.b.A256
  have qU2 := q.b.U256
  unfold f_X11_tea
  refine okB (T_X10_isTold q h) ?_
  intro r3 s1 h2
  refine okI (fun c4 => ?_) (fun c4 => ?_)
  ·
    unfold f_X11_tea_25
    exact okR h2
  ·
    refine okI (fun c5 => ?_) (fun c5 => ?_)
    ·
      unfold f_X11_tea_25
      exact okR h2
    ·
      refine okI (fun c6 => ?_) (fun c6 => ?_)
      ·
        refine okB (T_X10_isTea q h2) ?_
        intro r9 s7 h8
        refine okI (fun c10 => ?_) (fun c10 => ?_)
        ·
          unfold f_X11_tea_44
          exact okR h8
        ·
          unfold f_X11_tea_44
          exact okR h8
      ·
        unfold f_X11_tea_25
        exact okR h2
theorem T_X11_cannon {Z : St → Prop} {σ0 : St} {M T S E A U Y L P N : Nat} (q : ZB Z σ0 M T S E A U Y L P N) {p0 : Int32} {p1 : Int32} {s : St} (h : Z s) : Ok (fun _ s' => Z s') (f_X11_cannon p0 p1 s) := by
  have qM := q.b.hM
  have qT := q.b.hT
  have qS := q.b.S512
  have qE := q.b.hE
  have qA := q.b.hA
  have qU := q.b.hU
  have qY := q.b.hY
  have qA2 := q.b.A256
  have qU2 := q.b.U256
  unfold f_X11_cannon
  refine okB (T_X9_cell7 q h) ?_
  intro r3 s1 h2
  exact okR h2
theorem T_X11_rule {Z : St → Prop} {σ0 : St} {M T S E A U Y L P N : Nat} (q : ZB Z σ0 M T S E A U Y L P N) {p0 : Int32} {p1 : Int32} {s : St} (h : Z s) : Ok (fun _ s' => Z s') (f_X11_rule p0 p1 s) := by
  have qM := q.b.hM
  have qT := q.b.hT
  have qS := q.b.S512
  have qE := q.b.hE
  have qA := q.b.hA
  have qU := q.b.hU
  have qY := q.b.hY
  have qA2 := q.b.A256
  have qU2 := q.b.U256
  unfold f_X11_rule
  refine okB (T_X9_cell9 q h) ?_
  intro r3 s1 h2
  exact okR h2
theorem T_X11_spy {Z : St → Prop} {σ0 : St} {M T S E A U Y L P N : Nat} (q : ZB Z σ0 M T S E A U Y L P N) {p0 : Int32} {s : St} (h : Z s) : Ok (fun _ s' => Z s') (f_X11_spy p0 s) := by
  have qM := q.b.hM
  have qT := q.b.hT
  have qS := q.b.S512
  have qE := q.b.hE
  have qA := q.b.hA
  have qU := q.b.hU
  have qY := q.b.hY
  have qA2 := q.b.A256
  have qU2 := q.b.U256
  unfold f_X11_spy
  refine okB (T_X9_cell11 q h) ?_
  intro r3 s1 h2
  exact okR h2
theorem T_X11_count {Z : St → Prop} {σ0 : St} {M T S E A U Y L P N : Nat} (q : ZB Z σ0 M T S E A U Y L P N) {p0 : Int32} {s : St} (h : Z s) : Ok (fun _ s' => Z s') (f_X11_count p0 s) := by
  have qM := q.b.hM
  have qT := q.b.hT
  have qS := q.b.S512
  have qE := q.b.hE
  have qA := q.b.hA
  have qU := q.b.hU
  have qY := q.b.hY
  have qA2 := q.b.A256
  have qU2 := q.b.U256
  unfold f_X11_count
  refine okI (fun c1 => ?_) (fun c1 => ?_)
  ·
    try subst c1
    exact okR h
  ·
    refine okI (fun c2 => ?_) (fun c2 => ?_)
    ·
      try subst c2
      exact okR h
    ·
      refine okI (fun c3 => ?_) (fun c3 => ?_)
      ·
        try subst c3
        exact okR h
      ·
        refine okI (fun c4 => ?_) (fun c4 => ?_)
        ·
          try subst c4
          exact okR h
        ·
          refine okI (fun c5 => ?_) (fun c5 => ?_)
          ·
            try subst c5
            exact okR h
          ·
            refine okI (fun c6 => ?_) (fun c6 => ?_)
            ·
              try subst c6
              exact okR h
            ·
              refine okI (fun c7 => ?_) (fun c7 => ?_)
              ·
                try subst c7
                exact okR h
              ·
                refine okI (fun c8 => ?_) (fun c8 => ?_)
                ·
                  try subst c8
                  exact okR h
                ·
                  refine okI (fun c9 => ?_) (fun c9 => ?_)
                  ·
                    try subst c9
                    exact okR h
                  ·
                    refine okI (fun c10 => ?_) (fun c10 => ?_)
                    ·
                      try subst c10
                      exact okR h
                    ·
                      refine okI (fun c11 => ?_) (fun c11 => ?_)
                      ·
                        try subst c11
                        exact okR h
                      ·
                        refine okI (fun c12 => ?_) (fun c12 => ?_)
                        ·
                          try subst c12
                          exact okR h
                        ·
                          refine okI (fun c13 => ?_) (fun c13 => ?_)
                          ·
                            try subst c13
                            refine okB (T_X7_countRows q h) ?_
                            intro r16 s14 h15
                            exact okR h15
                          ·
                            exact okR h
theorem T_X11_isMinute {Z : St → Prop} {σ0 : St} {M T S E A U Y L P N : Nat} (q : ZB Z σ0 M T S E A U Y L P N) {p0 : Int32} {s : St} (h : Z s) : Ok (fun _ s' => Z s') (f_X11_isMinute p0 s) := by
  have qM := q.b.hM
  have qT := q.b.hT
  have qS := q.b.S512
  have qE := q.b.hE
  have qA := q.b.hA
  have qU := q.b.hU
  have qY := q.b.hY
  have qA2 := q.b.A256
  have qU2 := q.b.U256
  unfold f_X11_isMinute
  refine okI (fun c1 => ?_) (fun c1 => ?_)
  ·
    unfold f_X11_isMinute_14
    unfold f_X11_isMinute_15
    refine okD rfl ?_
    exact okR h
  ·
    refine okI (fun c2 => ?_) (fun c2 => ?_)
    ·
      unfold f_X11_isMinute_14
      unfold f_X11_isMinute_15
      refine okD rfl ?_
      exact okR h
    ·
      unfold f_X11_isMinute_15
      refine okD rfl ?_
      exact okR h
theorem T_X11_isPeaceMinute {Z : St → Prop} {σ0 : St} {M T S E A U Y L P N : Nat} (q : ZB Z σ0 M T S E A U Y L P N) {p0 : Int32} {s : St} (h : Z s) : Ok (fun _ s' => Z s') (f_X11_isPeaceMinute p0 s) := by
  have qM := q.b.hM
  have qT := q.b.hT
  have qS := q.b.S512
  have qE := q.b.hE
  have qA := q.b.hA
  have qU := q.b.hU
  have qY := q.b.hY
  have qA2 := q.b.A256
  have qU2 := q.b.U256
  unfold f_X11_isPeaceMinute
  refine okB (T_X10_isTold q h) ?_
  intro r3 s1 h2
  refine okI (fun c4 => ?_) (fun c4 => ?_)
  ·
    unfold f_X11_isPeaceMinute_24
    unfold f_X11_isPeaceMinute_25
    refine okD rfl ?_
    exact okR h2
  ·
    refine okI (fun c5 => ?_) (fun c5 => ?_)
    ·
      unfold f_X11_isPeaceMinute_24
      unfold f_X11_isPeaceMinute_25
      refine okD rfl ?_
      exact okR h2
    ·
      refine okI (fun c6 => ?_) (fun c6 => ?_)
      ·
        unfold f_X11_isPeaceMinute_24
        unfold f_X11_isPeaceMinute_25
        refine okD rfl ?_
        exact okR h2
      ·
        unfold f_X11_isPeaceMinute_25
        refine okD rfl ?_
        exact okR h2
theorem T_X11_isPart {Z : St → Prop} {σ0 : St} {M T S E A U Y L P N : Nat} (q : ZB Z σ0 M T S E A U Y L P N) {p0 : Int32} {s : St} (h : Z s) : Ok (fun _ s' => Z s') (f_X11_isPart p0 s) := by
  have qM := q.b.hM
  have qT := q.b.hT
  have qS := q.b.S512
  have qE := q.b.hE
  have qA := q.b.hA
  have qU := q.b.hU
  have qY := q.b.hY
  have qA2 := q.b.A256
  have qU2 := q.b.U256
  unfold f_X11_isPart
  refine okI (fun c1 => ?_) (fun c1 => ?_)
  ·
    try subst c1
    unfold f_X11_isPart_9
    unfold f_X11_isPart_14
    refine okD rfl ?_
    exact okR h
  ·
    refine okI (fun c2 => ?_) (fun c2 => ?_)
    ·
      try subst c2
      unfold f_X11_isPart_9
      unfold f_X11_isPart_14
      refine okD rfl ?_
      exact okR h
    ·
      unfold f_X11_isPart_14
      refine okD rfl ?_
      exact okR h
theorem T_X11_isPercent {Z : St → Prop} {σ0 : St} {M T S E A U Y L P N : Nat} (q : ZB Z σ0 M T S E A U Y L P N) {p0 : Int32} {s : St} (h : Z s) : Ok (fun _ s' => Z s') (f_X11_isPercent p0 s) := by
  have qM := q.b.hM
  have qT := q.b.hT
  have qS := q.b.S512
  have qE := q.b.hE
  have qA := q.b.hA
  have qU := q.b.hU
  have qY := q.b.hY
  have qA2 := q.b.A256
  have qU2 := q.b.U256
  unfold f_X11_isPercent
  refine okI (fun c1 => ?_) (fun c1 => ?_)
  ·
    unfold f_X11_isPercent_14
    unfold f_X11_isPercent_15
    refine okD rfl ?_
    exact okR h
  ·
    refine okI (fun c2 => ?_) (fun c2 => ?_)
    ·
      unfold f_X11_isPercent_14
      unfold f_X11_isPercent_15
      refine okD rfl ?_
      exact okR h
    ·
      unfold f_X11_isPercent_15
      refine okD rfl ?_
      exact okR h
theorem T_X11_isRisk {Z : St → Prop} {σ0 : St} {M T S E A U Y L P N : Nat} (q : ZB Z σ0 M T S E A U Y L P N) {p0 : Int32} {p1 : Int32} {s : St} (h : Z s) : Ok (fun _ s' => Z s') (f_X11_isRisk p0 p1 s) := by
  have qM := q.b.hM
  have qT := q.b.hT
  have qS := q.b.S512
  have qE := q.b.hE
  have qA := q.b.hA
  have qU := q.b.hU
  have qY := q.b.hY
  have qA2 := q.b.A256
  have qU2 := q.b.U256
  unfold f_X11_isRisk
  refine okB (T_X10_hasSide q h) ?_
  intro r3 s1 h2
  refine okI (fun c4 => ?_) (fun c4 => ?_)
  ·
    unfold f_X11_isRisk_22
    unfold f_X11_isRisk_23
    refine okD rfl ?_
    exact okR h2
  ·
    refine okB (T_X11_isPercent q h2) ?_
    intro r7 s5 h6
    refine okI (fun c8 => ?_) (fun c8 => ?_)
    ·
      unfold f_X11_isRisk_22
      unfold f_X11_isRisk_23
      refine okD rfl ?_
      exact okR h6
    ·
      unfold f_X11_isRisk_23
      refine okD rfl ?_
      exact okR h6
theorem T_X11_isPurse {Z : St → Prop} {σ0 : St} {M T S E A U Y L P N : Nat} (q : ZB Z σ0 M T S E A U Y L P N) {p0 : Int32} {p1 : Int32} {s : St} (h : Z s) : Ok (fun _ s' => Z s') (f_X11_isPurse p0 p1 s) := by
  have qM := q.b.hM
  have qT := q.b.hT
  have qS := q.b.S512
  have qE := q.b.hE
  have qA := q.b.hA
  have qU := q.b.hU
  have qY := q.b.hY
  have qA2 := q.b.A256
  have qU2 := q.b.U256
  unfold f_X11_isPurse
  refine okB (T_X10_hasSide q h) ?_
  intro r3 s1 h2
  refine okI (fun c4 => ?_) (fun c4 => ?_)
  ·
    unfold f_X11_isPurse_26
    unfold f_X11_isPurse_27
    refine okD rfl ?_
    exact okR h2
  ·
    refine okI (fun c5 => ?_) (fun c5 => ?_)
    ·
      unfold f_X11_isPurse_26
      unfold f_X11_isPurse_27
      refine okD rfl ?_
      exact okR h2
    ·
      refine okI (fun c6 => ?_) (fun c6 => ?_)
      ·
        unfold f_X11_isPurse_26
        unfold f_X11_isPurse_27
        refine okD rfl ?_
        exact okR h2
      ·
        unfold f_X11_isPurse_27
        refine okD rfl ?_
        exact okR h2
theorem T_X11_isHost {Z : St → Prop} {σ0 : St} {M T S E A U Y L P N : Nat} (q : ZB Z σ0 M T S E A U Y L P N) {p0 : Int32} {s : St} (h : Z s) : Ok (fun _ s' => Z s') (f_X11_isHost p0 s) := by
  have qM := q.b.hM
  have qT := q.b.hT
  have qS := q.b.S512
  have qE := q.b.hE
  have qA := q.b.hA
  have qU := q.b.hU
  have qY := q.b.hY
  have qA2 := q.b.A256
  have qU2 := q.b.U256
  unfold f_X11_isHost
  refine okI (fun c1 => ?_) (fun c1 => ?_)
  ·
    unfold f_X11_isHost_14
    unfold f_X11_isHost_15
    refine okD rfl ?_
    exact okR h
  ·
    refine okI (fun c2 => ?_) (fun c2 => ?_)
    ·
      unfold f_X11_isHost_14
      unfold f_X11_isHost_15
      refine okD rfl ?_
      exact okR h
    ·
      unfold f_X11_isHost_15
      refine okD rfl ?_
      exact okR h
theorem T_X11_isPlace {Z : St → Prop} {σ0 : St} {M T S E A U Y L P N : Nat} (q : ZB Z σ0 M T S E A U Y L P N) {p0 : Int32} {s : St} (h : Z s) : Ok (fun _ s' => Z s') (f_X11_isPlace p0 s) := by
  have qM := q.b.hM
  have qT := q.b.hT
  have qS := q.b.S512
  have qE := q.b.hE
  have qA := q.b.hA
  have qU := q.b.hU
  have qY := q.b.hY
  have qA2 := q.b.A256
  have qU2 := q.b.U256
  unfold f_X11_isPlace
  refine okI (fun c1 => ?_) (fun c1 => ?_)
  ·
    unfold f_X11_isPlace_13
    unfold f_X11_isPlace_14
    refine okD rfl ?_
    exact okR h
  ·
    refine okI (fun c2 => ?_) (fun c2 => ?_)
    ·
      unfold f_X11_isPlace_13
      unfold f_X11_isPlace_14
      refine okD rfl ?_
      exact okR h
    ·
      unfold f_X11_isPlace_14
      refine okD rfl ?_
      exact okR h
theorem T_X11_isSeed {Z : St → Prop} {σ0 : St} {M T S E A U Y L P N : Nat} (q : ZB Z σ0 M T S E A U Y L P N) {p0 : Int32} {s : St} (h : Z s) : Ok (fun _ s' => Z s') (f_X11_isSeed p0 s) := by
  have qM := q.b.hM
  have qT := q.b.hT
  have qS := q.b.S512
  have qE := q.b.hE
  have qA := q.b.hA
  have qU := q.b.hU
  have qY := q.b.hY
  have qA2 := q.b.A256
  have qU2 := q.b.U256
  unfold f_X11_isSeed
  refine okB (T_X10_isTold q h) ?_
  intro r3 s1 h2
  refine okI (fun c4 => ?_) (fun c4 => ?_)
  ·
    unfold f_X11_isSeed_25
    unfold f_X11_isSeed_26
    refine okD rfl ?_
    exact okR h2
  ·
    refine okI (fun c5 => ?_) (fun c5 => ?_)
    ·
      unfold f_X11_isSeed_25
      unfold f_X11_isSeed_26
      refine okD rfl ?_
      exact okR h2
    ·
      refine okI (fun c6 => ?_) (fun c6 => ?_)
      ·
        unfold f_X11_isSeed_25
        unfold f_X11_isSeed_26
        refine okD rfl ?_
        exact okR h2
      ·
        unfold f_X11_isSeed_26
        refine okD rfl ?_
        exact okR h2
theorem T_X11_isImage {Z : St → Prop} {σ0 : St} {M T S E A U Y L P N : Nat} (q : ZB Z σ0 M T S E A U Y L P N) {p0 : Int32} {s : St} (h : Z s) : Ok (fun _ s' => Z s') (f_X11_isImage p0 s) := by
  have qM := q.b.hM
  have qT := q.b.hT
  have qS := q.b.S512
  have qE := q.b.hE
  have qA := q.b.hA
  have qU := q.b.hU
  have qY := q.b.hY
  have qA2 := q.b.A256
  have qU2 := q.b.U256
  unfold f_X11_isImage
  refine okI (fun c1 => ?_) (fun c1 => ?_)
  ·
    unfold f_X11_isImage_13
    unfold f_X11_isImage_14
    refine okD rfl ?_
    exact okR h
  ·
    refine okI (fun c2 => ?_) (fun c2 => ?_)
    ·
      unfold f_X11_isImage_13
      unfold f_X11_isImage_14
      refine okD rfl ?_
      exact okR h
    ·
      unfold f_X11_isImage_14
      refine okD rfl ?_
      exact okR h
theorem T_J6_bitCount_0f7a4 {Z : St → Prop} {σ0 : St} {M T S E A U Y L P N : Nat} (q : ZB Z σ0 M T S E A U Y L P N) {p0 : Int32} {s : St} (h : Z s) : Ok (fun _ s' => Z s') (f_J6_bitCount_0f7a4 p0 s) := by
  have qM := q.b.hM
  have qT := q.b.hT
  have qS := q.b.S512
  have qE := q.b.hE
  have qA := q.b.hA
  have qU := q.b.hU
  have qY := q.b.hY
  have qA2 := q.b.A256
  have qU2 := q.b.U256
  unfold f_J6_bitCount_0f7a4
  refine okN ?_
  refine okN ?_
  refine okN ?_
  refine okN ?_
  refine okN ?_
  exact okR h
theorem T_X0_worthOf {Z : St → Prop} {σ0 : St} {M T S E A U Y L P N : Nat} (q : ZB Z σ0 M T S E A U Y L P N) {p0 : Int32} {s : St} (h : Z s) : Ok (fun _ s' => Z s') (f_X0_worthOf p0 s) := by
  have qM := q.b.hM
  have qT := q.b.hT
  have qS := q.b.S512
  have qE := q.b.hE
  have qA := q.b.hA
  have qU := q.b.hU
  have qY := q.b.hY
  have qA2 := q.b.A256
  have qU2 := q.b.U256
  unfold f_X0_worthOf
  refine okC (fun (i : Nat) (x : Int32 × Int32 × Int32 × St) => x.2.2.1 = nI i ∧ Z x.2.2.2) A ?_ (i := 0) (by unfold FU; omega) (by omega) ⟨rfl, h⟩
  rintro i1 ⟨v8, v9, v10, s6⟩ K2 hi3 ⟨hv5, h7⟩ hK4
  dsimp only at hv5 h7
  subst hv5
  unfold g_X0_worthOf_4
  dsimp only
  refine okI (fun _ => ?_) (fun c11 => ?_)
  ·
    exact okR h7
  ·
    replace c11 : i1 < A := cnt_le (q.at' h7).cA (by omega) c11 hi3
    refine okB (T_X10_isIn q h7) ?_
    intro r14 s12 h13
    refine okI (fun c15 => ?_) (fun c15 => ?_)
    ·
      unfold f_X0_worthOf_41
      refine okN ?_
      exact hK4 _ c11 ⟨nI_1 _, h13⟩
    ·
      refine okB (T_X9_cell7 q h13) ?_
      intro r18 s16 h17
      refine okN ?_
      unfold f_X0_worthOf_41
      refine okN ?_
      exact hK4 _ c11 ⟨nI_1 _, h17⟩
theorem T_X0_canStand {Z : St → Prop} {σ0 : St} {M T S E A U Y L P N : Nat} (q : ZB Z σ0 M T S E A U Y L P N) {p0 : Int32} {p1 : Int32} {s : St} (h : Z s) : Ok (fun _ s' => Z s') (f_X0_canStand p0 p1 s) := by
  have qM := q.b.hM
  have qT := q.b.hT
  have qS := q.b.S512
  have qE := q.b.hE
  have qA := q.b.hA
  have qU := q.b.hU
  have qY := q.b.hY
  have qA2 := q.b.A256
  have qU2 := q.b.U256
  unfold f_X0_canStand
  refine okC (fun (i : Nat) (x : Int32 × Int32 × Int32 × Int32 × Int32 × St) => x.2.2.2.2.1 = nI i ∧ Z x.2.2.2.2.2) A ?_ (i := 0) (by unfold FU; omega) (by omega) ⟨rfl, h⟩
  rintro i1 ⟨v8, v9, v10, v11, v12, s6⟩ K2 hi3 ⟨hv5, h7⟩ hK4
  dsimp only at hv5 h7
  subst hv5
  unfold g_X0_canStand_8
  dsimp only
  refine okI (fun _ => ?_) (fun c13 => ?_)
  ·
    unfold f_X0_canStand_146
    refine okD rfl ?_
    exact okR h7
  ·
    replace c13 : i1 < A := cnt_le (q.at' h7).cA (by omega) c13 hi3
    refine okI (fun c14 => ?_) (fun c14 => ?_)
    ·
      unfold f_X0_canStand_146
      refine okD rfl ?_
      exact okR h7
    ·
      refine okD (inb_ln (n := 8) rfl (by omega) (by omega)) ?_
      refine okN ?_
      refine okB (T_X10_isIn q h7) ?_
      intro r17 s15 h16
      refine okI (fun c18 => ?_) (fun c18 => ?_)
      ·
        unfold f_X0_canStand_140
        refine okN ?_
        exact hK4 _ c13 ⟨nI_1 _, h16⟩
      ·
        refine okB (T_X9_cell7 q h16) ?_
        intro r21 s19 h20
        refine okB (T_X9_cell7 q h20) ?_
        intro r24 s22 h23
        refine okI (fun c25 => ?_) (fun c25 => ?_)
        ·
          unfold f_X0_canStand_89
          refine okI (fun c26 => ?_) (fun c26 => ?_)
          ·
            unfold f_X0_canStand_106
            refine okD rfl ?_
            exact okR h23
          ·
            refine okI (fun c27 => ?_) (fun c27 => ?_)
            ·
              unfold f_X0_canStand_108
              refine okB (T_X9_cell7 q h23) ?_
              intro r30 s28 h29
              refine okN ?_
              refine okB (T_X9_cell7 q h29) ?_
              intro r33 s31 h32
              unfold f_X0_canStand_140
              refine okN ?_
              exact hK4 _ c13 ⟨nI_1 _, h32⟩
            ·
              refine okI (fun c34 => ?_) (fun c34 => ?_)
              ·
                unfold f_X0_canStand_108
                refine okB (T_X9_cell7 q h23) ?_
                intro r37 s35 h36
                refine okN ?_
                refine okB (T_X9_cell7 q h36) ?_
                intro r40 s38 h39
                unfold f_X0_canStand_140
                refine okN ?_
                exact hK4 _ c13 ⟨nI_1 _, h39⟩
              ·
                unfold f_X0_canStand_106
                refine okD rfl ?_
                exact okR h23
        ·
          unfold f_X0_canStand_89
          refine okI (fun c41 => ?_) (fun c41 => ?_)
          ·
            unfold f_X0_canStand_106
            refine okD rfl ?_
            exact okR h23
          ·
            refine okI (fun c42 => ?_) (fun c42 => ?_)
            ·
              unfold f_X0_canStand_108
              refine okB (T_X9_cell7 q h23) ?_
              intro r45 s43 h44
              refine okN ?_
              refine okB (T_X9_cell7 q h44) ?_
              intro r48 s46 h47
              unfold f_X0_canStand_140
              refine okN ?_
              exact hK4 _ c13 ⟨nI_1 _, h47⟩
            ·
              refine okI (fun c49 => ?_) (fun c49 => ?_)
              ·
                unfold f_X0_canStand_108
                refine okB (T_X9_cell7 q h23) ?_
                intro r52 s50 h51
                refine okN ?_
                refine okB (T_X9_cell7 q h51) ?_
                intro r55 s53 h54
                unfold f_X0_canStand_140
                refine okN ?_
                exact hK4 _ c13 ⟨nI_1 _, h54⟩
              ·
                unfold f_X0_canStand_106
                refine okD rfl ?_
                exact okR h23
theorem T_X1_delayParts {Z : St → Prop} {σ0 : St} {M T S E A U Y L P N : Nat} (q : ZB Z σ0 M T S E A U Y L P N) {p1 : Int32} {s : St} (h : Z s) : Ok (fun _ s' => Z s') (f_X1_delayParts 1 p1 s) := by
  have qM := q.b.hM
  have qT := q.b.hT
  have qS := q.b.S512
  have qE := q.b.hE
  have qA := q.b.hA
  have qU := q.b.hU
  have qY := q.b.hY
  have qA2 := q.b.A256
  have qU2 := q.b.U256
  unfold f_X1_delayParts
  refine okD (isW_lit (Or.inl rfl)) ?_
  refine okC (fun (i : Nat) (x : Int32 × Int64 × Int32 × St) => x.2.2.1 = nI i ∧ Z x.2.2.2) T ?_ (i := 0) (by unfold FU; omega) (by omega) ⟨rfl, h⟩
  rintro i1 ⟨v8, v9, v10, s6⟩ K2 hi3 ⟨hv5, h7⟩ hK4
  dsimp only at hv5 h7
  subst hv5
  unfold g_X1_delayParts_5
  dsimp only
  refine okD (isW_lit (Or.inl rfl)) ?_
  refine okI (fun _ => ?_) (fun c11 => ?_)
  ·
    exact okR h7
  ·
    replace c11 : i1 < T := cnt_le (q.at' h7).cT (by omega) c11 hi3
    refine okB (T_X9_cell3 q h7) ?_
    intro r14 s12 h13
    refine okB (T_X10_isIn q h13) ?_
    intro r17 s15 h16
    refine okI (fun c18 => ?_) (fun c18 => ?_)
    ·
      unfold f_X1_delayParts_51
      refine okN ?_
      refine okN ?_
      exact hK4 _ c11 ⟨nI_1 _, h16⟩
    ·
      unfold f_X1_delayParts_51
      refine okN ?_
      refine okN ?_
      exact hK4 _ c11 ⟨nI_1 _, h16⟩
theorem T_X1_drawnDelays {Z : St → Prop} {σ0 : St} {M T S E A U Y L P N : Nat} (q : ZB Z σ0 M T S E A U Y L P N) {p1 : Int32} {s : St} (h : Z s) : Ok (fun _ s' => Z s') (f_X1_drawnDelays 1 p1 s) := by
  have qM := q.b.hM
  have qT := q.b.hT
  have qS := q.b.S512
  have qE := q.b.hE
  have qA := q.b.hA
  have qU := q.b.hU
  have qY := q.b.hY
  have qA2 := q.b.A256
  have qU2 := q.b.U256
  unfold f_X1_drawnDelays
  refine okD (isW_lit (Or.inl rfl)) ?_
  refine okB (T_X1_next q h) ?_
  intro r3 s1 h2
  refine okB (T_X1_draw q h2) ?_
  intro r6 s4 h5
  refine okD (isW_lit (Or.inl rfl)) ?_
  refine okI (fun c7 => ?_) (fun c7 => ?_)
  ·
    refine okC (fun (i : Nat) (x : Int64 × Int32 × Int32 × St) => x.2.2.1 = nI i ∧ Z x.2.2.2) T ?_ (i := 0) (by unfold FU; omega) (by omega) ⟨rfl, h5⟩
    rintro i8 ⟨v15, v16, v17, s13⟩ K9 hi10 ⟨hv12, h14⟩ hK11
    dsimp only at hv12 h14
    subst hv12
    unfold g_X1_drawnDelays_25
    dsimp only
    refine okD (isW_lit (Or.inl rfl)) ?_
    refine okI (fun _ => ?_) (fun c18 => ?_)
    ·
      exact okR h14
    ·
      replace c18 : i8 < T := cnt_le (q.at' h14).cT (by omega) c18 hi10
      refine okB (T_X1_next q h14) ?_
      intro r21 s19 h20
      refine okB (T_X1_draw q h20) ?_
      intro r24 s22 h23
      refine okD (isW_lit (Or.inl rfl)) ?_
      refine okB (T_X9_cell3 q h23) ?_
      intro r27 s25 h26
      refine okI (fun c28 => ?_) (fun c28 => ?_)
      ·
        unfold f_X1_drawnDelays_68
        refine okN ?_
        exact hK11 _ c18 ⟨nI_1 _, h26⟩
      ·
        refine okN ?_
        unfold f_X1_drawnDelays_68
        refine okN ?_
        exact hK11 _ c18 ⟨nI_1 _, h26⟩
  ·
    exact okR h5
theorem T_X2_follow {Z : St → Prop} {σ0 : St} {M T S E A U Y L P N : Nat} (q : ZB Z σ0 M T S E A U Y L P N) {p0 : Int32} {s : St} (h : Z s) : Ok (fun _ s' => Z s') (f_X2_follow p0 s) := by
  have qM := q.b.hM
  have qT := q.b.hT
  have qS := q.b.S512
  have qE := q.b.hE
  have qA := q.b.hA
  have qU := q.b.hU
  have qY := q.b.hY
  have qA2 := q.b.A256
  have qU2 := q.b.U256
  unfold f_X2_follow
  refine okD rfl ?_
  refine okZ (Z := Z) (q.z.wr _ _ _ h (by decide)) (fun s1 h2 => ?_)
  refine okC (fun (i : Nat) (x : Int32 × Int32 × Int32 × St) => x.2.2.1 = nI i ∧ Z x.2.2.2) M ?_ (i := 0) (by unfold FU; omega) (by omega) ⟨rfl, h2⟩
  rintro i3 ⟨v10, v11, v12, s8⟩ K4 hi5 ⟨hv7, h9⟩ hK6
  dsimp only at hv7 h9
  subst hv7
  unfold g_X2_follow_11
  dsimp only
  refine okI (fun _ => ?_) (fun c13 => ?_)
  ·
    unfold f_X2_follow_69
    exact okR h9
  ·
    replace c13 : i3 < M := cnt_le (q.at' h9).cM (by omega) c13 hi5
    refine okI (fun c14 => ?_) (fun c14 => ?_)
    ·
      unfold f_X2_follow_69
      exact okR h9
    ·
      refine okB (T_X10_isTea q h9) ?_
      intro r17 s15 h16
      refine okI (fun c18 => ?_) (fun c18 => ?_)
      ·
        refine okB (T_X10_leadIn q h16) ?_
        intro r21 s19 h20
        refine okB (T_X2_signOf q h20) ?_
        intro r24 s22 h23
        refine okN ?_
        unfold f_X2_follow_54
        refine okD (by simp only [zL1, zL2, zL4, zL6, zL11, zL13, zL67, zL75, zL107, zL115, nI_add, nI_mul]; exact inb_ln (n := 61) rfl (by omega) (by omega)) ?_
        refine okZ (Z := Z) (q.z.wr _ _ _ h23 (by decide)) (fun s25 h26 => ?_)
        refine okN ?_
        exact hK6 _ c13 ⟨nI_1 _, h26⟩
      ·
        unfold f_X2_follow_54
        refine okD (by simp only [zL1, zL2, zL4, zL6, zL11, zL13, zL67, zL75, zL107, zL115, nI_add, nI_mul]; exact inb_ln (n := 61) rfl (by omega) (by omega)) ?_
        refine okZ (Z := Z) (q.z.wr _ _ _ h16 (by decide)) (fun s27 h28 => ?_)
        refine okN ?_
        exact hK6 _ c13 ⟨nI_1 _, h28⟩
theorem T_X2_winnerBy {Z : St → Prop} {σ0 : St} {M T S E A U Y L P N : Nat} (q : ZB Z σ0 M T S E A U Y L P N) {p0 : Int32} {s : St} (h : Z s) : Ok (fun _ s' => Z s') (f_X2_winnerBy p0 s) := by
  have qM := q.b.hM
  have qT := q.b.hT
  have qS := q.b.S512
  have qE := q.b.hE
  have qA := q.b.hA
  have qU := q.b.hU
  have qY := q.b.hY
  have qA2 := q.b.A256
  have qU2 := q.b.U256
  unfold f_X2_winnerBy
  refine okB (T_X2_follow q h) ?_
  intro r3 s1 h2
  refine okB (T_X10_lateSides q h2) ?_
  intro r6 s4 h5
  refine okB (T_X2_frontBehind q h5) ?_
  intro r9 s7 h8
  refine okB (T_X2_winner q h8) ?_
  intro r12 s10 h11
  exact okR h11
theorem T_X2_peakOf {Z : St → Prop} {σ0 : St} {M T S E A U Y L P N : Nat} (q : ZB Z σ0 M T S E A U Y L P N) {p0 : Int32} {s : St} (h : Z s) : Ok (fun _ s' => Z s') (f_X2_peakOf p0 s) := by
  have qM := q.b.hM
  have qT := q.b.hT
  have qS := q.b.S512
  have qE := q.b.hE
  have qA := q.b.hA
  have qU := q.b.hU
  have qY := q.b.hY
  have qA2 := q.b.A256
  have qU2 := q.b.U256
  unfold f_X2_peakOf
  refine okC (fun (i : Nat) (x : Int32 × Int32 × Int32 × St) => x.2.2.1 = nI i ∧ Z x.2.2.2) (M + 1) ?_ (i := 1) (by unfold FU; omega) (by omega) ⟨rfl, h⟩
  rintro i1 ⟨v8, v9, v10, s6⟩ K2 hi3 ⟨hv5, h7⟩ hK4
  dsimp only at hv5 h7
  subst hv5
  unfold g_X2_peakOf_4
  dsimp only
  refine okI (fun _ => ?_) (fun c11 => ?_)
  ·
    exact okR h7
  ·
    replace c11 : i1 < M + 1 := cnt_lt (q.at' h7).cM (by omega) c11 hi3
    refine okB (T_X2_frontBehind q h7) ?_
    intro r14 s12 h13
    refine okB (T_X2_good q h13) ?_
    intro r17 s15 h16
    refine okB (T_X2_frontBehind q h16) ?_
    intro r20 s18 h19
    refine okB (T_X2_good q h19) ?_
    intro r23 s21 h22
    refine okI (fun c24 => ?_) (fun c24 => ?_)
    ·
      unfold f_X2_peakOf_38
      refine okN ?_
      exact hK4 _ c11 ⟨nI_1 _, h22⟩
    ·
      unfold f_X2_peakOf_38
      refine okN ?_
      exact hK4 _ c11 ⟨nI_1 _, h22⟩
theorem T_X2_countSwings {Z : St → Prop} {σ0 : St} {M T S E A U Y L P N : Nat} (q : ZB Z σ0 M T S E A U Y L P N)  {s : St} (h : Z s) : Ok (fun _ s' => Z s') (f_X2_countSwings s) := by
  have qM := q.b.hM
  have qT := q.b.hT
  have qS := q.b.S512
  have qE := q.b.hE
  have qA := q.b.hA
  have qU := q.b.hU
  have qY := q.b.hY
  have qA2 := q.b.A256
  have qU2 := q.b.U256
  unfold f_X2_countSwings
  refine okC (fun (i : Nat) (x : Int32 × Int32 × Int32 × St) => x.2.2.1 = nI i ∧ Z x.2.2.2) (M + 1) ?_ (i := 1) (by unfold FU; omega) (by omega) ⟨rfl, h⟩
  rintro i1 ⟨v8, v9, v10, s6⟩ K2 hi3 ⟨hv5, h7⟩ hK4
  dsimp only at hv5 h7
  subst hv5
  unfold g_X2_countSwings_6
  dsimp only
  refine okI (fun _ => ?_) (fun c11 => ?_)
  ·
    exact okR h7
  ·
    replace c11 : i1 < M + 1 := cnt_lt (q.at' h7).cM (by omega) c11 hi3
    refine okB (T_X2_frontBehind q h7) ?_
    intro r14 s12 h13
    refine okB (T_X2_signOf q h13) ?_
    intro r17 s15 h16
    refine okI (fun c18 => ?_) (fun c18 => ?_)
    ·
      unfold f_X2_countSwings_45
      refine okN ?_
      exact hK4 _ c11 ⟨nI_1 _, h16⟩
    ·
      refine okI (fun c19 => ?_) (fun c19 => ?_)
      ·
        refine okN ?_
        unfold f_X2_countSwings_42
        unfold f_X2_countSwings_45
        refine okN ?_
        exact hK4 _ c11 ⟨nI_1 _, h16⟩
      ·
        unfold f_X2_countSwings_42
        unfold f_X2_countSwings_45
        refine okN ?_
        exact hK4 _ c11 ⟨nI_1 _, h16⟩
theorem T_X2_goodAtEnd {Z : St → Prop} {σ0 : St} {M T S E A U Y L P N : Nat} (q : ZB Z σ0 M T S E A U Y L P N) {p0 : Int32} {p1 : Int32} {s : St} (h : Z s) : Ok (fun _ s' => Z s') (f_X2_goodAtEnd p0 p1 s) := by
  have qM := q.b.hM
  have qT := q.b.hT
  have qS := q.b.S512
  have qE := q.b.hE
  have qA := q.b.hA
  have qU := q.b.hU
  have qY := q.b.hY
  have qA2 := q.b.A256
  have qU2 := q.b.U256
  unfold f_X2_goodAtEnd
  refine okI (fun c1 => ?_) (fun c1 => ?_)
  ·
    unfold f_X2_goodAtEnd_21
    unfold f_X2_goodAtEnd_22
    refine okB (T_X2_good q h) ?_
    intro r4 s2 h3
    exact okR h3
  ·
    refine okI (fun c5 => ?_) (fun c5 => ?_)
    ·
      unfold f_X2_goodAtEnd_21
      unfold f_X2_goodAtEnd_22
      refine okB (T_X2_good q h) ?_
      intro r8 s6 h7
      exact okR h7
    ·
      refine okD (inb_cond (n := 512) (by assumption) (by assumption) rfl ⟨rfl, by decide⟩) ?_
      unfold f_X2_goodAtEnd_22
      refine okB (T_X2_good q h) ?_
      intro r11 s9 h10
      exact okR h10
theorem T_X2_isIdle {Z : St → Prop} {σ0 : St} {M T S E A U Y L P N : Nat} (q : ZB Z σ0 M T S E A U Y L P N) {p0 : Int32} {s : St} (h : Z s) : Ok (fun _ s' => Z s') (f_X2_isIdle p0 s) := by
  have qM := q.b.hM
  have qT := q.b.hT
  have qS := q.b.S512
  have qE := q.b.hE
  have qA := q.b.hA
  have qU := q.b.hU
  have qY := q.b.hY
  have qA2 := q.b.A256
  have qU2 := q.b.U256
  unfold f_X2_isIdle
  refine okC (fun (i : Nat) (x : Int32 × Int32 × St) => x.2.1 = nI i ∧ Z x.2.2) S ?_ (i := 0) (by unfold FU; omega) (by omega) ⟨rfl, h⟩
  rintro i1 ⟨v8, v9, s6⟩ K2 hi3 ⟨hv5, h7⟩ hK4
  dsimp only at hv5 h7
  subst hv5
  unfold g_X2_isIdle_2
  dsimp only
  rw [S_X10_sets q h7, bd_mk]
  refine okI (fun _ => ?_) (fun c10 => ?_)
  ·
    refine okD rfl ?_
    exact okR h7
  ·
    replace c10 : i1 < S := cnt_le rfl (by omega) c10 hi3
    refine okI (fun c11 => ?_) (fun c11 => ?_)
    ·
      refine okB (T_X2_reckonedWinner q h7) ?_
      intro r14 s12 h13
      refine okB (T_X2_reckonedWinner q h13) ?_
      intro r17 s15 h16
      refine okI (fun c18 => ?_) (fun c18 => ?_)
      ·
        unfold f_X2_isIdle_36
        refine okN ?_
        exact hK4 _ c10 ⟨nI_1 _, h16⟩
      ·
        refine okD rfl ?_
        exact okR h16
    ·
      unfold f_X2_isIdle_36
      refine okN ?_
      exact hK4 _ c10 ⟨nI_1 _, h7⟩
theorem T_X2_isArrival {Z : St → Prop} {σ0 : St} {M T S E A U Y L P N : Nat} (q : ZB Z σ0 M T S E A U Y L P N) {p0 : Int32} {s : St} (h : Z s) : Ok (fun _ s' => Z s') (f_X2_isArrival p0 s) := by
  have qM := q.b.hM
  have qT := q.b.hT
  have qS := q.b.S512
  have qE := q.b.hE
  have qA := q.b.hA
  have qU := q.b.hU
  have qY := q.b.hY
  have qA2 := q.b.A256
  have qU2 := q.b.U256
  unfold f_X2_isArrival
  refine okB (T_X10_comingIn q h) ?_
  intro r3 s1 h2
  rw [S_X10_sets q h2, bd_mk]
  refine okB (T_X10_comingIn q h2) ?_
  intro r6 s4 h5
  refine okI (fun c7 => ?_) (fun c7 => ?_)
  ·
    unfold f_X2_isArrival_35
    refine okD rfl ?_
    exact okR h5
  ·
    unfold f_X2_isArrival_35
    refine okD rfl ?_
    exact okR h5
theorem T_X2_takeMen {Z : St → Prop} {σ0 : St} {M T S E A U Y L P N : Nat} (q : ZB Z σ0 M T S E A U Y L P N) {p0 : Int32} {p1 : Int32} {p2 : Int32} {s : St} (h : Z s) : Ok (fun _ s' => Z s') (f_X2_takeMen p0 p1 p2 s) := by
  have qM := q.b.hM
  have qT := q.b.hT
  have qS := q.b.S512
  have qE := q.b.hE
  have qA := q.b.hA
  have qU := q.b.hU
  have qY := q.b.hY
  have qA2 := q.b.A256
  have qU2 := q.b.U256
  unfold f_X2_takeMen
  refine okB (T_X10_menThere q h) ?_
  intro r3 s1 h2
  refine okB (T_X10_menThere q h2) ?_
  intro r6 s4 h5
  refine okD rfl ?_
  refine okZ (Z := Z) (q.z.wr _ _ _ h5 (by decide)) (fun s7 h8 => ?_)
  refine okC (fun (i : Nat) (x : Int32 × Int32 × Int32 × Int32 × St) => x.2.2.2.1 = nI i ∧ Z x.2.2.2.2) T ?_ (i := 0) (by unfold FU; omega) (by omega) ⟨rfl, h8⟩
  rintro i9 ⟨v16, v17, v18, v19, s14⟩ K10 hi11 ⟨hv13, h15⟩ hK12
  dsimp only at hv13 h15
  subst hv13
  unfold g_X2_takeMen_34
  dsimp only
  refine okI (fun _ => ?_) (fun c20 => ?_)
  ·
    exact okR h15
  ·
    replace c20 : i9 < T := cnt_le (q.at' h15).cT (by omega) c20 hi11
    refine okB (T_X9_cell3 q h15) ?_
    intro r23 s21 h22
    refine okI (fun c24 => ?_) (fun c24 => ?_)
    ·
      unfold f_X2_takeMen_70
      refine okB (T_X10_menLost q h22) ?_
      intro r27 s25 h26
      refine okB (T_X10_spread q h26 (by omega) ⟨by decide, by decide⟩ rfl (fun s f hs => q.z.wr s _ f hs (by decide))) ?_
      intro r30 s28 h29
      refine okN ?_
      exact hK12 _ c20 ⟨nI_1 _, h29⟩
    ·
      unfold f_X2_takeMen_70
      refine okB (T_X10_menLost q h22) ?_
      intro r33 s31 h32
      refine okB (T_X10_spread q h32 (by omega) ⟨by decide, by decide⟩ rfl (fun s f hs => q.z.wr s _ f hs (by decide))) ?_
      intro r36 s34 h35
      refine okN ?_
      exact hK12 _ c20 ⟨nI_1 _, h35⟩
