/-! War of the class -/
theorem T_X10_isIn {Z : St → Prop} {σ0 : St} {M T S E A U Y L P N : Nat} (q : ZB Z σ0 M T S E A U Y L P N) {p0 : Int32} {p1 : Int32} {s : St} (h : Z s) : Ok (fun _ s' => Z s') (f_X10_isIn p0 p1 s) := by
  have qM := q.b.hM
  have qT := q.b.hT
  have qS := q.b.S512
  have qE := q.b.hE
  have qA := q.b.hA
  have qU := q.b.hU
  have qY := q.b.hY
  unfold f_X10_isIn
  refine okI (fun c1 => ?_) (fun c1 => ?_)
  ·
    unfold f_X10_isIn_13
    refine okD rfl ?_
    exact okR h
  ·
    unfold f_X10_isIn_13
    refine okD rfl ?_
    exact okR h
theorem T_X10_isTold {Z : St → Prop} {σ0 : St} {M T S E A U Y L P N : Nat} (q : ZB Z σ0 M T S E A U Y L P N)  {s : St} (h : Z s) : Ok (fun _ s' => Z s') (f_X10_isTold 1 s) := by
  have qM := q.b.hM
  have qT := q.b.hT
  have qS := q.b.S512
  have qE := q.b.hE
  have qA := q.b.hA
  have qU := q.b.hU
  have qY := q.b.hY
  unfold f_X10_isTold
  refine okD (isW_lit (Or.inl rfl)) ?_
  refine okI (fun c1 => ?_) (fun c1 => ?_)
  ·
    unfold f_X10_isTold_12
    refine okD rfl ?_
    exact okR h
  ·
    unfold f_X10_isTold_12
    refine okD rfl ?_
    exact okR h
theorem T_X10_hasSide {Z : St → Prop} {σ0 : St} {M T S E A U Y L P N : Nat} (q : ZB Z σ0 M T S E A U Y L P N) {p0 : Int32} {s : St} (h : Z s) : Ok (fun _ s' => Z s') (f_X10_hasSide 1 p0 s) := by
  have qM := q.b.hM
  have qT := q.b.hT
  have qS := q.b.S512
  have qE := q.b.hE
  have qA := q.b.hA
  have qU := q.b.hU
  have qY := q.b.hY
  unfold f_X10_hasSide
  refine okD (isW_lit (Or.inl rfl)) ?_
  refine okB (T_X10_isTold q h) ?_
  intro r3 s1 h2
  refine okI (fun c4 => ?_) (fun c4 => ?_)
  ·
    unfold f_X10_hasSide_20
    unfold f_X10_hasSide_21
    refine okD rfl ?_
    exact okR h2
  ·
    refine okI (fun c5 => ?_) (fun c5 => ?_)
    ·
      try subst c5
      unfold f_X10_hasSide_16
      unfold f_X10_hasSide_21
      refine okD rfl ?_
      exact okR h2
    ·
      refine okI (fun c6 => ?_) (fun c6 => ?_)
      ·
        try subst c6
        unfold f_X10_hasSide_16
        unfold f_X10_hasSide_21
        refine okD rfl ?_
        exact okR h2
      ·
        unfold f_X10_hasSide_20
        unfold f_X10_hasSide_21
        refine okD rfl ?_
        exact okR h2
theorem T_X10_hasTrain {Z : St → Prop} {σ0 : St} {M T S E A U Y L P N : Nat} (q : ZB Z σ0 M T S E A U Y L P N) {p0 : Int32} {s : St} (h : Z s) : Ok (fun _ s' => Z s') (f_X10_hasTrain 1 p0 s) := by
  have qM := q.b.hM
  have qT := q.b.hT
  have qS := q.b.S512
  have qE := q.b.hE
  have qA := q.b.hA
  have qU := q.b.hU
  have qY := q.b.hY
  unfold f_X10_hasTrain
  refine okD (isW_lit (Or.inl rfl)) ?_
  refine okB (T_X10_isTold q h) ?_
  intro r3 s1 h2
  refine okI (fun c4 => ?_) (fun c4 => ?_)
  ·
    unfold f_X10_hasTrain_26
    unfold f_X10_hasTrain_27
    refine okD rfl ?_
    exact okR h2
  ·
    refine okI (fun c5 => ?_) (fun c5 => ?_)
    ·
      unfold f_X10_hasTrain_26
      unfold f_X10_hasTrain_27
      refine okD rfl ?_
      exact okR h2
    ·
      refine okD (isW_lit (Or.inl rfl)) ?_
      refine okI (fun c6 => ?_) (fun c6 => ?_)
      ·
        unfold f_X10_hasTrain_26
        unfold f_X10_hasTrain_27
        refine okD rfl ?_
        exact okR h2
      ·
        unfold f_X10_hasTrain_27
        refine okD rfl ?_
        exact okR h2
theorem T_X10_needOf {Z : St → Prop} {σ0 : St} {M T S E A U Y L P N : Nat} (q : ZB Z σ0 M T S E A U Y L P N) {p0 : Int32} {s : St} (h : Z s) : Ok (fun _ s' => Z s') (f_X10_needOf 1 p0 s) := by
  have qM := q.b.hM
  have qT := q.b.hT
  have qS := q.b.S512
  have qE := q.b.hE
  have qA := q.b.hA
  have qU := q.b.hU
  have qY := q.b.hY
  unfold f_X10_needOf
  refine okD (isW_lit (Or.inl rfl)) ?_
  refine okI (fun c1 => ?_) (fun c1 => ?_)
  ·
    try subst c1
    unfold f_X10_needOf_9
    refine okD (isW_lit (Or.inl rfl)) ?_
    refine okD (by first | rfl | exact inb_ln rfl (by omega) (by omega)) ?_
    unfold f_X10_needOf_19
    exact okR h
  ·
    refine okI (fun c2 => ?_) (fun c2 => ?_)
    ·
      try subst c2
      unfold f_X10_needOf_9
      refine okD (isW_lit (Or.inl rfl)) ?_
      refine okD (by first | rfl | exact inb_ln rfl (by omega) (by omega)) ?_
      unfold f_X10_needOf_19
      exact okR h
    ·
      unfold f_X10_needOf_19
      exact okR h
theorem T_X10_trainsOf {Z : St → Prop} {σ0 : St} {M T S E A U Y L P N : Nat} (q : ZB Z σ0 M T S E A U Y L P N) {p0 : Int32} {s : St} (h : Z s) : Ok (fun _ s' => Z s') (f_X10_trainsOf 1 p0 s) := by
  have qM := q.b.hM
  have qT := q.b.hT
  have qS := q.b.S512
  have qE := q.b.hE
  have qA := q.b.hA
  have qU := q.b.hU
  have qY := q.b.hY
  unfold f_X10_trainsOf
  refine okD (isW_lit (Or.inl rfl)) ?_
  refine okC (fun (i : Nat) (x : Int32 × Int32 × Int32 × St) => x.2.2.1 = nI i ∧ Z x.2.2.2) T ?_ (i := 0) (by unfold FU; omega) (by omega) ⟨rfl, h⟩
  rintro i1 ⟨v8, v9, v10, s6⟩ K2 hi3 ⟨hv5, h7⟩ hK4
  dsimp only at hv5 h7
  subst hv5
  unfold g_X10_trainsOf_4
  dsimp only
  refine okD (isW_lit (Or.inl rfl)) ?_
  refine okI (fun _ => ?_) (fun c11 => ?_)
  ·
    exact okR h7
  ·
    replace c11 : i1 < T := cnt_le (q.at' h7).cT (by omega) c11 hi3
    refine okB (T_X9_cell3 q h7) ?_
    intro r14 s12 h13
    refine okI (fun c15 => ?_) (fun c15 => ?_)
    ·
      refine okN ?_
      unfold f_X10_trainsOf_34
      refine okN ?_
      exact hK4 _ c11 ⟨nI_1 _, h13⟩
    ·
      unfold f_X10_trainsOf_34
      refine okN ?_
      exact hK4 _ c11 ⟨nI_1 _, h13⟩
theorem T_X10_priceOf {Z : St → Prop} {σ0 : St} {M T S E A U Y L P N : Nat} (q : ZB Z σ0 M T S E A U Y L P N) {p0 : Int32} {s : St} (h : Z s) : Ok (fun _ s' => Z s') (f_X10_priceOf 1 p0 s) := by
  have qM := q.b.hM
  have qT := q.b.hT
  have qS := q.b.S512
  have qE := q.b.hE
  have qA := q.b.hA
  have qU := q.b.hU
  have qY := q.b.hY
  unfold f_X10_priceOf
  refine okD (isW_lit (Or.inl rfl)) ?_
  refine okI (fun c1 => ?_) (fun c1 => ?_)
  ·
    try subst c1
    exact okR h
  ·
    refine okC (fun (i : Nat) (x : Int32 × Int32 × Int32 × St) => x.2.2.1 = nI i ∧ Z x.2.2.2) T ?_ (i := 0) (by unfold FU; omega) (by omega) ⟨rfl, h⟩
    rintro i2 ⟨v9, v10, v11, s7⟩ K3 hi4 ⟨hv6, h8⟩ hK5
    dsimp only at hv6 h8
    subst hv6
    unfold g_X10_priceOf_11
    dsimp only
    refine okD (isW_lit (Or.inl rfl)) ?_
    refine okI (fun _ => ?_) (fun c12 => ?_)
    ·
      exact okR h8
    ·
      replace c12 : i2 < T := cnt_le (q.at' h8).cT (by omega) c12 hi4
      refine okB (T_X10_isIn q h8) ?_
      intro r15 s13 h14
      refine okI (fun c16 => ?_) (fun c16 => ?_)
      ·
        unfold f_X10_priceOf_42
        refine okN ?_
        exact hK5 _ c12 ⟨nI_1 _, h14⟩
      ·
        refine okD (isW_lit (Or.inl rfl)) ?_
        refine okB (T_X9_cell3 q h14) ?_
        intro r19 s17 h18
        refine okN ?_
        unfold f_X10_priceOf_42
        refine okN ?_
        exact hK5 _ c12 ⟨nI_1 _, h18⟩
theorem T_X10_arrival {Z : St → Prop} {σ0 : St} {M T S E A U Y L P N : Nat} (q : ZB Z σ0 M T S E A U Y L P N) {p0 : Int32} {p1 : Int32} {s : St} (h : Z s) : Ok (fun _ s' => Z s') (f_X10_arrival 1 p0 p1 s) := by
  have qM := q.b.hM
  have qT := q.b.hT
  have qS := q.b.S512
  have qE := q.b.hE
  have qA := q.b.hA
  have qU := q.b.hU
  have qY := q.b.hY
  unfold f_X10_arrival
  refine okD (isW_lit (Or.inl rfl)) ?_
  refine okB (T_X9_cell3 q h) ?_
  intro r3 s1 h2
  refine okB (T_X10_isIn q h2) ?_
  intro r6 s4 h5
  refine okI (fun c7 => ?_) (fun c7 => ?_)
  ·
    unfold f_X10_arrival_30
    exact okR h5
  ·
    refine okD (isW_lit (Or.inl rfl)) ?_
    refine okB (T_X9_cell3 q h5) ?_
    intro r10 s8 h9
    unfold f_X10_arrival_30
    exact okR h9
theorem T_X10_comingIn {Z : St → Prop} {σ0 : St} {M T S E A U Y L P N : Nat} (q : ZB Z σ0 M T S E A U Y L P N) {p0 : Int32} {p1 : Int32} {s : St} (h : Z s) : Ok (fun _ s' => Z s') (f_X10_comingIn 1 p0 p1 s) := by
  have qM := q.b.hM
  have qT := q.b.hT
  have qS := q.b.S512
  have qE := q.b.hE
  have qA := q.b.hA
  have qU := q.b.hU
  have qY := q.b.hY
  unfold f_X10_comingIn
  refine okD (isW_lit (Or.inl rfl)) ?_
  refine okC (fun (i : Nat) (x : Int32 × Int32 × Int32 × Int32 × St) => x.2.2.2.1 = nI i ∧ Z x.2.2.2.2) T ?_ (i := 0) (by unfold FU; omega) (by omega) ⟨rfl, h⟩
  rintro i1 ⟨v8, v9, v10, v11, s6⟩ K2 hi3 ⟨hv5, h7⟩ hK4
  dsimp only at hv5 h7
  subst hv5
  unfold g_X10_comingIn_5
  dsimp only
  refine okD (isW_lit (Or.inl rfl)) ?_
  refine okI (fun _ => ?_) (fun c12 => ?_)
  ·
    exact okR h7
  ·
    replace c12 : i1 < T := cnt_le (q.at' h7).cT (by omega) c12 hi3
    refine okB (T_X10_arrival q h7) ?_
    intro r15 s13 h14
    refine okI (fun c16 => ?_) (fun c16 => ?_)
    ·
      refine okN ?_
      unfold f_X10_comingIn_35
      refine okN ?_
      exact hK4 _ c12 ⟨nI_1 _, h14⟩
    ·
      unfold f_X10_comingIn_35
      refine okN ?_
      exact hK4 _ c12 ⟨nI_1 _, h14⟩
theorem T_X10_menThere {Z : St → Prop} {σ0 : St} {M T S E A U Y L P N : Nat} (q : ZB Z σ0 M T S E A U Y L P N) {p0 : Int32} {p1 : Int32} {p2 : Int32} {s : St} (h : Z s) : Ok (fun _ s' => Z s') (f_X10_menThere 1 p0 p1 p2 s) := by
  have qM := q.b.hM
  have qT := q.b.hT
  have qS := q.b.S512
  have qE := q.b.hE
  have qA := q.b.hA
  have qU := q.b.hU
  have qY := q.b.hY
  unfold f_X10_menThere
  refine okD (isW_lit (Or.inl rfl)) ?_
  refine okC (fun (i : Nat) (x : Int32 × Int32 × Int32 × Int32 × Int32 × St) => x.2.2.2.2.1 = nI i ∧ Z x.2.2.2.2.2) T ?_ (i := 0) (by unfold FU; omega) (by omega) ⟨rfl, h⟩
  rintro i1 ⟨v8, v9, v10, v11, v12, s6⟩ K2 hi3 ⟨hv5, h7⟩ hK4
  dsimp only at hv5 h7
  subst hv5
  unfold g_X10_menThere_6
  dsimp only
  refine okD (isW_lit (Or.inl rfl)) ?_
  refine okI (fun _ => ?_) (fun c13 => ?_)
  ·
    exact okR h7
  ·
    replace c13 : i1 < T := cnt_le (q.at' h7).cT (by omega) c13 hi3
    refine okB (T_X9_cell3 q h7) ?_
    intro r16 s14 h15
    refine okI (fun c17 => ?_) (fun c17 => ?_)
    ·
      refine okB (T_X10_arrival q h15) ?_
      intro r20 s18 h19
      refine okI (fun c21 => ?_) (fun c21 => ?_)
      ·
        unfold f_X10_menThere_58
        refine okN ?_
        exact hK4 _ c13 ⟨nI_1 _, h19⟩
      ·
        refine okD (isW_lit (Or.inl rfl)) ?_
        refine okB (T_X9_cell3 q h19) ?_
        intro r24 s22 h23
        refine okN ?_
        unfold f_X10_menThere_58
        refine okN ?_
        exact hK4 _ c13 ⟨nI_1 _, h23⟩
    ·
      unfold f_X10_menThere_58
      refine okN ?_
      exact hK4 _ c13 ⟨nI_1 _, h15⟩
theorem T_X10_menLost {Z : St → Prop} {σ0 : St} {M T S E A U Y L P N : Nat} (q : ZB Z σ0 M T S E A U Y L P N) {p0 : Int32} {p1 : Int32} {s : St} (h : Z s) : Ok (fun _ s' => Z s') (f_X10_menLost 1 p0 p1 s) := by
  have qM := q.b.hM
  have qT := q.b.hT
  have qS := q.b.S512
  have qE := q.b.hE
  have qA := q.b.hA
  have qU := q.b.hU
  have qY := q.b.hY
  unfold f_X10_menLost
  refine okD (isW_lit (Or.inl rfl)) ?_
  refine okB (T_X9_cell3 q h) ?_
  intro r3 s1 h2
  refine okN ?_
  refine okI (fun c4 => ?_) (fun c4 => ?_)
  ·
    unfold f_X10_menLost_41
    unfold f_X10_menLost_42
    exact okR h2
  ·
    refine okD (isW_lit (Or.inl rfl)) ?_
    refine okB (T_X9_cell3 q h2) ?_
    intro r7 s5 h6
    refine okI (fun c8 => ?_) (fun c8 => ?_)
    ·
      unfold f_X10_menLost_41
      unfold f_X10_menLost_42
      exact okR h6
    ·
      refine okD (isW_lit (Or.inl rfl)) ?_
      refine okB (T_X9_cell3 q h6) ?_
      intro r11 s9 h10
      unfold f_X10_menLost_42
      exact okR h10
theorem T_X10_leadIn {Z : St → Prop} {σ0 : St} {M T S E A U Y L P N : Nat} (q : ZB Z σ0 M T S E A U Y L P N) {p0 : Int32} {p1 : Int32} {s : St} (h : Z s) : Ok (fun _ s' => Z s') (f_X10_leadIn 1 p0 p1 s) := by
  have qM := q.b.hM
  have qT := q.b.hT
  have qS := q.b.S512
  have qE := q.b.hE
  have qA := q.b.hA
  have qU := q.b.hU
  have qY := q.b.hY
  unfold f_X10_leadIn
  refine okD (isW_lit (Or.inl rfl)) ?_
  refine okB (T_X10_menThere q h) ?_
  intro r3 s1 h2
  refine okB (T_X10_menThere q h2) ?_
  intro r6 s4 h5
  exact okR h5
theorem T_X10_isTea {Z : St → Prop} {σ0 : St} {M T S E A U Y L P N : Nat} (q : ZB Z σ0 M T S E A U Y L P N) {p0 : Int32} {s : St} (h : Z s) : Ok (fun _ s' => Z s') (f_X10_isTea 1 p0 s) := by
  have qM := q.b.hM
  have qT := q.b.hT
  have qS := q.b.S512
  have qE := q.b.hE
  have qA := q.b.hA
  have qU := q.b.hU
  have qY := q.b.hY
  unfold f_X10_isTea
  refine okD (isW_lit (Or.inl rfl)) ?_
  refine okC (fun (i : Nat) (x : Int32 × Int32 × St) => x.2.1 = nI i ∧ Z x.2.2) E ?_ (i := 0) (by unfold FU; omega) (by omega) ⟨rfl, h⟩
  rintro i1 ⟨v8, v9, s6⟩ K2 hi3 ⟨hv5, h7⟩ hK4
  dsimp only at hv5 h7
  subst hv5
  unfold g_X10_isTea_2
  dsimp only
  refine okD (isW_lit (Or.inl rfl)) ?_
  refine okI (fun _ => ?_) (fun c10 => ?_)
  ·
    refine okD rfl ?_
    exact okR h7
  ·
    replace c10 : i1 < E := cnt_le (q.at' h7).cE (by omega) c10 hi3
    refine okB (T_X9_cell5 q h7) ?_
    intro r13 s11 h12
    refine okI (fun c14 => ?_) (fun c14 => ?_)
    ·
      unfold f_X10_isTea_41
      refine okN ?_
      exact hK4 _ c10 ⟨nI_1 _, h12⟩
    ·
      refine okD (isW_lit (Or.inl rfl)) ?_
      refine okB (T_X9_cell5 q h12) ?_
      intro r17 s15 h16
      refine okI (fun c18 => ?_) (fun c18 => ?_)
      ·
        unfold f_X10_isTea_41
        refine okN ?_
        exact hK4 _ c10 ⟨nI_1 _, h16⟩
      ·
        refine okD rfl ?_
        exact okR h16
theorem T_X10_lateSides {Z : St → Prop} {σ0 : St} {M T S E A U Y L P N : Nat} (q : ZB Z σ0 M T S E A U Y L P N) {p0 : Int32} {s : St} (h : Z s) : Ok (fun _ s' => Z s') (f_X10_lateSides 1 p0 s) := by
  have qM := q.b.hM
  have qT := q.b.hT
  have qS := q.b.S512
  have qE := q.b.hE
  have qA := q.b.hA
  have qU := q.b.hU
  have qY := q.b.hY
  unfold f_X10_lateSides
  refine okD (isW_lit (Or.inl rfl)) ?_
  refine okC (fun (i : Nat) (x : Int32 × Int32 × Int32 × St) => x.2.2.1 = nI i ∧ Z x.2.2.2) 2 ?_ (i := 0) (by unfold FU; omega) (by omega) ⟨rfl, h⟩
  rintro i1 ⟨v8, v9, v10, s6⟩ K2 hi3 ⟨hv5, h7⟩ hK4
  dsimp only at hv5 h7
  subst hv5
  unfold g_X10_lateSides_4
  dsimp only
  refine okI (fun _ => ?_) (fun c11 => ?_)
  ·
    exact okR h7
  ·
    replace c11 : i1 < 2 := cnt_le rfl (by omega) c11 hi3
    refine okD (isW_lit (Or.inl rfl)) ?_
    refine okB (T_X10_menThere q h7) ?_
    intro r14 s12 h13
    refine okB (T_X10_needOf q h13) ?_
    intro r17 s15 h16
    refine okI (fun c18 => ?_) (fun c18 => ?_)
    ·
      unfold f_X10_lateSides_33
      refine okN ?_
      exact hK4 _ c11 ⟨nI_1 _, h16⟩
    ·
      refine okN ?_
      unfold f_X10_lateSides_33
      refine okN ?_
      exact hK4 _ c11 ⟨nI_1 _, h16⟩
