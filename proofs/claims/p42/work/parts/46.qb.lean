/-! ===== questions of the class, 44 .. 125 ===== -/
theorem T_X2_moveEnds {Z : St → Prop} {σ0 : St} {M T S E A U Y L P N : Nat} (q : ZB Z σ0 M T S E A U Y L P N) (hm : MZ Z) {p0 : Int32} {s : St} (h : Z s) : Ok (fun _ s' => Z s') (f_X2_moveEnds p0 s) := by
  have qM := q.b.hM
  have qT := q.b.hT
  have qS := q.b.S512
  have qE := q.b.hE
  have qA := q.b.hA
  have qU := q.b.hU
  have qY := q.b.hY
  have qA2 := q.b.A256
  have qU2 := q.b.U256
  unfold f_X2_moveEnds
  refine okC (fun (i : Nat) (x : Int32 × Int32 × St) => x.2.1 = nI i ∧ Z x.2.2) S ?_ (i := 0) (by unfold FU; omega) (by omega) ⟨rfl, h⟩
  rintro i1 ⟨v8, v9, s6⟩ K2 hi3 ⟨hv5, h7⟩ hK4
  dsimp only at hv5 h7
  subst hv5
  unfold g_X2_moveEnds_2
  dsimp only
  rw [S_X10_sets q h7, bd_mk]
  refine okI (fun _ => ?_) (fun c10 => ?_)
  ·
    exact okR h7
  ·
    replace c10 : i1 < S := cnt_le rfl (by omega) c10 hi3
    refine okD (inb_ln (n := 512) rfl (by omega) (by omega)) ?_
    refine okD (inb_ln (n := 512) rfl (by omega) (by omega)) ?_
    refine okB (T_X2_signOf q h7) ?_
    intro r13 s11 h12
    refine okD (inb_ln (n := 512) rfl (by omega) (by omega)) ?_
    refine okZ (Z := Z) (hm.1 _ _ _ h12 (by decide)) (fun s14 h15 => ?_)
    refine okN ?_
    exact hK4 _ c10 ⟨nI_1 _, h15⟩
theorem T_X2_findWinners {Z : St → Prop} {σ0 : St} {M T S E A U Y L P N : Nat} (q : ZB Z σ0 M T S E A U Y L P N) (hm : MZ Z)  {s : St} (h : Z s) : Ok (fun _ s' => Z s') (f_X2_findWinners s) := by
  have qM := q.b.hM
  have qT := q.b.hT
  have qS := q.b.S512
  have qE := q.b.hE
  have qA := q.b.hA
  have qU := q.b.hU
  have qY := q.b.hY
  have qA2 := q.b.A256
  have qU2 := q.b.U256
  unfold f_X2_findWinners
  refine okB (T_J7_fill_53178 q h ⟨by decide, by decide⟩ (n := 512) rfl (by omega) (fun s f hs => hm.1 s _ f hs (by decide))) ?_
  intro r3 s1 h2
  refine okC (fun (i : Nat) (x : Int32 × St) => x.1 = nI i ∧ Z x.2) 2 ?_ (i := 0) (by unfold FU; omega) (by omega) ⟨rfl, h2⟩
  rintro i4 ⟨v11, s9⟩ K5 hi6 ⟨hv8, h10⟩ hK7
  dsimp only at hv8 h10
  subst hv8
  unfold g_X2_findWinners_10
  dsimp only
  refine okI (fun _ => ?_) (fun c12 => ?_)
  ·
    refine okC (fun (i : Nat) (x : Int32 × St) => x.1 = nI i ∧ Z x.2) S ?_ (i := 0) (by unfold FU; omega) (by omega) ⟨rfl, h10⟩
    rintro i13 ⟨v20, s18⟩ K14 hi15 ⟨hv17, h19⟩ hK16
    dsimp only at hv17 h19
    subst hv17
    unfold g_X2_findWinners_90
    dsimp only
    rw [S_X10_sets q h19, bd_mk]
    refine okI (fun _ => ?_) (fun c21 => ?_)
    ·
      exact okR h19
    ·
      replace c21 : i13 < S := cnt_le rfl (by omega) c21 hi15
      refine okD (inb_ln (n := 512) rfl (by omega) (by omega)) ?_
      refine okD (inb_ln (n := 512) rfl (by omega) (by omega)) ?_
      refine okB (T_X2_winner q h19) ?_
      intro r24 s22 h23
      refine okD (inb_ln (n := 512) rfl (by omega) (by omega)) ?_
      refine okZ (Z := Z) (hm.1 _ _ _ h23 (by decide)) (fun s25 h26 => ?_)
      refine okN ?_
      exact hK16 _ c21 ⟨nI_1 _, h26⟩
  ·
    replace c12 : i4 < 2 := cnt_le rfl (by omega) c12 hi6
    refine okB (T_X2_takeMen q h10) ?_
    intro r29 s27 h28
    refine okC (fun (i : Nat) (x : Int32 × Int32 × St) => x.2.1 = nI i ∧ x.1 = nI i4 ∧ Z x.2.2) S ?_ (i := 0) (by unfold FU; omega) (by omega) ⟨rfl, rfl, h28⟩
    rintro i30 ⟨v37, v38, s35⟩ K31 hi32 ⟨hv34, hx39, h36⟩ hK33
    dsimp only at hv34 hx39 h36
    subst hv34 hx39
    unfold g_X2_findWinners_32
    dsimp only
    rw [S_X10_sets q h36, bd_mk]
    refine okI (fun _ => ?_) (fun c40 => ?_)
    ·
      refine okN ?_
      exact hK7 _ c12 ⟨nI_1 _, h36⟩
    ·
      replace c40 : i30 < S := cnt_le rfl (by omega) c40 hi32
      refine okD (inb_ln (n := 512) rfl (by omega) (by omega)) ?_
      refine okD (inb_ln (n := 512) rfl (by omega) (by omega)) ?_
      refine okB (T_X10_needOf q h36) ?_
      intro r43 s41 h42
      refine okI (fun c44 => ?_) (fun c44 => ?_)
      ·
        unfold f_X2_findWinners_74
        refine okD (by first | exact inb_ln (n := 512) rfl (by omega) (by omega) | rfl) ?_
        refine okZ (Z := Z) (hm.1 _ _ _ h42 (by decide)) (fun s45 h46 => ?_)
        refine okN ?_
        exact hK33 _ c40 ⟨nI_1 _, rfl, h46⟩
      ·
        unfold f_X2_findWinners_74
        refine okD (by first | exact inb_ln (n := 512) rfl (by omega) (by omega) | rfl) ?_
        refine okZ (Z := Z) (hm.1 _ _ _ h42 (by decide)) (fun s47 h48 => ?_)
        refine okN ?_
        exact hK33 _ c40 ⟨nI_1 _, rfl, h48⟩
theorem T_X3_takePrices {Z : St → Prop} {σ0 : St} {M T S E A U Y L P N : Nat} (q : ZB Z σ0 M T S E A U Y L P N)  {s : St} (h : Z s) : Ok (fun _ s' => Z s') (f_X3_takePrices s) := by
  have qM := q.b.hM
  have qT := q.b.hT
  have qS := q.b.S512
  have qE := q.b.hE
  have qA := q.b.hA
  have qU := q.b.hU
  have qY := q.b.hY
  have qA2 := q.b.A256
  have qU2 := q.b.U256
  unfold f_X3_takePrices
  refine okD rfl ?_
  refine okZ (Z := Z) (q.z.wr _ _ _ h (by decide)) (fun s1 h2 => ?_)
  refine okC (fun (i : Nat) (x : Int32 × St) => x.1 = nI i ∧ Z x.2) T ?_ (i := 0) (by unfold FU; omega) (by omega) ⟨rfl, h2⟩
  rintro i3 ⟨v10, s8⟩ K4 hi5 ⟨hv7, h9⟩ hK6
  dsimp only at hv7 h9
  subst hv7
  unfold g_X3_takePrices_9
  dsimp only
  refine okI (fun _ => ?_) (fun c11 => ?_)
  ·
    exact okR h9
  ·
    replace c11 : i3 < T := cnt_le (q.at' h9).cT (by omega) c11 hi5
    refine okB (T_X9_cell3 q h9) ?_
    intro r14 s12 h13
    refine okB (T_X10_spread q h13 (by omega) ⟨by decide, by decide⟩ rfl (fun s f hs => q.z.wr s _ f hs (by decide))) ?_
    intro r17 s15 h16
    refine okN ?_
    exact hK6 _ c11 ⟨nI_1 _, h16⟩
theorem T_X3_fitByDelays {Z : St → Prop} {σ0 : St} {M T S E A U Y L P N : Nat} (q : ZB Z σ0 M T S E A U Y L P N) {p0 : Int32} {s : St} (h : Z s) : Ok (fun _ s' => Z s') (f_X3_fitByDelays p0 s) := by
  have qM := q.b.hM
  have qT := q.b.hT
  have qS := q.b.S512
  have qE := q.b.hE
  have qA := q.b.hA
  have qU := q.b.hU
  have qY := q.b.hY
  have qA2 := q.b.A256
  have qU2 := q.b.U256
  unfold f_X3_fitByDelays
  refine okB (T_X10_menThere q h) ?_
  intro r3 s1 h2
  refine okD rfl ?_
  refine okZ (Z := Z) (q.z.wr _ _ _ h2 (by decide)) (fun s4 h5 => ?_)
  refine okC (fun (i : Nat) (x : Int32 × Int32 × St) => x.2.1 = nI i ∧ Z x.2.2) T ?_ (i := 0) (by unfold FU; omega) (by omega) ⟨rfl, h5⟩
  rintro i6 ⟨v13, v14, s11⟩ K7 hi8 ⟨hv10, h12⟩ hK9
  dsimp only at hv10 h12
  subst hv10
  unfold g_X3_fitByDelays_24
  dsimp only
  refine okI (fun _ => ?_) (fun c15 => ?_)
  ·
    refine okC (fun (i : Nat) (x : Int32 × Int32 × St) => x.2.1 = nI i ∧ Z x.2.2) S ?_ (i := 0) (by unfold FU; omega) (by omega) ⟨rfl, h12⟩
    rintro i16 ⟨v23, v24, s21⟩ K17 hi18 ⟨hv20, h22⟩ hK19
    dsimp only at hv20 h22
    subst hv20
    unfold g_X3_fitByDelays_100
    dsimp only
    rw [S_X10_sets q h22, bd_mk]
    refine okI (fun _ => ?_) (fun c25 => ?_)
    ·
      exact okR h22
    ·
      replace c25 : i16 < S := cnt_le rfl (by omega) c25 hi18
      refine okD (inb_ln (n := 512) rfl (by omega) (by omega)) ?_
      refine okB (T_X10_needOf q h22) ?_
      intro r28 s26 h27
      refine okI (fun c29 => ?_) (fun c29 => ?_)
      ·
        unfold f_X3_fitByDelays_138
        refine okD (by first | exact inb_ln (n := 512) rfl (by omega) (by omega) | rfl) ?_
        refine okZ (Z := Z) (q.z.wr _ _ _ h27 (by decide)) (fun s30 h31 => ?_)
        refine okN ?_
        exact hK19 _ c25 ⟨nI_1 _, h31⟩
      ·
        unfold f_X3_fitByDelays_138
        refine okD (by first | exact inb_ln (n := 512) rfl (by omega) (by omega) | rfl) ?_
        refine okZ (Z := Z) (q.z.wr _ _ _ h27 (by decide)) (fun s32 h33 => ?_)
        refine okN ?_
        exact hK19 _ c25 ⟨nI_1 _, h33⟩
  ·
    replace c15 : i6 < T := cnt_le (q.at' h12).cT (by omega) c15 hi8
    refine okB (T_X9_cell3 q h12) ?_
    intro r36 s34 h35
    refine okI (fun c37 => ?_) (fun c37 => ?_)
    ·
      unfold f_X3_fitByDelays_59
      refine okI (fun c38 => ?_) (fun c38 => ?_)
      ·
        unfold f_X3_fitByDelays_89
        refine okB (T_X10_spread q h35 (by omega) ⟨by decide, by decide⟩ rfl (fun s f hs => q.z.wr s _ f hs (by decide))) ?_
        intro r41 s39 h40
        refine okN ?_
        exact hK9 _ c15 ⟨nI_1 _, h40⟩
      ·
        refine okB (T_X10_menLost q h35) ?_
        intro r44 s42 h43
        unfold f_X3_fitByDelays_89
        refine okB (T_X10_spread q h43 (by omega) ⟨by decide, by decide⟩ rfl (fun s f hs => q.z.wr s _ f hs (by decide))) ?_
        intro r47 s45 h46
        refine okN ?_
        exact hK9 _ c15 ⟨nI_1 _, h46⟩
    ·
      unfold f_X3_fitByDelays_59
      refine okI (fun c48 => ?_) (fun c48 => ?_)
      ·
        unfold f_X3_fitByDelays_89
        refine okB (T_X10_spread q h35 (by omega) ⟨by decide, by decide⟩ rfl (fun s f hs => q.z.wr s _ f hs (by decide))) ?_
        intro r51 s49 h50
        refine okN ?_
        exact hK9 _ c15 ⟨nI_1 _, h50⟩
      ·
        refine okB (T_X10_menLost q h35) ?_
        intro r54 s52 h53
        unfold f_X3_fitByDelays_89
        refine okB (T_X10_spread q h53 (by omega) ⟨by decide, by decide⟩ rfl (fun s f hs => q.z.wr s _ f hs (by decide))) ?_
        intro r57 s55 h56
        refine okN ?_
        exact hK9 _ c15 ⟨nI_1 _, h56⟩
theorem T_X3_cheapest {Z : St → Prop} {σ0 : St} {M T S E A U Y L P N : Nat} (q : ZB Z σ0 M T S E A U Y L P N) {p0 : Int32} {s : St} (h : Z s) : Ok (fun _ s' => Z s') (f_X3_cheapest p0 s) := by
  have qM := q.b.hM
  have qT := q.b.hT
  have qS := q.b.S512
  have qE := q.b.hE
  have qA := q.b.hA
  have qU := q.b.hU
  have qY := q.b.hY
  have qA2 := q.b.A256
  have qU2 := q.b.U256
  unfold f_X3_cheapest
  refine okC (fun (i : Nat) (x : Int32 × Int32 × Int32 × Int32 × St) => x.2.2.2.1 = nI i ∧ Z x.2.2.2.2) S ?_ (i := 0) (by unfold FU; omega) (by omega) ⟨rfl, h⟩
  rintro i1 ⟨v8, v9, v10, v11, s6⟩ K2 hi3 ⟨hv5, h7⟩ hK4
  dsimp only at hv5 h7
  subst hv5
  unfold g_X3_cheapest_8
  dsimp only
  rw [S_X10_sets q h7, bd_mk]
  refine okI (fun _ => ?_) (fun c12 => ?_)
  ·
    exact okR h7
  ·
    replace c12 : i1 < S := cnt_le rfl (by omega) c12 hi3
    refine okI (fun c13 => ?_) (fun c13 => ?_)
    ·
      refine okD (inb_ln (n := 512) rfl (by omega) (by omega)) ?_
      refine okI (fun c14 => ?_) (fun c14 => ?_)
      ·
        unfold f_X3_cheapest_61
        refine okN ?_
        exact hK4 _ c12 ⟨nI_1 _, h7⟩
      ·
        refine okD (inb_ln (n := 512) rfl (by omega) (by omega)) ?_
        refine okI (fun c15 => ?_) (fun c15 => ?_)
        ·
          unfold f_X3_cheapest_61
          refine okN ?_
          exact hK4 _ c12 ⟨nI_1 _, h7⟩
        ·
          refine okD (inb_ln (n := 512) rfl (by omega) (by omega)) ?_
          refine okN ?_
          unfold f_X3_cheapest_61
          refine okN ?_
          exact hK4 _ c12 ⟨nI_1 _, h7⟩
    ·
      unfold f_X3_cheapest_61
      refine okN ?_
      exact hK4 _ c12 ⟨nI_1 _, h7⟩
theorem T_X4_isHeld {Z : St → Prop} {σ0 : St} {M T S E A U Y L P N : Nat} (q : ZB Z σ0 M T S E A U Y L P N) {p0 : Int32} {p1 : Int32} {s : St} (h : Z s) : Ok (fun _ s' => Z s') (f_X4_isHeld p0 p1 s) := by
  have qM := q.b.hM
  have qT := q.b.hT
  have qS := q.b.S512
  have qE := q.b.hE
  have qA := q.b.hA
  have qU := q.b.hU
  have qY := q.b.hY
  have qA2 := q.b.A256
  have qU2 := q.b.U256
  unfold f_X4_isHeld
  refine okC (fun (i : Nat) (x : Int32 × Int32 × Int32 × St) => x.2.2.1 = nI i ∧ Z x.2.2.2) U ?_ (i := 0) (by unfold FU; omega) (by omega) ⟨rfl, h⟩
  rintro i1 ⟨v8, v9, v10, s6⟩ K2 hi3 ⟨hv5, h7⟩ hK4
  dsimp only at hv5 h7
  subst hv5
  unfold g_X4_isHeld_2
  dsimp only
  refine okI (fun _ => ?_) (fun c11 => ?_)
  ·
    refine okD rfl ?_
    exact okR h7
  ·
    replace c11 : i1 < U := cnt_le (q.at' h7).cU (by omega) c11 hi3
    refine okB (T_X9_cell9 q h7) ?_
    intro r14 s12 h13
    refine okB (T_X9_cell9 q h13) ?_
    intro r17 s15 h16
    refine okI (fun c18 => ?_) (fun c18 => ?_)
    ·
      unfold f_X4_isHeld_66
      unfold f_X4_isHeld_71
      refine okI (fun c19 => ?_) (fun c19 => ?_)
      ·
        unfold f_X4_isHeld_97
        unfold f_X4_isHeld_102
        refine okI (fun c20 => ?_) (fun c20 => ?_)
        ·
          unfold f_X4_isHeld_116
          refine okN ?_
          exact hK4 _ c11 ⟨nI_1 _, h16⟩
        ·
          refine okI (fun c21 => ?_) (fun c21 => ?_)
          ·
            unfold f_X4_isHeld_116
            refine okN ?_
            exact hK4 _ c11 ⟨nI_1 _, h16⟩
          ·
            refine okD rfl ?_
            exact okR h16
      ·
        refine okI (fun c22 => ?_) (fun c22 => ?_)
        ·
          refine okB (T_X10_isIn q h16) ?_
          intro r25 s23 h24
          refine okI (fun c26 => ?_) (fun c26 => ?_)
          ·
            unfold f_X4_isHeld_101
            unfold f_X4_isHeld_102
            refine okI (fun c27 => ?_) (fun c27 => ?_)
            ·
              unfold f_X4_isHeld_116
              refine okN ?_
              exact hK4 _ c11 ⟨nI_1 _, h24⟩
            ·
              refine okI (fun c28 => ?_) (fun c28 => ?_)
              ·
                unfold f_X4_isHeld_116
                refine okN ?_
                exact hK4 _ c11 ⟨nI_1 _, h24⟩
              ·
                refine okD rfl ?_
                exact okR h24
          ·
            unfold f_X4_isHeld_97
            unfold f_X4_isHeld_102
            refine okI (fun c29 => ?_) (fun c29 => ?_)
            ·
              unfold f_X4_isHeld_116
              refine okN ?_
              exact hK4 _ c11 ⟨nI_1 _, h24⟩
            ·
              refine okI (fun c30 => ?_) (fun c30 => ?_)
              ·
                unfold f_X4_isHeld_116
                refine okN ?_
                exact hK4 _ c11 ⟨nI_1 _, h24⟩
              ·
                refine okD rfl ?_
                exact okR h24
        ·
          unfold f_X4_isHeld_101
          unfold f_X4_isHeld_102
          refine okI (fun c31 => ?_) (fun c31 => ?_)
          ·
            unfold f_X4_isHeld_116
            refine okN ?_
            exact hK4 _ c11 ⟨nI_1 _, h16⟩
          ·
            refine okI (fun c32 => ?_) (fun c32 => ?_)
            ·
              unfold f_X4_isHeld_116
              refine okN ?_
              exact hK4 _ c11 ⟨nI_1 _, h16⟩
            ·
              refine okD rfl ?_
              exact okR h16
    ·
      refine okI (fun c33 => ?_) (fun c33 => ?_)
      ·
        refine okB (T_X10_isIn q h16) ?_
        intro r36 s34 h35
        refine okI (fun c37 => ?_) (fun c37 => ?_)
        ·
          unfold f_X4_isHeld_70
          unfold f_X4_isHeld_71
          refine okI (fun c38 => ?_) (fun c38 => ?_)
          ·
            unfold f_X4_isHeld_97
            unfold f_X4_isHeld_102
            refine okI (fun c39 => ?_) (fun c39 => ?_)
            ·
              unfold f_X4_isHeld_116
              refine okN ?_
              exact hK4 _ c11 ⟨nI_1 _, h35⟩
            ·
              refine okI (fun c40 => ?_) (fun c40 => ?_)
              ·
                unfold f_X4_isHeld_116
                refine okN ?_
                exact hK4 _ c11 ⟨nI_1 _, h35⟩
              ·
                refine okD rfl ?_
                exact okR h35
          ·
            refine okI (fun c41 => ?_) (fun c41 => ?_)
            ·
              refine okB (T_X10_isIn q h35) ?_
              intro r44 s42 h43
              refine okI (fun c45 => ?_) (fun c45 => ?_)
              ·
                unfold f_X4_isHeld_101
                unfold f_X4_isHeld_102
                refine okI (fun c46 => ?_) (fun c46 => ?_)
                ·
                  unfold f_X4_isHeld_116
                  refine okN ?_
                  exact hK4 _ c11 ⟨nI_1 _, h43⟩
                ·
                  refine okI (fun c47 => ?_) (fun c47 => ?_)
                  ·
                    unfold f_X4_isHeld_116
                    refine okN ?_
                    exact hK4 _ c11 ⟨nI_1 _, h43⟩
                  ·
                    refine okD rfl ?_
                    exact okR h43
              ·
                unfold f_X4_isHeld_97
                unfold f_X4_isHeld_102
                refine okI (fun c48 => ?_) (fun c48 => ?_)
                ·
                  unfold f_X4_isHeld_116
                  refine okN ?_
                  exact hK4 _ c11 ⟨nI_1 _, h43⟩
                ·
                  refine okI (fun c49 => ?_) (fun c49 => ?_)
                  ·
                    unfold f_X4_isHeld_116
                    refine okN ?_
                    exact hK4 _ c11 ⟨nI_1 _, h43⟩
                  ·
                    refine okD rfl ?_
                    exact okR h43
            ·
              unfold f_X4_isHeld_101
              unfold f_X4_isHeld_102
              refine okI (fun c50 => ?_) (fun c50 => ?_)
              ·
                unfold f_X4_isHeld_116
                refine okN ?_
                exact hK4 _ c11 ⟨nI_1 _, h35⟩
              ·
                refine okI (fun c51 => ?_) (fun c51 => ?_)
                ·
                  unfold f_X4_isHeld_116
                  refine okN ?_
                  exact hK4 _ c11 ⟨nI_1 _, h35⟩
                ·
                  refine okD rfl ?_
                  exact okR h35
        ·
          unfold f_X4_isHeld_66
          unfold f_X4_isHeld_71
          refine okI (fun c52 => ?_) (fun c52 => ?_)
          ·
            unfold f_X4_isHeld_97
            unfold f_X4_isHeld_102
            refine okI (fun c53 => ?_) (fun c53 => ?_)
            ·
              unfold f_X4_isHeld_116
              refine okN ?_
              exact hK4 _ c11 ⟨nI_1 _, h35⟩
            ·
              refine okI (fun c54 => ?_) (fun c54 => ?_)
              ·
                unfold f_X4_isHeld_116
                refine okN ?_
                exact hK4 _ c11 ⟨nI_1 _, h35⟩
              ·
                refine okD rfl ?_
                exact okR h35
          ·
            refine okI (fun c55 => ?_) (fun c55 => ?_)
            ·
              refine okB (T_X10_isIn q h35) ?_
              intro r58 s56 h57
              refine okI (fun c59 => ?_) (fun c59 => ?_)
              ·
                unfold f_X4_isHeld_101
                unfold f_X4_isHeld_102
                refine okI (fun c60 => ?_) (fun c60 => ?_)
                ·
                  unfold f_X4_isHeld_116
                  refine okN ?_
                  exact hK4 _ c11 ⟨nI_1 _, h57⟩
                ·
                  refine okI (fun c61 => ?_) (fun c61 => ?_)
                  ·
                    unfold f_X4_isHeld_116
                    refine okN ?_
                    exact hK4 _ c11 ⟨nI_1 _, h57⟩
                  ·
                    refine okD rfl ?_
                    exact okR h57
              ·
                unfold f_X4_isHeld_97
                unfold f_X4_isHeld_102
                refine okI (fun c62 => ?_) (fun c62 => ?_)
                ·
                  unfold f_X4_isHeld_116
                  refine okN ?_
                  exact hK4 _ c11 ⟨nI_1 _, h57⟩
                ·
                  refine okI (fun c63 => ?_) (fun c63 => ?_)
                  ·
                    unfold f_X4_isHeld_116
                    refine okN ?_
                    exact hK4 _ c11 ⟨nI_1 _, h57⟩
                  ·
                    refine okD rfl ?_
                    exact okR h57
            ·
              unfold f_X4_isHeld_101
              unfold f_X4_isHeld_102
              refine okI (fun c64 => ?_) (fun c64 => ?_)
              ·
                unfold f_X4_isHeld_116
                refine okN ?_
                exact hK4 _ c11 ⟨nI_1 _, h35⟩
              ·
                refine okI (fun c65 => ?_) (fun c65 => ?_)
                ·
                  unfold f_X4_isHeld_116
                  refine okN ?_
                  exact hK4 _ c11 ⟨nI_1 _, h35⟩
                ·
                  refine okD rfl ?_
                  exact okR h35
      ·
        unfold f_X4_isHeld_70
        unfold f_X4_isHeld_71
        refine okI (fun c66 => ?_) (fun c66 => ?_)
        ·
          unfold f_X4_isHeld_97
          unfold f_X4_isHeld_102
          refine okI (fun c67 => ?_) (fun c67 => ?_)
          ·
            unfold f_X4_isHeld_116
            refine okN ?_
            exact hK4 _ c11 ⟨nI_1 _, h16⟩
          ·
            refine okI (fun c68 => ?_) (fun c68 => ?_)
            ·
              unfold f_X4_isHeld_116
              refine okN ?_
              exact hK4 _ c11 ⟨nI_1 _, h16⟩
            ·
              refine okD rfl ?_
              exact okR h16
        ·
          refine okI (fun c69 => ?_) (fun c69 => ?_)
          ·
            refine okB (T_X10_isIn q h16) ?_
            intro r72 s70 h71
            refine okI (fun c73 => ?_) (fun c73 => ?_)
            ·
              unfold f_X4_isHeld_101
              unfold f_X4_isHeld_102
              refine okI (fun c74 => ?_) (fun c74 => ?_)
              ·
                unfold f_X4_isHeld_116
                refine okN ?_
                exact hK4 _ c11 ⟨nI_1 _, h71⟩
              ·
                refine okI (fun c75 => ?_) (fun c75 => ?_)
                ·
                  unfold f_X4_isHeld_116
                  refine okN ?_
                  exact hK4 _ c11 ⟨nI_1 _, h71⟩
                ·
                  refine okD rfl ?_
                  exact okR h71
            ·
              unfold f_X4_isHeld_97
              unfold f_X4_isHeld_102
              refine okI (fun c76 => ?_) (fun c76 => ?_)
              ·
                unfold f_X4_isHeld_116
                refine okN ?_
                exact hK4 _ c11 ⟨nI_1 _, h71⟩
              ·
                refine okI (fun c77 => ?_) (fun c77 => ?_)
                ·
                  unfold f_X4_isHeld_116
                  refine okN ?_
                  exact hK4 _ c11 ⟨nI_1 _, h71⟩
                ·
                  refine okD rfl ?_
                  exact okR h71
          ·
            unfold f_X4_isHeld_101
            unfold f_X4_isHeld_102
            refine okI (fun c78 => ?_) (fun c78 => ?_)
            ·
              unfold f_X4_isHeld_116
              refine okN ?_
              exact hK4 _ c11 ⟨nI_1 _, h16⟩
            ·
              refine okI (fun c79 => ?_) (fun c79 => ?_)
              ·
                unfold f_X4_isHeld_116
                refine okN ?_
                exact hK4 _ c11 ⟨nI_1 _, h16⟩
              ·
                refine okD rfl ?_
                exact okR h16
theorem T_X8_knownTo {Z : St → Prop} {σ0 : St} {M T S E A U Y L P N : Nat} (q : ZB Z σ0 M T S E A U Y L P N) {p0 : Int32} {s : St} (h : Z s) : Ok (fun _ s' => Z s') (f_X8_knownTo p0 s) := by
  have qM := q.b.hM
  have qT := q.b.hT
  have qS := q.b.S512
  have qE := q.b.hE
  have qA := q.b.hA
  have qU := q.b.hU
  have qY := q.b.hY
  have qA2 := q.b.A256
  have qU2 := q.b.U256
  unfold f_X8_knownTo
  refine okB (T_X9_cell11 q h) ?_
  intro r3 s1 h2
  exact okR h2
theorem T_X10_hasSet {Z : St → Prop} {σ0 : St} {M T S E A U Y L P N : Nat} (q : ZB Z σ0 M T S E A U Y L P N) {p0 : Int32} {s : St} (h : Z s) : Ok (fun _ s' => Z s') (f_X10_hasSet 1 p0 s) := by
  have qM := q.b.hM
  have qT := q.b.hT
  have qS := q.b.S512
  have qE := q.b.hE
  have qA := q.b.hA
  have qU := q.b.hU
  have qY := q.b.hY
  have qA2 := q.b.A256
  have qU2 := q.b.U256
  unfold f_X10_hasSet
  refine okD (isW_lit (Or.inl rfl)) ?_
  refine okB (T_X10_isTold q h) ?_
  intro r3 s1 h2
  refine okI (fun c4 => ?_) (fun c4 => ?_)
  ·
    unfold f_X10_hasSet_23
    unfold f_X10_hasSet_24
    refine okD rfl ?_
    exact okR h2
  ·
    refine okI (fun c5 => ?_) (fun c5 => ?_)
    ·
      unfold f_X10_hasSet_23
      unfold f_X10_hasSet_24
      refine okD rfl ?_
      exact okR h2
    ·
      rw [S_X10_sets q h2, bd_mk]
      refine okI (fun c6 => ?_) (fun c6 => ?_)
      ·
        unfold f_X10_hasSet_23
        unfold f_X10_hasSet_24
        refine okD rfl ?_
        exact okR h2
      ·
        unfold f_X10_hasSet_24
        refine okD rfl ?_
        exact okR h2
theorem T_X11_price {Z : St → Prop} {σ0 : St} {M T S E A U Y L P N : Nat} (q : ZB Z σ0 M T S E A U Y L P N) {p0 p1 : Int32} {s : St} (h : Z s) : Ok (fun _ s' => Z s') (f_X11_price p0 p1 s) := by
  unfold f_X11_price f_X11_price_27 f_X11_price_58
  refine okB (T_X10_hasSet q h) ?_
  intro r1 s1 h1
  refine okI (fun _ => okR h1) (fun _ => ?_)
  refine okI (fun _ => okR h1) (fun c1 => ?_)
  refine okI (fun c2 => ?_) (fun _ => okR h1)
  refine okB (T_X2_follow q h1) ?_
  intro r2 s2 h2
  refine okB (T_X2_farthestFrom q h2 (of_cond c1 c2 (q.at' h1).cM q.b.hM)) ?_
  intro r3 s3 h3
  refine okI (fun _ => okR h3) (fun _ => okR h3)
theorem T_X11_men {Z : St → Prop} {σ0 : St} {M T S E A U Y L P N : Nat} (q : ZB Z σ0 M T S E A U Y L P N) {p0 : Int32} {p1 : Int32} {p2 : Int32} {s : St} (h : Z s) : Ok (fun _ s' => Z s') (f_X11_men p0 p1 p2 s) := by
  have qM := q.b.hM
  have qT := q.b.hT
  have qS := q.b.S512
  have qE := q.b.hE
  have qA := q.b.hA
  have qU := q.b.hU
  have qY := q.b.hY
  have qA2 := q.b.A256
  have qU2 := q.b.U256
  unfold f_X11_men
  refine okB (T_X10_hasSide q h) ?_
  intro r3 s1 h2
  refine okI (fun c4 => ?_) (fun c4 => ?_)
  ·
    unfold f_X11_men_29
    exact okR h2
  ·
    refine okB (T_X11_isMinute q h2) ?_
    intro r7 s5 h6
    refine okI (fun c8 => ?_) (fun c8 => ?_)
    ·
      unfold f_X11_men_29
      exact okR h6
    ·
      refine okB (T_X10_hasSet q h6) ?_
      intro r11 s9 h10
      refine okI (fun c12 => ?_) (fun c12 => ?_)
      ·
        unfold f_X11_men_29
        exact okR h10
      ·
        refine okB (T_X10_menThere q h10) ?_
        intro r15 s13 h14
        exact okR h14
theorem T_X11_front {Z : St → Prop} {σ0 : St} {M T S E A U Y L P N : Nat} (q : ZB Z σ0 M T S E A U Y L P N) {p0 : Int32} {p1 : Int32} {s : St} (h : Z s) : Ok (fun _ s' => Z s') (f_X11_front p0 p1 s) := by
  have qM := q.b.hM
  have qT := q.b.hT
  have qS := q.b.S512
  have qE := q.b.hE
  have qA := q.b.hA
  have qU := q.b.hU
  have qY := q.b.hY
  have qA2 := q.b.A256
  have qU2 := q.b.U256
  unfold f_X11_front
  refine okB (T_X10_hasSet q h) ?_
  intro r3 s1 h2
  refine okI (fun c4 => ?_) (fun c4 => ?_)
  ·
    unfold f_X11_front_26
    exact okR h2
  ·
    refine okI (fun c5 => ?_) (fun c5 => ?_)
    ·
      unfold f_X11_front_26
      exact okR h2
    ·
      refine okI (fun c6 => ?_) (fun c6 => ?_)
      ·
        refine okB (T_X2_follow q h2) ?_
        intro r9 s7 h8
        refine okB (T_X2_frontBehind q h8) ?_
        intro r12 s10 h11
        exact okR h11
      ·
        unfold f_X11_front_26
        exact okR h2
theorem T_X11_late {Z : St → Prop} {σ0 : St} {M T S E A U Y L P N : Nat} (q : ZB Z σ0 M T S E A U Y L P N) {p0 : Int32} {s : St} (h : Z s) : Ok (fun _ s' => Z s') (f_X11_late p0 s) := by
  have qM := q.b.hM
  have qT := q.b.hT
  have qS := q.b.S512
  have qE := q.b.hE
  have qA := q.b.hA
  have qU := q.b.hU
  have qY := q.b.hY
  have qA2 := q.b.A256
  have qU2 := q.b.U256
  unfold f_X11_late
  refine okB (T_X10_hasSet q h) ?_
  intro r3 s1 h2
  refine okI (fun c4 => ?_) (fun c4 => ?_)
  ·
    unfold f_X11_late_24
    exact okR h2
  ·
    refine okB (T_X10_lateSides q h2) ?_
    intro r7 s5 h6
    unfold f_X11_late_24
    exact okR h6
theorem T_X11_wins {Z : St → Prop} {σ0 : St} {M T S E A U Y L P N : Nat} (q : ZB Z σ0 M T S E A U Y L P N) {p0 : Int32} {s : St} (h : Z s) : Ok (fun _ s' => Z s') (f_X11_wins p0 s) := by
  have qM := q.b.hM
  have qT := q.b.hT
  have qS := q.b.S512
  have qE := q.b.hE
  have qA := q.b.hA
  have qU := q.b.hU
  have qY := q.b.hY
  have qA2 := q.b.A256
  have qU2 := q.b.U256
  unfold f_X11_wins
  refine okB (T_X10_hasSet q h) ?_
  intro r3 s1 h2
  refine okI (fun c4 => ?_) (fun c4 => ?_)
  ·
    unfold f_X11_wins_24
    exact okR h2
  ·
    refine okB (T_X2_winnerBy q h2) ?_
    intro r7 s5 h6
    unfold f_X11_wins_24
    exact okR h6
theorem T_X11_peak {Z : St → Prop} {σ0 : St} {M T S E A U Y L P N : Nat} (q : ZB Z σ0 M T S E A U Y L P N) {p0 : Int32} {p1 : Int32} {s : St} (h : Z s) : Ok (fun _ s' => Z s') (f_X11_peak p0 p1 s) := by
  have qM := q.b.hM
  have qT := q.b.hT
  have qS := q.b.S512
  have qE := q.b.hE
  have qA := q.b.hA
  have qU := q.b.hU
  have qY := q.b.hY
  have qA2 := q.b.A256
  have qU2 := q.b.U256
  unfold f_X11_peak
  refine okB (T_X10_hasSide q h) ?_
  intro r3 s1 h2
  refine okI (fun c4 => ?_) (fun c4 => ?_)
  ·
    unfold f_X11_peak_22
    exact okR h2
  ·
    refine okB (T_X10_hasSet q h2) ?_
    intro r7 s5 h6
    refine okI (fun c8 => ?_) (fun c8 => ?_)
    ·
      unfold f_X11_peak_22
      exact okR h6
    ·
      refine okB (T_X2_follow q h6) ?_
      intro r11 s9 h10
      refine okB (T_X2_peakOf q h10) ?_
      intro r14 s12 h13
      exact okR h13
theorem T_X11_swings {Z : St → Prop} {σ0 : St} {M T S E A U Y L P N : Nat} (q : ZB Z σ0 M T S E A U Y L P N) {p0 : Int32} {s : St} (h : Z s) : Ok (fun _ s' => Z s') (f_X11_swings p0 s) := by
  have qM := q.b.hM
  have qT := q.b.hT
  have qS := q.b.S512
  have qE := q.b.hE
  have qA := q.b.hA
  have qU := q.b.hU
  have qY := q.b.hY
  have qA2 := q.b.A256
  have qU2 := q.b.U256
  unfold f_X11_swings
  refine okB (T_X10_hasSet q h) ?_
  intro r3 s1 h2
  refine okI (fun c4 => ?_) (fun c4 => ?_)
  ·
    exact okR h2
  ·
    refine okB (T_X2_follow q h2) ?_
    intro r7 s5 h6
    refine okB (T_X2_countSwings q h6) ?_
    intro r10 s8 h9
    exact okR h9
theorem T_X11_since {Z : St → Prop} {σ0 : St} {M T S E A U Y L P N : Nat} (q : ZB Z σ0 M T S E A U Y L P N) {p0 : Int32} {p1 : Int32} {s : St} (h : Z s) : Ok (fun _ s' => Z s') (f_X11_since p0 p1 s) := by
  have qM := q.b.hM
  have qT := q.b.hT
  have qS := q.b.S512
  have qE := q.b.hE
  have qA := q.b.hA
  have qU := q.b.hU
  have qY := q.b.hY
  have qA2 := q.b.A256
  have qU2 := q.b.U256
  unfold f_X11_since
  refine okB (T_X10_hasSide q h) ?_
  intro r3 s1 h2
  refine okI (fun c4 => ?_) (fun c4 => ?_)
  ·
    unfold f_X11_since_22
    exact okR h2
  ·
    refine okB (T_X10_hasSet q h2) ?_
    intro r7 s5 h6
    refine okI (fun c8 => ?_) (fun c8 => ?_)
    ·
      unfold f_X11_since_22
      exact okR h6
    ·
      refine okC (fun (i : Nat) (x : Int32 × Int32 × Int32 × St) => x.2.2.1 = nI i ∧ Z x.2.2.2) (99 + 1) ?_ (i := 0) (by unfold FU; omega) (by omega) ⟨rfl, h6⟩
      rintro i9 ⟨v16, v17, v18, s14⟩ K10 hi11 ⟨hv13, h15⟩ hK12
      dsimp only at hv13 h15
      subst hv13
      unfold g_X11_since_27
      dsimp only
      refine okI (fun _ => ?_) (fun c19 => ?_)
      ·
        exact okR h15
      ·
        replace c19 : i9 < 99 + 1 := cnt_lt rfl (by omega) c19 hi11
        refine okB (T_X10_menThere q h15) ?_
        intro r22 s20 h21
        refine okB (T_X10_needOf q h21) ?_
        intro r25 s23 h24
        refine okI (fun c26 => ?_) (fun c26 => ?_)
        ·
          refine okN ?_
          exact hK12 _ c19 ⟨nI_1 _, h24⟩
        ·
          exact okR h24
theorem T_X11_comes {Z : St → Prop} {σ0 : St} {M T S E A U Y L P N : Nat} (q : ZB Z σ0 M T S E A U Y L P N) {p0 : Int32} {p1 : Int32} {s : St} (h : Z s) : Ok (fun _ s' => Z s') (f_X11_comes p0 p1 s) := by
  have qM := q.b.hM
  have qT := q.b.hT
  have qS := q.b.S512
  have qE := q.b.hE
  have qA := q.b.hA
  have qU := q.b.hU
  have qY := q.b.hY
  have qA2 := q.b.A256
  have qU2 := q.b.U256
  unfold f_X11_comes
  refine okB (T_X11_isMinute q h) ?_
  intro r3 s1 h2
  refine okI (fun c4 => ?_) (fun c4 => ?_)
  ·
    unfold f_X11_comes_18
    exact okR h2
  ·
    refine okB (T_X10_hasSet q h2) ?_
    intro r7 s5 h6
    refine okI (fun c8 => ?_) (fun c8 => ?_)
    ·
      unfold f_X11_comes_18
      exact okR h6
    ·
      refine okB (T_X10_comingIn q h6) ?_
      intro r11 s9 h10
      exact okR h10
theorem T_X11_even {Z : St → Prop} {σ0 : St} {M T S E A U Y L P N : Nat} (q : ZB Z σ0 M T S E A U Y L P N) {p0 : Int32} {s : St} (h : Z s) : Ok (fun _ s' => Z s') (f_X11_even p0 s) := by
  have qM := q.b.hM
  have qT := q.b.hT
  have qS := q.b.S512
  have qE := q.b.hE
  have qA := q.b.hA
  have qU := q.b.hU
  have qY := q.b.hY
  have qA2 := q.b.A256
  have qU2 := q.b.U256
  unfold f_X11_even
  refine okB (T_X10_hasSet q h) ?_
  intro r3 s1 h2
  refine okI (fun c4 => ?_) (fun c4 => ?_)
  ·
    exact okR h2
  ·
    refine okC (fun (i : Nat) (x : Int32 × Int64 × Int32 × St) => x.2.2.1 = nI i ∧ Z x.2.2.2) M ?_ (i := 0) (by unfold FU; omega) (by omega) ⟨rfl, h2⟩
    rintro i5 ⟨v12, v13, v14, s10⟩ K6 hi7 ⟨hv9, h11⟩ hK8
    dsimp only at hv9 h11
    subst hv9
    unfold g_X11_even_20
    dsimp only
    refine okI (fun _ => ?_) (fun c15 => ?_)
    ·
      exact okR h11
    ·
      replace c15 : i5 < M := cnt_le (q.at' h11).cM (by omega) c15 hi7
      refine okB (T_X10_leadIn q h11) ?_
      intro r18 s16 h17
      refine okI (fun c19 => ?_) (fun c19 => ?_)
      ·
        refine okN ?_
        unfold f_X11_even_52
        refine okN ?_
        exact hK8 _ c15 ⟨nI_1 _, h17⟩
      ·
        unfold f_X11_even_52
        refine okN ?_
        exact hK8 _ c15 ⟨nI_1 _, h17⟩
theorem T_X11_treaties {Z : St → Prop} {σ0 : St} {M T S E A U Y L P N : Nat} (q : ZB Z σ0 M T S E A U Y L P N) {p0 : Int32} {s : St} (h : Z s) : Ok (fun _ s' => Z s') (f_X11_treaties p0 s) := by
  have qM := q.b.hM
  have qT := q.b.hT
  have qS := q.b.S512
  have qE := q.b.hE
  have qA := q.b.hA
  have qU := q.b.hU
  have qY := q.b.hY
  have qA2 := q.b.A256
  have qU2 := q.b.U256
  unfold f_X11_treaties
  refine okB (T_X10_hasSet q h) ?_
  intro r3 s1 h2
  refine okI (fun c4 => ?_) (fun c4 => ?_)
  ·
    exact okR h2
  ·
    refine okB (T_X2_follow q h2) ?_
    intro r7 s5 h6
    refine okB (T_X2_treatyEnds q h6) ?_
    intro r10 s8 h9
    exact okR h9
theorem T_X11_insist {Z : St → Prop} {σ0 : St} {M T S E A U Y L P N : Nat} (q : ZB Z σ0 M T S E A U Y L P N) {p0 : Int32} {s : St} (h : Z s) : Ok (fun _ s' => Z s') (f_X11_insist p0 s) := by
  have qM := q.b.hM
  have qT := q.b.hT
  have qS := q.b.S512
  have qE := q.b.hE
  have qA := q.b.hA
  have qU := q.b.hU
  have qY := q.b.hY
  have qA2 := q.b.A256
  have qU2 := q.b.U256
  unfold f_X11_insist
  refine okB (T_X10_isTold q h) ?_
  intro r3 s1 h2
  refine okI (fun c4 => ?_) (fun c4 => ?_)
  ·
    unfold f_X11_insist_31
    unfold f_X11_insist_33
    exact okR h2
  ·
    refine okB (T_X11_isPercent q h2) ?_
    intro r7 s5 h6
    refine okI (fun c8 => ?_) (fun c8 => ?_)
    ·
      unfold f_X11_insist_31
      unfold f_X11_insist_33
      exact okR h6
    ·
      refine okB (T_X1_wednesdaysToInsist q h6) ?_
      intro r11 s9 h10
      unfold f_X11_insist_33
      exact okR h10
theorem T_X11_drawn {Z : St → Prop} {σ0 : St} {M T S E A U Y L P N : Nat} (q : ZB Z σ0 M T S E A U Y L P N) {p0 : Int32} {p1 : Int32} {s : St} (h : Z s) : Ok (fun _ s' => Z s') (f_X11_drawn p0 p1 s) := by
  have qM := q.b.hM
  have qT := q.b.hT
  have qS := q.b.S512
  have qE := q.b.hE
  have qA := q.b.hA
  have qU := q.b.hU
  have qY := q.b.hY
  have qA2 := q.b.A256
  have qU2 := q.b.U256
  unfold f_X11_drawn
  refine okB (T_X11_isSeed q h) ?_
  intro r3 s1 h2
  refine okI (fun c4 => ?_) (fun c4 => ?_)
  ·
    unfold f_X11_drawn_17
    exact okR h2
  ·
    refine okI (fun c5 => ?_) (fun c5 => ?_)
    ·
      unfold f_X11_drawn_17
      exact okR h2
    ·
      refine okI (fun c6 => ?_) (fun c6 => ?_)
      ·
        refine okB (T_X1_drawnDelays q h2) ?_
        intro r9 s7 h8
        refine okI (fun c10 => ?_) (fun c10 => ?_)
        ·
          try subst c10
          exact okR h8
        ·
          refine okI (fun c11 => ?_) (fun c11 => ?_)
          ·
            try subst c11
            refine okI (fun c12 => ?_) (fun c12 => ?_)
            ·
              unfold f_X11_drawn_57
              exact okR h8
            ·
              refine okB (T_X2_winnerBy q h8) ?_
              intro r15 s13 h14
              unfold f_X11_drawn_57
              exact okR h14
          ·
            refine okI (fun c16 => ?_) (fun c16 => ?_)
            ·
              exact okR h8
            ·
              refine okB (T_X2_follow q h8) ?_
              intro r19 s17 h18
              refine okB (T_X2_frontBehind q h18) ?_
              intro r22 s20 h21
              exact okR h21
      ·
        unfold f_X11_drawn_17
        exact okR h2
theorem T_X0_bestSet {Z : St → Prop} {σ0 : St} {M T S E A U Y L P N : Nat} (q : ZB Z σ0 M T S E A U Y L P N) {p0 : Int32} {s : St} (h : Z s) : Ok (fun _ s' => Z s') (f_X0_bestSet p0 s) := by
  have qM := q.b.hM
  have qT := q.b.hT
  have qS := q.b.S512
  have qE := q.b.hE
  have qA := q.b.hA
  have qU := q.b.hU
  have qY := q.b.hY
  have qA2 := q.b.A256
  have qU2 := q.b.U256
  unfold f_X0_bestSet
  refine okB (T_X0_sortByMinute q h) ?_
  intro r3 s1 h2
  refine okC (fun (i : Nat) (x : Int32 × Int32 × Int32 × Int32 × St) => x.2.2.2.1 = nI i ∧ Z x.2.2.2.2) (2 ^ A) ?_ (i := 1) (by unfold FU; omega) (by omega) ⟨rfl, h2⟩
  rintro i4 ⟨v11, v12, v13, v14, s9⟩ K5 hi6 ⟨hv8, h10⟩ hK7
  dsimp only at hv8 h10
  subst hv8
  unfold g_X0_bestSet_11
  dsimp only
  refine okI (fun _ => ?_) (fun c15 => ?_)
  ·
    exact okR h10
  ·
    replace c15 : i4 < (2 ^ A) := cnt_le (q.at' h10).sA (by omega) c15 hi6
    refine okB (T_X0_worthOf q h10) ?_
    intro r18 s16 h17
    refine okI (fun c19 => ?_) (fun c19 => ?_)
    ·
      unfold f_X0_bestSet_58
      refine okN ?_
      exact hK7 _ c15 ⟨nI_1 _, h17⟩
    ·
      refine okB (T_X0_canStand q h17) ?_
      intro r22 s20 h21
      refine okI (fun c23 => ?_) (fun c23 => ?_)
      ·
        unfold f_X0_bestSet_58
        refine okN ?_
        exact hK7 _ c15 ⟨nI_1 _, h21⟩
      ·
        unfold f_X0_bestSet_58
        refine okN ?_
        exact hK7 _ c15 ⟨nI_1 _, h21⟩
theorem T_X2_reckon {Z : St → Prop} {σ0 : St} {M T S E A U Y L P N : Nat} (q : ZB Z σ0 M T S E A U Y L P N) (hm : MZ Z)  {s : St} (h : Z s) : Ok (fun _ s' => Z s') (f_X2_reckon s) := by
  have qM := q.b.hM
  have qT := q.b.hT
  have qS := q.b.S512
  have qE := q.b.hE
  have qA := q.b.hA
  have qU := q.b.hU
  have qY := q.b.hY
  have qA2 := q.b.A256
  have qU2 := q.b.U256
  unfold f_X2_reckon
  refine okI (fun c1 => ?_) (fun c1 => ?_)
  ·
    refine okB (T_J7_fill_53178 q h ⟨by decide, by decide⟩ (n := 512) rfl (by omega) (fun s f hs => hm.1 s _ f hs (by decide))) ?_
    intro r4 s2 h3
    refine okC (fun (i : Nat) (x : Int32 × Int32 × St) => x.2.1 = nI i ∧ Z x.2.2) M ?_ (i := 0) (by unfold FU; omega) (by omega) ⟨rfl, h3⟩
    rintro i5 ⟨v12, v13, s10⟩ K6 hi7 ⟨hv9, h11⟩ hK8
    dsimp only at hv9 h11
    subst hv9
    unfold g_X2_reckon_20
    dsimp only
    refine okI (fun _ => ?_) (fun c14 => ?_)
    ·
      refine okB (T_X2_moveEnds q hm h11) ?_
      intro r17 s15 h16
      refine okB (T_X2_findWinners q hm h16) ?_
      intro r20 s18 h19
      refine okD rfl ?_
      refine okZ (Z := Z) (hm.2 _ _ h19) (fun s21 h22 => ?_)
      exact okR h22
    ·
      replace c14 : i5 < M := cnt_le (q.at' h11).cM (by omega) c14 hi7
      refine okI (fun c23 => ?_) (fun c23 => ?_)
      ·
        unfold f_X2_reckon_43
        refine okB (T_X2_moveEnds q hm h11) ?_
        intro r26 s24 h25
        refine okB (T_X2_takeMen q h25) ?_
        intro r29 s27 h28
        unfold f_X2_reckon_57
        refine okB (T_X10_isTea q h28) ?_
        intro r32 s30 h31
        refine okI (fun c33 => ?_) (fun c33 => ?_)
        ·
          refine okN ?_
          unfold f_X2_reckon_71
          refine okN ?_
          exact hK8 _ c14 ⟨nI_1 _, h31⟩
        ·
          unfold f_X2_reckon_71
          refine okN ?_
          exact hK8 _ c14 ⟨nI_1 _, h31⟩
      ·
        refine okB (T_X2_isArrival q h11) ?_
        intro r36 s34 h35
        refine okI (fun c37 => ?_) (fun c37 => ?_)
        ·
          unfold f_X2_reckon_57
          refine okB (T_X10_isTea q h35) ?_
          intro r40 s38 h39
          refine okI (fun c41 => ?_) (fun c41 => ?_)
          ·
            refine okN ?_
            unfold f_X2_reckon_71
            refine okN ?_
            exact hK8 _ c14 ⟨nI_1 _, h39⟩
          ·
            unfold f_X2_reckon_71
            refine okN ?_
            exact hK8 _ c14 ⟨nI_1 _, h39⟩
        ·
          unfold f_X2_reckon_43
          refine okB (T_X2_moveEnds q hm h35) ?_
          intro r44 s42 h43
          refine okB (T_X2_takeMen q h43) ?_
          intro r47 s45 h46
          unfold f_X2_reckon_57
          refine okB (T_X10_isTea q h46) ?_
          intro r50 s48 h49
          refine okI (fun c51 => ?_) (fun c51 => ?_)
          ·
            refine okN ?_
            unfold f_X2_reckon_71
            refine okN ?_
            exact hK8 _ c14 ⟨nI_1 _, h49⟩
          ·
            unfold f_X2_reckon_71
            refine okN ?_
            exact hK8 _ c14 ⟨nI_1 _, h49⟩
  ·
    exact okR h
theorem T_X3_bribedSet {Z : St → Prop} {σ0 : St} {M T S E A U Y L P N : Nat} (q : ZB Z σ0 M T S E A U Y L P N) {p0 : Int32} {p1 : Int32} {s : St} (h : Z s) : Ok (fun _ s' => Z s') (f_X3_bribedSet p0 p1 s) := by
  have qM := q.b.hM
  have qT := q.b.hT
  have qS := q.b.S512
  have qE := q.b.hE
  have qA := q.b.hA
  have qU := q.b.hU
  have qY := q.b.hY
  have qA2 := q.b.A256
  have qU2 := q.b.U256
  unfold f_X3_bribedSet
  refine okB (T_X3_takePrices q h) ?_
  intro r3 s1 h2
  refine okB (T_X3_fitByDelays q h2) ?_
  intro r6 s4 h5
  refine okB (T_X10_trainsOf q h5) ?_
  intro r9 s7 h8
  refine okI (fun c10 => ?_) (fun c10 => ?_)
  ·
    try subst c10
    unfold f_X3_bribedSet_35
    refine okB (T_X3_cheapest q h8) ?_
    intro r13 s11 h12
    exact okR h12
  ·
    unfold f_X3_bribedSet_35
    refine okB (T_X3_cheapest q h8) ?_
    intro r16 s14 h15
    exact okR h15
theorem T_X3_guardedTrain {Z : St → Prop} {σ0 : St} {M T S E A U Y L P N : Nat} (q : ZB Z σ0 M T S E A U Y L P N) {p0 : Int32} {s : St} (h : Z s) : Ok (fun _ s' => Z s') (f_X3_guardedTrain p0 s) := by
  have qM := q.b.hM
  have qT := q.b.hT
  have qS := q.b.S512
  have qE := q.b.hE
  have qA := q.b.hA
  have qU := q.b.hU
  have qY := q.b.hY
  have qA2 := q.b.A256
  have qU2 := q.b.U256
  unfold f_X3_guardedTrain
  refine okB (T_X3_takePrices q h) ?_
  intro r3 s1 h2
  refine okB (T_X3_fitByDelays q h2) ?_
  intro r6 s4 h5
  refine okB (T_X10_trainsOf q h5) ?_
  intro r9 s7 h8
  refine okB (T_X3_cheapest q h8) ?_
  intro r12 s10 h11
  refine okB (T_X3_orPriceless q h11) ?_
  intro r15 s13 h14
  refine okC (fun (i : Nat) (x : Int32 × Int32 × Int32 × Int32 × St) => x.2.2.2.1 = nI i ∧ Z x.2.2.2.2) T ?_ (i := 0) (by unfold FU; omega) (by omega) ⟨rfl, h14⟩
  rintro i16 ⟨v23, v24, v25, v26, s21⟩ K17 hi18 ⟨hv20, h22⟩ hK19
  dsimp only at hv20 h22
  subst hv20
  unfold g_X3_guardedTrain_34
  dsimp only
  refine okI (fun _ => ?_) (fun c27 => ?_)
  ·
    exact okR h22
  ·
    replace c27 : i16 < T := cnt_le (q.at' h22).cT (by omega) c27 hi18
    refine okB (T_X10_isIn q h22) ?_
    intro r30 s28 h29
    refine okI (fun c31 => ?_) (fun c31 => ?_)
    ·
      unfold f_X3_guardedTrain_78
      refine okI (fun c32 => ?_) (fun c32 => ?_)
      ·
        unfold f_X3_guardedTrain_93
        refine okN ?_
        exact hK19 _ c27 ⟨nI_1 _, h29⟩
      ·
        unfold f_X3_guardedTrain_93
        refine okN ?_
        exact hK19 _ c27 ⟨nI_1 _, h29⟩
    ·
      refine okB (T_X3_cheapest q h29) ?_
      intro r35 s33 h34
      refine okB (T_X3_orPriceless q h34) ?_
      intro r38 s36 h37
      unfold f_X3_guardedTrain_78
      refine okI (fun c39 => ?_) (fun c39 => ?_)
      ·
        unfold f_X3_guardedTrain_93
        refine okN ?_
        exact hK19 _ c27 ⟨nI_1 _, h37⟩
      ·
        unfold f_X3_guardedTrain_93
        refine okN ?_
        exact hK19 _ c27 ⟨nI_1 _, h37⟩
theorem T_X3_spoiledSet {Z : St → Prop} {σ0 : St} {M T S E A U Y L P N : Nat} (q : ZB Z σ0 M T S E A U Y L P N) (hr : RKZ Z) {p0 : Int32} {p1 : Int32} {s : St} (h : Z s) : Ok (fun _ s' => Z s') (f_X3_spoiledSet p0 p1 s) := by
  have qM := q.b.hM
  have qT := q.b.hT
  have qS := q.b.S512
  have qE := q.b.hE
  have qA := q.b.hA
  have qU := q.b.hU
  have qY := q.b.hY
  have qA2 := q.b.A256
  have qU2 := q.b.U256
  unfold f_X3_spoiledSet
  refine okB (hr _ h) ?_
  intro r3 s1 h2
  refine okB (T_X3_takePrices q h2) ?_
  intro r6 s4 h5
  refine okB (T_X10_trainsOf q h5) ?_
  intro r9 s7 h8
  refine okC (fun (i : Nat) (x : Int32 × Int32 × Int32 × Int32 × Int32 × St) => x.2.2.2.2.1 = nI i ∧ Z x.2.2.2.2.2) S ?_ (i := 1) (by unfold FU; omega) (by omega) ⟨rfl, h8⟩
  rintro i10 ⟨v17, v18, v19, v20, v21, s15⟩ K11 hi12 ⟨hv14, h16⟩ hK13
  dsimp only at hv14 h16
  subst hv14
  unfold g_X3_spoiledSet_26
  dsimp only
  rw [S_X10_sets q h16, bd_mk]
  refine okI (fun _ => ?_) (fun c22 => ?_)
  ·
    exact okR h16
  ·
    replace c22 : i10 < S := cnt_le rfl (by omega) c22 hi12
    refine okI (fun c23 => ?_) (fun c23 => ?_)
    ·
      refine okD (inb_ln (n := 512) rfl (by omega) (by omega)) ?_
      refine okI (fun c24 => ?_) (fun c24 => ?_)
      ·
        unfold f_X3_spoiledSet_85
        refine okN ?_
        exact hK13 _ c22 ⟨nI_1 _, h16⟩
      ·
        refine okB (T_X2_goodAtEnd q h16) ?_
        intro r27 s25 h26
        refine okB (T_X2_goodAtEnd q h26) ?_
        intro r30 s28 h29
        refine okI (fun c31 => ?_) (fun c31 => ?_)
        ·
          unfold f_X3_spoiledSet_85
          refine okN ?_
          exact hK13 _ c22 ⟨nI_1 _, h29⟩
        ·
          unfold f_X3_spoiledSet_85
          refine okN ?_
          exact hK13 _ c22 ⟨nI_1 _, h29⟩
    ·
      unfold f_X3_spoiledSet_85
      refine okN ?_
      exact hK13 _ c22 ⟨nI_1 _, h16⟩
theorem T_X3_meetAnswers {Z : St → Prop} {σ0 : St} {M T S E A U Y L P N : Nat} (q : ZB Z σ0 M T S E A U Y L P N) {p0 : Int32} {p1 : Int32} {s : St} (h : Z s) : Ok (fun _ s' => Z s') (f_X3_meetAnswers p0 p1 s) := by
  have qM := q.b.hM
  have qT := q.b.hT
  have qS := q.b.S512
  have qE := q.b.hE
  have qA := q.b.hA
  have qU := q.b.hU
  have qY := q.b.hY
  have qA2 := q.b.A256
  have qU2 := q.b.U256
  unfold f_X3_meetAnswers
  refine okB (T_X3_takePrices q h) ?_
  intro r3 s1 h2
  refine okB (T_J7_fill_53178 q h2 ⟨by decide, by decide⟩ (n := 512) rfl (by omega) (fun s f hs => q.z.wr s _ f hs (by decide))) ?_
  intro r6 s4 h5
  refine okB (T_J7_fill_53178 q h5 ⟨by decide, by decide⟩ (n := 512) rfl (by omega) (fun s f hs => q.z.wr s _ f hs (by decide))) ?_
  intro r9 s7 h8
  refine okB (T_X10_trainsOf q h8) ?_
  intro r12 s10 h11
  refine okC (fun (i : Nat) (x : Int32 × Int32 × Int32 × Int32 × St) => x.2.2.2.1 = nI i ∧ Z x.2.2.2.2) S ?_ (i := 0) (by unfold FU; omega) (by omega) ⟨rfl, h11⟩
  rintro i13 ⟨v20, v21, v22, v23, s18⟩ K14 hi15 ⟨hv17, h19⟩ hK16
  dsimp only at hv17 h19
  subst hv17
  unfold g_X3_meetAnswers_34
  dsimp only
  rw [S_X10_sets q h19, bd_mk]
  refine okI (fun _ => ?_) (fun c24 => ?_)
  ·
    exact okR h19
  ·
    replace c24 : i13 < S := cnt_le rfl (by omega) c24 hi15
    refine okB (T_X3_isBought q h19) ?_
    intro r27 s25 h26
    refine okI (fun c28 => ?_) (fun c28 => ?_)
    ·
      unfold f_X3_meetAnswers_119
      refine okN ?_
      exact hK16 _ c24 ⟨nI_1 _, h26⟩
    ·
      refine okB (T_X2_goodAtEnd q h26) ?_
      intro r31 s29 h30
      refine okD (inb_andc rfl (by omega)) ?_
      refine okD (inb_andc rfl (by omega)) ?_
      refine okZ (Z := Z) (q.z.wr _ _ _ h30 (by decide)) (fun s32 h33 => ?_)
      refine okD (inb_andc rfl (by omega)) ?_
      refine okD (inb_andc rfl (by omega)) ?_
      refine okZ (Z := Z) (q.z.wr _ _ _ h33 (by decide)) (fun s34 h35 => ?_)
      unfold f_X3_meetAnswers_119
      refine okN ?_
      exact hK16 _ c24 ⟨nI_1 _, h35⟩
theorem T_X3_takeParts {Z : St → Prop} {σ0 : St} {M T S E A U Y L P N : Nat} (q : ZB Z σ0 M T S E A U Y L P N) {p0 : Int32} {s : St} (h : Z s) : Ok (fun _ s' => Z s') (f_X3_takeParts p0 s) := by
  have qM := q.b.hM
  have qT := q.b.hT
  have qS := q.b.S512
  have qE := q.b.hE
  have qA := q.b.hA
  have qU := q.b.hU
  have qY := q.b.hY
  have qA2 := q.b.A256
  have qU2 := q.b.U256
  unfold f_X3_takeParts
  refine okD rfl ?_
  refine okZ (Z := Z) (q.z.wr _ _ _ h (by decide)) (fun s1 h2 => ?_)
  refine okC (fun (i : Nat) (x : Int32 × Int32 × St) => x.2.1 = nI i ∧ Z x.2.2) T ?_ (i := 0) (by unfold FU; omega) (by omega) ⟨rfl, h2⟩
  rintro i3 ⟨v10, v11, s8⟩ K4 hi5 ⟨hv7, h9⟩ hK6
  dsimp only at hv7 h9
  subst hv7
  unfold g_X3_takeParts_9
  dsimp only
  refine okI (fun _ => ?_) (fun c12 => ?_)
  ·
    refine okC (fun (i : Nat) (x : Int32 × Int32 × St) => x.2.1 = nI i ∧ Z x.2.2) S ?_ (i := 0) (by unfold FU; omega) (by omega) ⟨rfl, h9⟩
    rintro i13 ⟨v20, v21, s18⟩ K14 hi15 ⟨hv17, h19⟩ hK16
    dsimp only at hv17 h19
    subst hv17
    unfold g_X3_takeParts_100
    dsimp only
    rw [S_X10_sets q h19, bd_mk]
    refine okI (fun _ => ?_) (fun c22 => ?_)
    ·
      refine okC (fun (i : Nat) (x : Int32 × St) => x.1 = nI i ∧ Z x.2) T ?_ (i := 0) (by unfold FU; omega) (by omega) ⟨rfl, h19⟩
      rintro i23 ⟨v30, s28⟩ K24 hi25 ⟨hv27, h29⟩ hK26
      dsimp only at hv27 h29
      subst hv27
      unfold g_X3_takeParts_147
      dsimp only
      refine okI (fun _ => ?_) (fun c31 => ?_)
      ·
        exact okR h29
      ·
        replace c31 : i23 < T := cnt_le (q.at' h29).cT (by omega) c31 hi25
        refine okB (T_X3_mayBeLate q h29 (by omega)) ?_
        intro r34 s32 h33
        refine okN ?_
        exact hK26 _ c31 ⟨nI_1 _, h33⟩
    ·
      replace c22 : i13 < S := cnt_le rfl (by omega) c22 hi15
      refine okD (inb_ln (n := 512) rfl (by omega) (by omega)) ?_
      refine okB (T_X10_needOf q h19) ?_
      intro r37 s35 h36
      refine okI (fun c38 => ?_) (fun c38 => ?_)
      ·
        unfold f_X3_takeParts_138
        refine okD (by first | exact inb_ln (n := 512) rfl (by omega) (by omega) | rfl) ?_
        refine okZ (Z := Z) (q.z.wj _ _ _ h36 (by decide)) (fun s39 h40 => ?_)
        refine okN ?_
        exact hK16 _ c22 ⟨nI_1 _, h40⟩
      ·
        unfold f_X3_takeParts_138
        refine okD (by first | exact inb_ln (n := 512) rfl (by omega) (by omega) | rfl) ?_
        refine okZ (Z := Z) (q.z.wj _ _ _ h36 (by decide)) (fun s41 h42 => ?_)
        refine okN ?_
        exact hK16 _ c22 ⟨nI_1 _, h42⟩
  ·
    replace c12 : i3 < T := cnt_le (q.at' h9).cT (by omega) c12 hi5
    refine okB (T_X9_cell3 q h9) ?_
    intro r45 s43 h44
    refine okI (fun c46 => ?_) (fun c46 => ?_)
    ·
      refine okB (T_X10_arrival q h44) ?_
      intro r49 s47 h48
      refine okI (fun c50 => ?_) (fun c50 => ?_)
      ·
        unfold f_X3_takeParts_62
        unfold f_X3_takeParts_63
        refine okI (fun c51 => ?_) (fun c51 => ?_)
        ·
          unfold f_X3_takeParts_89
          refine okB (T_X10_spread q h48 (by omega) ⟨by decide, by decide⟩ rfl (fun s f hs => q.z.wr s _ f hs (by decide))) ?_
          intro r54 s52 h53
          refine okN ?_
          exact hK6 _ c12 ⟨nI_1 _, h53⟩
        ·
          refine okB (T_X9_cell3 q h48) ?_
          intro r57 s55 h56
          unfold f_X3_takeParts_89
          refine okB (T_X10_spread q h56 (by omega) ⟨by decide, by decide⟩ rfl (fun s f hs => q.z.wr s _ f hs (by decide))) ?_
          intro r60 s58 h59
          refine okN ?_
          exact hK6 _ c12 ⟨nI_1 _, h59⟩
      ·
        unfold f_X3_takeParts_63
        refine okI (fun c61 => ?_) (fun c61 => ?_)
        ·
          unfold f_X3_takeParts_89
          refine okB (T_X10_spread q h48 (by omega) ⟨by decide, by decide⟩ rfl (fun s f hs => q.z.wr s _ f hs (by decide))) ?_
          intro r64 s62 h63
          refine okN ?_
          exact hK6 _ c12 ⟨nI_1 _, h63⟩
        ·
          refine okB (T_X9_cell3 q h48) ?_
          intro r67 s65 h66
          unfold f_X3_takeParts_89
          refine okB (T_X10_spread q h66 (by omega) ⟨by decide, by decide⟩ rfl (fun s f hs => q.z.wr s _ f hs (by decide))) ?_
          intro r70 s68 h69
          refine okN ?_
          exact hK6 _ c12 ⟨nI_1 _, h69⟩
    ·
      unfold f_X3_takeParts_62
      unfold f_X3_takeParts_63
      refine okI (fun c71 => ?_) (fun c71 => ?_)
      ·
        unfold f_X3_takeParts_89
        refine okB (T_X10_spread q h44 (by omega) ⟨by decide, by decide⟩ rfl (fun s f hs => q.z.wr s _ f hs (by decide))) ?_
        intro r74 s72 h73
        refine okN ?_
        exact hK6 _ c12 ⟨nI_1 _, h73⟩
      ·
        refine okB (T_X9_cell3 q h44) ?_
        intro r77 s75 h76
        unfold f_X3_takeParts_89
        refine okB (T_X10_spread q h76 (by omega) ⟨by decide, by decide⟩ rfl (fun s f hs => q.z.wr s _ f hs (by decide))) ?_
        intro r80 s78 h79
        refine okN ?_
        exact hK6 _ c12 ⟨nI_1 _, h79⟩
theorem T_X4_countReadings {Z : St → Prop} {σ0 : St} {M T S E A U Y L P N : Nat} (q : ZB Z σ0 M T S E A U Y L P N) {p0 : Int32} {s : St} (h : Z s) : Ok (fun _ s' => Z s') (f_X4_countReadings p0 s) := by
  have qM := q.b.hM
  have qT := q.b.hT
  have qS := q.b.S512
  have qE := q.b.hE
  have qA := q.b.hA
  have qU := q.b.hU
  have qY := q.b.hY
  have qA2 := q.b.A256
  have qU2 := q.b.U256
  unfold f_X4_countReadings
  refine okC (fun (i : Nat) (x : Int32 × Int32 × Int32 × St) => x.2.2.1 = nI i ∧ Z x.2.2.2) (2 ^ (2 * U)) ?_ (i := 0) (by unfold FU; omega) (by omega) ⟨rfl, h⟩
  rintro i1 ⟨v8, v9, v10, s6⟩ K2 hi3 ⟨hv5, h7⟩ hK4
  dsimp only at hv5 h7
  subst hv5
  unfold g_X4_countReadings_4
  dsimp only
  rw [S_X4_allReadings q h7, bd_mk]
  refine okI (fun _ => ?_) (fun c11 => ?_)
  ·
    exact okR h7
  ·
    replace c11 : i1 < (2 ^ (2 * U)) := cnt_le rfl (by omega) c11 hi3
    refine okB (T_X4_isHeld q h7) ?_
    intro r14 s12 h13
    refine okI (fun c15 => ?_) (fun c15 => ?_)
    ·
      unfold f_X4_countReadings_24
      refine okN ?_
      exact hK4 _ c11 ⟨nI_1 _, h13⟩
    ·
      refine okN ?_
      unfold f_X4_countReadings_24
      refine okN ?_
      exact hK4 _ c11 ⟨nI_1 _, h13⟩
theorem T_X4_loopholeMinutes {Z : St → Prop} {σ0 : St} {M T S E A U Y L P N : Nat} (q : ZB Z σ0 M T S E A U Y L P N)  {s : St} (h : Z s) : Ok (fun _ s' => Z s') (f_X4_loopholeMinutes s) := by
  have qM := q.b.hM
  have qT := q.b.hT
  have qS := q.b.S512
  have qE := q.b.hE
  have qA := q.b.hA
  have qU := q.b.hU
  have qY := q.b.hY
  have qA2 := q.b.A256
  have qU2 := q.b.U256
  unfold f_X4_loopholeMinutes
  refine okC (fun (i : Nat) (x : Int64 × Int32 × St) => x.2.1 = nI i ∧ Z x.2.2) (59 + 1) ?_ (i := 0) (by unfold FU; omega) (by omega) ⟨rfl, h⟩
  rintro i1 ⟨v8, v9, s6⟩ K2 hi3 ⟨hv5, h7⟩ hK4
  dsimp only at hv5 h7
  subst hv5
  unfold g_X4_loopholeMinutes_4
  dsimp only
  refine okI (fun _ => ?_) (fun c10 => ?_)
  ·
    exact okR h7
  ·
    replace c10 : i1 < 59 + 1 := cnt_lt rfl (by omega) c10 hi3
    refine okB (T_X4_isHeld q h7) ?_
    intro r13 s11 h12
    refine okI (fun c14 => ?_) (fun c14 => ?_)
    ·
      unfold f_X4_loopholeMinutes_39
      refine okN ?_
      exact hK4 _ c10 ⟨nI_1 _, h12⟩
    ·
      rw [S_X4_allReadings q h12, bd_mk]
      refine okB (T_X4_isHeld q h12) ?_
      intro r17 s15 h16
      refine okI (fun c18 => ?_) (fun c18 => ?_)
      ·
        refine okN ?_
        unfold f_X4_loopholeMinutes_39
        refine okN ?_
        exact hK4 _ c10 ⟨nI_1 _, h16⟩
      ·
        unfold f_X4_loopholeMinutes_39
        refine okN ?_
        exact hK4 _ c10 ⟨nI_1 _, h16⟩
theorem T_X4_firstSafeMinute {Z : St → Prop} {σ0 : St} {M T S E A U Y L P N : Nat} (q : ZB Z σ0 M T S E A U Y L P N)  {s : St} (h : Z s) : Ok (fun _ s' => Z s') (f_X4_firstSafeMinute s) := by
  have qM := q.b.hM
  have qT := q.b.hT
  have qS := q.b.S512
  have qE := q.b.hE
  have qA := q.b.hA
  have qU := q.b.hU
  have qY := q.b.hY
  have qA2 := q.b.A256
  have qU2 := q.b.U256
  unfold f_X4_firstSafeMinute
  refine okC (fun (i : Nat) (x : Int32 × St) => x.1 = nI i ∧ Z x.2) (59 + 1) ?_ (i := 0) (by unfold FU; omega) (by omega) ⟨rfl, h⟩
  rintro i1 ⟨v8, s6⟩ K2 hi3 ⟨hv5, h7⟩ hK4
  dsimp only at hv5 h7
  subst hv5
  unfold g_X4_firstSafeMinute_2
  dsimp only
  refine okI (fun _ => ?_) (fun c9 => ?_)
  ·
    exact okR h7
  ·
    replace c9 : i1 < 59 + 1 := cnt_lt rfl (by omega) c9 hi3
    rw [S_X4_allReadings q h7, bd_mk]
    refine okB (T_X4_isHeld q h7) ?_
    intro r12 s10 h11
    refine okI (fun c13 => ?_) (fun c13 => ?_)
    ·
      refine okN ?_
      exact hK4 _ c9 ⟨nI_1 _, h11⟩
    ·
      exact okR h11
theorem T_X4_closingBounds {Z : St → Prop} {σ0 : St} {M T S E A U Y L P N : Nat} (q : ZB Z σ0 M T S E A U Y L P N) {p0 : Int32} {s : St} (h : Z s) : Ok (fun _ s' => Z s') (f_X4_closingBounds p0 s) := by
  have qM := q.b.hM
  have qT := q.b.hT
  have qS := q.b.S512
  have qE := q.b.hE
  have qA := q.b.hA
  have qU := q.b.hU
  have qY := q.b.hY
  have qA2 := q.b.A256
  have qU2 := q.b.U256
  unfold f_X4_closingBounds
  refine okN ?_
  refine okC (fun (i : Nat) (x : Int32 × Int32 × Int32 × Int32 × St) => x.2.2.2.1 = nI i ∧ Z x.2.2.2.2) (2 ^ (2 * U)) ?_ (i := 0) (by unfold FU; omega) (by omega) ⟨rfl, h⟩
  rintro i1 ⟨v8, v9, v10, v11, s6⟩ K2 hi3 ⟨hv5, h7⟩ hK4
  dsimp only at hv5 h7
  subst hv5
  unfold g_X4_closingBounds_20
  dsimp only
  rw [S_X4_allReadings q h7, bd_mk]
  refine okI (fun _ => ?_) (fun c12 => ?_)
  ·
    exact okR h7
  ·
    replace c12 : i1 < (2 ^ (2 * U)) := cnt_le rfl (by omega) c12 hi3
    refine okB (T_J6_bitCount_0f7a4 q h7) ?_
    intro r15 s13 h14
    refine okI (fun c16 => ?_) (fun c16 => ?_)
    ·
      unfold f_X4_closingBounds_57
      refine okN ?_
      exact hK4 _ c12 ⟨nI_1 _, h14⟩
    ·
      refine okB (T_X4_isHeld q h14) ?_
      intro r19 s17 h18
      refine okI (fun c20 => ?_) (fun c20 => ?_)
      ·
        refine okB (T_J6_bitCount_0f7a4 q h18) ?_
        intro r23 s21 h22
        unfold f_X4_closingBounds_57
        refine okN ?_
        exact hK4 _ c12 ⟨nI_1 _, h22⟩
      ·
        unfold f_X4_closingBounds_57
        refine okN ?_
        exact hK4 _ c12 ⟨nI_1 _, h18⟩
theorem T_X8_fitting {Z : St → Prop} {σ0 : St} {M T S E A U Y L P N : Nat} (q : ZB Z σ0 M T S E A U Y L P N) {p0 : Int32} {s : St} (h : Z s) : Ok (fun _ s' => Z s') (f_X8_fitting p0 s) := by
  have qM := q.b.hM
  have qT := q.b.hT
  have qS := q.b.S512
  have qE := q.b.hE
  have qA := q.b.hA
  have qU := q.b.hU
  have qY := q.b.hY
  have qA2 := q.b.A256
  have qU2 := q.b.U256
  unfold f_X8_fitting
  refine okC (fun (i : Nat) (x : Int32 × Int32 × Int32 × St) => x.2.2.1 = nI i ∧ Z x.2.2.2) Y ?_ (i := 0) (by unfold FU; omega) (by omega) ⟨rfl, h⟩
  rintro i1 ⟨v8, v9, v10, s6⟩ K2 hi3 ⟨hv5, h7⟩ hK4
  dsimp only at hv5 h7
  subst hv5
  unfold g_X8_fitting_4
  dsimp only
  refine okI (fun _ => ?_) (fun c11 => ?_)
  ·
    exact okR h7
  ·
    replace c11 : i1 < Y := cnt_le (q.at' h7).cY (by omega) c11 hi3
    refine okB (T_X8_knownTo q h7) ?_
    intro r14 s12 h13
    refine okI (fun c15 => ?_) (fun c15 => ?_)
    ·
      refine okN ?_
      unfold f_X8_fitting_36
      refine okN ?_
      exact hK4 _ c11 ⟨nI_1 _, h13⟩
    ·
      unfold f_X8_fitting_36
      refine okN ?_
      exact hK4 _ c11 ⟨nI_1 _, h13⟩
theorem T_X8_leftAtWorst {Z : St → Prop} {σ0 : St} {M T S E A U Y L P N : Nat} (q : ZB Z σ0 M T S E A U Y L P N) {p0 : Int32} {p1 : Int32} {s : St} (h : Z s) : Ok (fun _ s' => Z s') (f_X8_leftAtWorst p0 p1 s) := by
  have qM := q.b.hM
  have qT := q.b.hT
  have qS := q.b.S512
  have qE := q.b.hE
  have qA := q.b.hA
  have qU := q.b.hU
  have qY := q.b.hY
  have qA2 := q.b.A256
  have qU2 := q.b.U256
  unfold f_X8_leftAtWorst
  refine okB (T_X8_fitting q h) ?_
  intro r3 s1 h2
  refine okB (T_J6_bitCount_0f7a4 q h2) ?_
  intro r6 s4 h5
  refine okI (fun c7 => ?_) (fun c7 => ?_)
  ·
    try subst c7
    exact okR h5
  ·
    refine okB (T_X8_fitting q h5) ?_
    intro r10 s8 h9
    refine okB (T_J6_bitCount_0f7a4 q h9) ?_
    intro r13 s11 h12
    exact okR h12
theorem T_X8_knownToAll {Z : St → Prop} {σ0 : St} {M T S E A U Y L P N : Nat} (q : ZB Z σ0 M T S E A U Y L P N) {p0 : Int32} {s : St} (h : Z s) : Ok (fun _ s' => Z s') (f_X8_knownToAll p0 s) := by
  have qM := q.b.hM
  have qT := q.b.hT
  have qS := q.b.S512
  have qE := q.b.hE
  have qA := q.b.hA
  have qU := q.b.hU
  have qY := q.b.hY
  have qA2 := q.b.A256
  have qU2 := q.b.U256
  unfold f_X8_knownToAll
  refine okB (T_X8_fitting q h) ?_
  intro r3 s1 h2
  refine okI (fun c4 => ?_) (fun c4 => ?_)
  ·
    unfold f_X8_knownToAll_23
    refine okC (fun (i : Nat) (x : Int32 × Int32 × Int32 × St) => x.2.2.1 = nI i ∧ Z x.2.2.2) Y ?_ (i := 0) (by unfold FU; omega) (by omega) ⟨rfl, h2⟩
    rintro i5 ⟨v12, v13, v14, s10⟩ K6 hi7 ⟨hv9, h11⟩ hK8
    dsimp only at hv9 h11
    subst hv9
    unfold g_X8_knownToAll_27
    dsimp only
    refine okI (fun _ => ?_) (fun c15 => ?_)
    ·
      exact okR h11
    ·
      replace c15 : i5 < Y := cnt_le (q.at' h11).cY (by omega) c15 hi7
      refine okB (T_X10_isIn q h11) ?_
      intro r18 s16 h17
      refine okI (fun c19 => ?_) (fun c19 => ?_)
      ·
        unfold f_X8_knownToAll_60
        refine okN ?_
        exact hK8 _ c15 ⟨nI_1 _, h17⟩
      ·
        refine okB (T_X8_knownTo q h17) ?_
        intro r22 s20 h21
        refine okN ?_
        unfold f_X8_knownToAll_60
        refine okN ?_
        exact hK8 _ c15 ⟨nI_1 _, h21⟩
  ·
    rw [S_X10_sets q h2, bd_mk]
    unfold f_X8_knownToAll_23
    refine okC (fun (i : Nat) (x : Int32 × Int32 × Int32 × St) => x.2.2.1 = nI i ∧ Z x.2.2.2) Y ?_ (i := 0) (by unfold FU; omega) (by omega) ⟨rfl, h2⟩
    rintro i23 ⟨v30, v31, v32, s28⟩ K24 hi25 ⟨hv27, h29⟩ hK26
    dsimp only at hv27 h29
    subst hv27
    unfold g_X8_knownToAll_27
    dsimp only
    refine okI (fun _ => ?_) (fun c33 => ?_)
    ·
      exact okR h29
    ·
      replace c33 : i23 < Y := cnt_le (q.at' h29).cY (by omega) c33 hi25
      refine okB (T_X10_isIn q h29) ?_
      intro r36 s34 h35
      refine okI (fun c37 => ?_) (fun c37 => ?_)
      ·
        unfold f_X8_knownToAll_60
        refine okN ?_
        exact hK26 _ c33 ⟨nI_1 _, h35⟩
      ·
        refine okB (T_X8_knownTo q h35) ?_
        intro r40 s38 h39
        refine okN ?_
        unfold f_X8_knownToAll_60
        refine okN ?_
        exact hK26 _ c33 ⟨nI_1 _, h39⟩
theorem T_X8_knownToSome {Z : St → Prop} {σ0 : St} {M T S E A U Y L P N : Nat} (q : ZB Z σ0 M T S E A U Y L P N) {p0 : Int32} {s : St} (h : Z s) : Ok (fun _ s' => Z s') (f_X8_knownToSome p0 s) := by
  have qM := q.b.hM
  have qT := q.b.hT
  have qS := q.b.S512
  have qE := q.b.hE
  have qA := q.b.hA
  have qU := q.b.hU
  have qY := q.b.hY
  have qA2 := q.b.A256
  have qU2 := q.b.U256
  unfold f_X8_knownToSome
  refine okB (T_X8_fitting q h) ?_
  intro r3 s1 h2
  refine okC (fun (i : Nat) (x : Int32 × Int32 × Int32 × St) => x.2.2.1 = nI i ∧ Z x.2.2.2) Y ?_ (i := 0) (by unfold FU; omega) (by omega) ⟨rfl, h2⟩
  rintro i4 ⟨v11, v12, v13, s9⟩ K5 hi6 ⟨hv8, h10⟩ hK7
  dsimp only at hv8 h10
  subst hv8
  unfold g_X8_knownToSome_11
  dsimp only
  refine okI (fun _ => ?_) (fun c14 => ?_)
  ·
    exact okR h10
  ·
    replace c14 : i4 < Y := cnt_le (q.at' h10).cY (by omega) c14 hi6
    refine okB (T_X10_isIn q h10) ?_
    intro r17 s15 h16
    refine okI (fun c18 => ?_) (fun c18 => ?_)
    ·
      unfold f_X8_knownToSome_44
      refine okN ?_
      exact hK7 _ c14 ⟨nI_1 _, h16⟩
    ·
      refine okB (T_X8_knownTo q h16) ?_
      intro r21 s19 h20
      refine okN ?_
      unfold f_X8_knownToSome_44
      refine okN ?_
      exact hK7 _ c14 ⟨nI_1 _, h20⟩
theorem T_X11_bribe {Z : St → Prop} {σ0 : St} {M T S E A U Y L P N : Nat} (q : ZB Z σ0 M T S E A U Y L P N) {p0 : Int32} {s : St} (h : Z s) : Ok (fun _ s' => Z s') (f_X11_bribe p0 s) := by
  have qM := q.b.hM
  have qT := q.b.hT
  have qS := q.b.S512
  have qE := q.b.hE
  have qA := q.b.hA
  have qU := q.b.hU
  have qY := q.b.hY
  have qA2 := q.b.A256
  have qU2 := q.b.U256
  unfold f_X11_bribe
  refine okB (T_X10_hasSide q h) ?_
  intro r3 s1 h2
  refine okI (fun c4 => ?_) (fun c4 => ?_)
  ·
    unfold f_X11_bribe_32
    exact okR h2
  ·
    refine okB (T_X3_bribedSet q h2) ?_
    intro r7 s5 h6
    refine okB (T_X10_priceOf q h6) ?_
    intro r10 s8 h9
    unfold f_X11_bribe_32
    exact okR h9
theorem T_X11_bribed {Z : St → Prop} {σ0 : St} {M T S E A U Y L P N : Nat} (q : ZB Z σ0 M T S E A U Y L P N) {p0 : Int32} {s : St} (h : Z s) : Ok (fun _ s' => Z s') (f_X11_bribed p0 s) := by
  have qM := q.b.hM
  have qT := q.b.hT
  have qS := q.b.S512
  have qE := q.b.hE
  have qA := q.b.hA
  have qU := q.b.hU
  have qY := q.b.hY
  have qA2 := q.b.A256
  have qU2 := q.b.U256
  unfold f_X11_bribed
  refine okB (T_X10_hasSide q h) ?_
  intro r3 s1 h2
  refine okI (fun c4 => ?_) (fun c4 => ?_)
  ·
    unfold f_X11_bribed_25
    exact okR h2
  ·
    refine okB (T_X3_bribedSet q h2) ?_
    intro r7 s5 h6
    unfold f_X11_bribed_25
    exact okR h6
theorem T_X11_guard {Z : St → Prop} {σ0 : St} {M T S E A U Y L P N : Nat} (q : ZB Z σ0 M T S E A U Y L P N) {p0 : Int32} {s : St} (h : Z s) : Ok (fun _ s' => Z s') (f_X11_guard p0 s) := by
  have qM := q.b.hM
  have qT := q.b.hT
  have qS := q.b.S512
  have qE := q.b.hE
  have qA := q.b.hA
  have qU := q.b.hU
  have qY := q.b.hY
  have qA2 := q.b.A256
  have qU2 := q.b.U256
  unfold f_X11_guard
  refine okB (T_X10_hasSide q h) ?_
  intro r3 s1 h2
  refine okI (fun c4 => ?_) (fun c4 => ?_)
  ·
    unfold f_X11_guard_24
    exact okR h2
  ·
    refine okB (T_X3_guardedTrain q h2) ?_
    intro r7 s5 h6
    unfold f_X11_guard_24
    exact okR h6
theorem T_X11_guarded {Z : St → Prop} {σ0 : St} {M T S E A U Y L P N : Nat} (q : ZB Z σ0 M T S E A U Y L P N) {p0 : Int32} {s : St} (h : Z s) : Ok (fun _ s' => Z s') (f_X11_guarded p0 s) := by
  have qM := q.b.hM
  have qT := q.b.hT
  have qS := q.b.S512
  have qE := q.b.hE
  have qA := q.b.hA
  have qU := q.b.hU
  have qY := q.b.hY
  have qA2 := q.b.A256
  have qU2 := q.b.U256
  unfold f_X11_guarded
  refine okB (T_X10_hasSide q h) ?_
  intro r3 s1 h2
  refine okI (fun c4 => ?_) (fun c4 => ?_)
  ·
    unfold f_X11_guarded_23
    refine okI (fun c5 => ?_) (fun c5 => ?_)
    ·
      unfold f_X11_guarded_50
      exact okR h2
    ·
      refine okB (T_X3_bribedSet q h2) ?_
      intro r8 s6 h7
      refine okB (T_X10_priceOf q h7) ?_
      intro r11 s9 h10
      unfold f_X11_guarded_50
      exact okR h10
  ·
    refine okB (T_X3_guardedTrain q h2) ?_
    intro r14 s12 h13
    unfold f_X11_guarded_23
    refine okI (fun c15 => ?_) (fun c15 => ?_)
    ·
      unfold f_X11_guarded_50
      exact okR h13
    ·
      refine okB (T_X3_bribedSet q h13) ?_
      intro r18 s16 h17
      refine okB (T_X10_priceOf q h17) ?_
      intro r21 s19 h20
      unfold f_X11_guarded_50
      exact okR h20
theorem T_X11_spoil {Z : St → Prop} {σ0 : St} {M T S E A U Y L P N : Nat} (q : ZB Z σ0 M T S E A U Y L P N) (hr : RKZ Z) {p0 : Int32} {p1 : Int32} {s : St} (h : Z s) : Ok (fun _ s' => Z s') (f_X11_spoil p0 p1 s) := by
  have qM := q.b.hM
  have qT := q.b.hT
  have qS := q.b.S512
  have qE := q.b.hE
  have qA := q.b.hA
  have qU := q.b.hU
  have qY := q.b.hY
  have qA2 := q.b.A256
  have qU2 := q.b.U256
  unfold f_X11_spoil
  refine okB (T_X11_isPurse q h) ?_
  intro r3 s1 h2
  refine okI (fun c4 => ?_) (fun c4 => ?_)
  ·
    unfold f_X11_spoil_32
    exact okR h2
  ·
    refine okB (T_X3_spoiledSet q hr h2) ?_
    intro r7 s5 h6
    refine okB (T_X2_goodAtEnd q h6) ?_
    intro r10 s8 h9
    unfold f_X11_spoil_32
    exact okR h9
theorem T_X11_spoils {Z : St → Prop} {σ0 : St} {M T S E A U Y L P N : Nat} (q : ZB Z σ0 M T S E A U Y L P N) (hr : RKZ Z) {p0 : Int32} {p1 : Int32} {s : St} (h : Z s) : Ok (fun _ s' => Z s') (f_X11_spoils p0 p1 s) := by
  have qM := q.b.hM
  have qT := q.b.hT
  have qS := q.b.S512
  have qE := q.b.hE
  have qA := q.b.hA
  have qU := q.b.hU
  have qY := q.b.hY
  have qA2 := q.b.A256
  have qU2 := q.b.U256
  unfold f_X11_spoils
  refine okB (T_X11_isPurse q h) ?_
  intro r3 s1 h2
  refine okI (fun c4 => ?_) (fun c4 => ?_)
  ·
    unfold f_X11_spoils_23
    exact okR h2
  ·
    refine okB (T_X3_spoiledSet q hr h2) ?_
    intro r7 s5 h6
    unfold f_X11_spoils_23
    exact okR h6
theorem T_X11_readings {Z : St → Prop} {σ0 : St} {M T S E A U Y L P N : Nat} (q : ZB Z σ0 M T S E A U Y L P N) {p0 : Int32} {s : St} (h : Z s) : Ok (fun _ s' => Z s') (f_X11_readings p0 s) := by
  have qM := q.b.hM
  have qT := q.b.hT
  have qS := q.b.S512
  have qE := q.b.hE
  have qA := q.b.hA
  have qU := q.b.hU
  have qY := q.b.hY
  have qA2 := q.b.A256
  have qU2 := q.b.U256
  unfold f_X11_readings
  refine okB (T_X11_isPeaceMinute q h) ?_
  intro r3 s1 h2
  refine okI (fun c4 => ?_) (fun c4 => ?_)
  ·
    unfold f_X11_readings_21
    exact okR h2
  ·
    refine okB (T_X4_countReadings q h2) ?_
    intro r7 s5 h6
    unfold f_X11_readings_21
    exact okR h6
theorem T_X11_loopholes {Z : St → Prop} {σ0 : St} {M T S E A U Y L P N : Nat} (q : ZB Z σ0 M T S E A U Y L P N)  {s : St} (h : Z s) : Ok (fun _ s' => Z s') (f_X11_loopholes s) := by
  have qM := q.b.hM
  have qT := q.b.hT
  have qS := q.b.S512
  have qE := q.b.hE
  have qA := q.b.hA
  have qU := q.b.hU
  have qY := q.b.hY
  have qA2 := q.b.A256
  have qU2 := q.b.U256
  unfold f_X11_loopholes
  refine okB (T_X10_isTold q h) ?_
  intro r3 s1 h2
  refine okI (fun c4 => ?_) (fun c4 => ?_)
  ·
    unfold f_X11_loopholes_23
    exact okR h2
  ·
    refine okB (T_X4_loopholeMinutes q h2) ?_
    intro r7 s5 h6
    unfold f_X11_loopholes_23
    exact okR h6
theorem T_X11_close {Z : St → Prop} {σ0 : St} {M T S E A U Y L P N : Nat} (q : ZB Z σ0 M T S E A U Y L P N) {p0 : Int32} {s : St} (h : Z s) : Ok (fun _ s' => Z s') (f_X11_close p0 s) := by
  have qM := q.b.hM
  have qT := q.b.hT
  have qS := q.b.S512
  have qE := q.b.hE
  have qA := q.b.hA
  have qU := q.b.hU
  have qY := q.b.hY
  have qA2 := q.b.A256
  have qU2 := q.b.U256
  unfold f_X11_close
  refine okB (T_X11_isPeaceMinute q h) ?_
  intro r3 s1 h2
  refine okI (fun c4 => ?_) (fun c4 => ?_)
  ·
    exact okR h2
  ·
    refine okB (T_X4_closingBounds q h2) ?_
    intro r7 s5 h6
    refine okI (fun c8 => ?_) (fun c8 => ?_)
    ·
      unfold f_X11_close_33
      exact okR h6
    ·
      refine okB (T_J6_bitCount_0f7a4 q h6) ?_
      intro r11 s9 h10
      unfold f_X11_close_33
      exact okR h10
theorem T_X11_closed {Z : St → Prop} {σ0 : St} {M T S E A U Y L P N : Nat} (q : ZB Z σ0 M T S E A U Y L P N) {p0 : Int32} {s : St} (h : Z s) : Ok (fun _ s' => Z s') (f_X11_closed p0 s) := by
  have qM := q.b.hM
  have qT := q.b.hT
  have qS := q.b.S512
  have qE := q.b.hE
  have qA := q.b.hA
  have qU := q.b.hU
  have qY := q.b.hY
  have qA2 := q.b.A256
  have qU2 := q.b.U256
  unfold f_X11_closed
  refine okB (T_X11_isPeaceMinute q h) ?_
  intro r3 s1 h2
  refine okI (fun c4 => ?_) (fun c4 => ?_)
  ·
    unfold f_X11_closed_21
    exact okR h2
  ·
    refine okB (T_X4_closingBounds q h2) ?_
    intro r7 s5 h6
    unfold f_X11_closed_21
    exact okR h6
theorem T_X11_signs {Z : St → Prop} {σ0 : St} {M T S E A U Y L P N : Nat} (q : ZB Z σ0 M T S E A U Y L P N)  {s : St} (h : Z s) : Ok (fun _ s' => Z s') (f_X11_signs s) := by
  have qM := q.b.hM
  have qT := q.b.hT
  have qS := q.b.S512
  have qE := q.b.hE
  have qA := q.b.hA
  have qU := q.b.hU
  have qY := q.b.hY
  have qA2 := q.b.A256
  have qU2 := q.b.U256
  unfold f_X11_signs
  refine okB (T_X10_isTold q h) ?_
  intro r3 s1 h2
  refine okI (fun c4 => ?_) (fun c4 => ?_)
  ·
    unfold f_X11_signs_22
    exact okR h2
  ·
    refine okB (T_X4_firstSafeMinute q h2) ?_
    intro r7 s5 h6
    unfold f_X11_signs_22
    exact okR h6
theorem T_X11_spies {Z : St → Prop} {σ0 : St} {M T S E A U Y L P N : Nat} (q : ZB Z σ0 M T S E A U Y L P N) {p0 : Int32} {s : St} (h : Z s) : Ok (fun _ s' => Z s') (f_X11_spies p0 s) := by
  have qM := q.b.hM
  have qT := q.b.hT
  have qS := q.b.S512
  have qE := q.b.hE
  have qA := q.b.hA
  have qU := q.b.hU
  have qY := q.b.hY
  have qA2 := q.b.A256
  have qU2 := q.b.U256
  unfold f_X11_spies
  refine okB (T_X10_hasSet q h) ?_
  intro r3 s1 h2
  refine okI (fun c4 => ?_) (fun c4 => ?_)
  ·
    unfold f_X11_spies_24
    exact okR h2
  ·
    refine okB (T_X8_fitting q h2) ?_
    intro r7 s5 h6
    unfold f_X11_spies_24
    exact okR h6
theorem T_X11_known {Z : St → Prop} {σ0 : St} {M T S E A U Y L P N : Nat} (q : ZB Z σ0 M T S E A U Y L P N) {p0 : Int32} {p1 : Int32} {s : St} (h : Z s) : Ok (fun _ s' => Z s') (f_X11_known p0 p1 s) := by
  have qM := q.b.hM
  have qT := q.b.hT
  have qS := q.b.S512
  have qE := q.b.hE
  have qA := q.b.hA
  have qU := q.b.hU
  have qY := q.b.hY
  have qA2 := q.b.A256
  have qU2 := q.b.U256
  unfold f_X11_known
  refine okB (T_X10_hasSet q h) ?_
  intro r3 s1 h2
  refine okI (fun c4 => ?_) (fun c4 => ?_)
  ·
    unfold f_X11_known_18
    exact okR h2
  ·
    refine okB (T_X11_isPart q h2) ?_
    intro r7 s5 h6
    refine okI (fun c8 => ?_) (fun c8 => ?_)
    ·
      unfold f_X11_known_18
      exact okR h6
    ·
      refine okI (fun c9 => ?_) (fun c9 => ?_)
      ·
        try subst c9
        refine okB (T_X8_knownToAll q h6) ?_
        intro r12 s10 h11
        unfold f_X11_known_44
        exact okR h11
      ·
        refine okB (T_X8_knownToSome q h6) ?_
        intro r15 s13 h14
        unfold f_X11_known_44
        exact okR h14
theorem T_X11_grant {Z : St → Prop} {σ0 : St} {M T S E A U Y L P N : Nat} (q : ZB Z σ0 M T S E A U Y L P N)  {s : St} (h : Z s) : Ok (fun _ s' => Z s') (f_X11_grant s) := by
  have qM := q.b.hM
  have qT := q.b.hT
  have qS := q.b.S512
  have qE := q.b.hE
  have qA := q.b.hA
  have qU := q.b.hU
  have qY := q.b.hY
  have qA2 := q.b.A256
  have qU2 := q.b.U256
  unfold f_X11_grant
  refine okB (T_X10_isTold q h) ?_
  intro r3 s1 h2
  refine okI (fun c4 => ?_) (fun c4 => ?_)
  ·
    unfold f_X11_grant_30
    exact okR h2
  ·
    refine okB (T_X0_bestSet q h2) ?_
    intro r7 s5 h6
    refine okB (T_X0_worthOf q h6) ?_
    intro r10 s8 h9
    unfold f_X11_grant_30
    exact okR h9
theorem T_X11_granted {Z : St → Prop} {σ0 : St} {M T S E A U Y L P N : Nat} (q : ZB Z σ0 M T S E A U Y L P N)  {s : St} (h : Z s) : Ok (fun _ s' => Z s') (f_X11_granted s) := by
  have qM := q.b.hM
  have qT := q.b.hT
  have qS := q.b.S512
  have qE := q.b.hE
  have qA := q.b.hA
  have qU := q.b.hU
  have qY := q.b.hY
  have qA2 := q.b.A256
  have qU2 := q.b.U256
  unfold f_X11_granted
  refine okB (T_X10_isTold q h) ?_
  intro r3 s1 h2
  refine okI (fun c4 => ?_) (fun c4 => ?_)
  ·
    unfold f_X11_granted_23
    exact okR h2
  ·
    refine okB (T_X0_bestSet q h2) ?_
    intro r7 s5 h6
    unfold f_X11_granted_23
    exact okR h6
theorem T_X11_halves {Z : St → Prop} {σ0 : St} {M T S E A U Y L P N : Nat} (q : ZB Z σ0 M T S E A U Y L P N)  {s : St} (h : Z s) : Ok (fun _ s' => Z s') (f_X11_halves s) := by
  have qM := q.b.hM
  have qT := q.b.hT
  have qS := q.b.S512
  have qE := q.b.hE
  have qA := q.b.hA
  have qU := q.b.hU
  have qY := q.b.hY
  have qA2 := q.b.A256
  have qU2 := q.b.U256
  unfold f_X11_halves
  refine okB (T_X10_isTold q h) ?_
  intro r3 s1 h2
  refine okI (fun c4 => ?_) (fun c4 => ?_)
  ·
    unfold f_X11_halves_30
    exact okR h2
  ·
    refine okB (T_X0_bestSet q h2) ?_
    intro r7 s5 h6
    refine okB (T_X0_worthOf q h6) ?_
    intro r10 s8 h9
    unfold f_X11_halves_30
    exact okR h9
theorem T_X11_halved {Z : St → Prop} {σ0 : St} {M T S E A U Y L P N : Nat} (q : ZB Z σ0 M T S E A U Y L P N)  {s : St} (h : Z s) : Ok (fun _ s' => Z s') (f_X11_halved s) := by
  have qM := q.b.hM
  have qT := q.b.hT
  have qS := q.b.S512
  have qE := q.b.hE
  have qA := q.b.hA
  have qU := q.b.hU
  have qY := q.b.hY
  have qA2 := q.b.A256
  have qU2 := q.b.U256
  unfold f_X11_halved
  refine okB (T_X10_isTold q h) ?_
  intro r3 s1 h2
  refine okI (fun c4 => ?_) (fun c4 => ?_)
  ·
    unfold f_X11_halved_23
    exact okR h2
  ·
    refine okB (T_X0_bestSet q h2) ?_
    intro r7 s5 h6
    unfold f_X11_halved_23
    exact okR h6
theorem T_X2_worstSet {Z : St → Prop} {σ0 : St} {M T S E A U Y L P N : Nat} (q : ZB Z σ0 M T S E A U Y L P N) (hr : RKZ Z) {p0 : Int32} {s : St} (h : Z s) : Ok (fun _ s' => Z s') (f_X2_worstSet p0 s) := by
  have qM := q.b.hM
  have qT := q.b.hT
  have qS := q.b.S512
  have qE := q.b.hE
  have qA := q.b.hA
  have qU := q.b.hU
  have qY := q.b.hY
  have qA2 := q.b.A256
  have qU2 := q.b.U256
  unfold f_X2_worstSet
  refine okB (hr _ h) ?_
  intro r3 s1 h2
  refine okC (fun (i : Nat) (x : Int32 × Int32 × Int32 × St) => x.2.2.1 = nI i ∧ Z x.2.2.2) S ?_ (i := 1) (by unfold FU; omega) (by omega) ⟨rfl, h2⟩
  rintro i4 ⟨v11, v12, v13, s9⟩ K5 hi6 ⟨hv8, h10⟩ hK7
  dsimp only at hv8 h10
  subst hv8
  unfold g_X2_worstSet_8
  dsimp only
  rw [S_X10_sets q h10, bd_mk]
  refine okI (fun _ => ?_) (fun c14 => ?_)
  ·
    exact okR h10
  ·
    replace c14 : i4 < S := cnt_le rfl (by omega) c14 hi6
    refine okB (T_X2_goodAtEnd q h10) ?_
    intro r17 s15 h16
    refine okB (T_X2_goodAtEnd q h16) ?_
    intro r20 s18 h19
    refine okN ?_
    refine okI (fun c21 => ?_) (fun c21 => ?_)
    ·
      unfold f_X2_worstSet_55
      unfold f_X2_worstSet_57
      refine okN ?_
      exact hK7 _ c14 ⟨nI_1 _, h19⟩
    ·
      refine okI (fun c22 => ?_) (fun c22 => ?_)
      ·
        refine okB (T_J6_bitCount_0f7a4 q h19) ?_
        intro r25 s23 h24
        refine okB (T_J6_bitCount_0f7a4 q h24) ?_
        intro r28 s26 h27
        refine okI (fun c29 => ?_) (fun c29 => ?_)
        ·
          unfold f_X2_worstSet_57
          refine okN ?_
          exact hK7 _ c14 ⟨nI_1 _, h27⟩
        ·
          unfold f_X2_worstSet_55
          unfold f_X2_worstSet_57
          refine okN ?_
          exact hK7 _ c14 ⟨nI_1 _, h27⟩
      ·
        unfold f_X2_worstSet_57
        refine okN ?_
        exact hK7 _ c14 ⟨nI_1 _, h19⟩
theorem T_X2_countWays {Z : St → Prop} {σ0 : St} {M T S E A U Y L P N : Nat} (q : ZB Z σ0 M T S E A U Y L P N) (hr : RKZ Z) {p0 : Int32} {s : St} (h : Z s) : Ok (fun _ s' => Z s') (f_X2_countWays p0 s) := by
  have qM := q.b.hM
  have qT := q.b.hT
  have qS := q.b.S512
  have qE := q.b.hE
  have qA := q.b.hA
  have qU := q.b.hU
  have qY := q.b.hY
  have qA2 := q.b.A256
  have qU2 := q.b.U256
  unfold f_X2_countWays
  refine okB (hr _ h) ?_
  intro r3 s1 h2
  refine okC (fun (i : Nat) (x : Int32 × Int32 × Int32 × St) => x.2.2.1 = nI i ∧ Z x.2.2.2) S ?_ (i := 0) (by unfold FU; omega) (by omega) ⟨rfl, h2⟩
  rintro i4 ⟨v11, v12, v13, s9⟩ K5 hi6 ⟨hv8, h10⟩ hK7
  dsimp only at hv8 h10
  subst hv8
  unfold g_X2_countWays_8
  dsimp only
  rw [S_X10_sets q h10, bd_mk]
  refine okI (fun _ => ?_) (fun c14 => ?_)
  ·
    exact okR h10
  ·
    replace c14 : i4 < S := cnt_le rfl (by omega) c14 hi6
    refine okB (T_X2_reckonedWinner q h10) ?_
    intro r17 s15 h16
    refine okI (fun c18 => ?_) (fun c18 => ?_)
    ·
      refine okN ?_
      unfold f_X2_countWays_31
      refine okN ?_
      exact hK7 _ c14 ⟨nI_1 _, h16⟩
    ·
      unfold f_X2_countWays_31
      refine okN ?_
      exact hK7 _ c14 ⟨nI_1 _, h16⟩
theorem T_X2_idleTrains {Z : St → Prop} {σ0 : St} {M T S E A U Y L P N : Nat} (q : ZB Z σ0 M T S E A U Y L P N) (hr : RKZ Z)  {s : St} (h : Z s) : Ok (fun _ s' => Z s') (f_X2_idleTrains s) := by
  have qM := q.b.hM
  have qT := q.b.hT
  have qS := q.b.S512
  have qE := q.b.hE
  have qA := q.b.hA
  have qU := q.b.hU
  have qY := q.b.hY
  have qA2 := q.b.A256
  have qU2 := q.b.U256
  unfold f_X2_idleTrains
  refine okB (hr _ h) ?_
  intro r3 s1 h2
  refine okC (fun (i : Nat) (x : Int32 × Int32 × St) => x.2.1 = nI i ∧ Z x.2.2) T ?_ (i := 0) (by unfold FU; omega) (by omega) ⟨rfl, h2⟩
  rintro i4 ⟨v11, v12, s9⟩ K5 hi6 ⟨hv8, h10⟩ hK7
  dsimp only at hv8 h10
  subst hv8
  unfold g_X2_idleTrains_8
  dsimp only
  refine okI (fun _ => ?_) (fun c13 => ?_)
  ·
    exact okR h10
  ·
    replace c13 : i4 < T := cnt_le (q.at' h10).cT (by omega) c13 hi6
    refine okB (T_X2_isIdle q h10) ?_
    intro r16 s14 h15
    refine okI (fun c17 => ?_) (fun c17 => ?_)
    ·
      unfold f_X2_idleTrains_38
      refine okN ?_
      exact hK7 _ c13 ⟨nI_1 _, h15⟩
    ·
      refine okN ?_
      unfold f_X2_idleTrains_38
      refine okN ?_
      exact hK7 _ c13 ⟨nI_1 _, h15⟩
theorem T_X2_winningParts {Z : St → Prop} {σ0 : St} {M T S E A U Y L P N : Nat} (q : ZB Z σ0 M T S E A U Y L P N) (hr : RKZ Z) {p0 : Int32} {s : St} (h : Z s) : Ok (fun _ s' => Z s') (f_X2_winningParts p0 s) := by
  have qM := q.b.hM
  have qT := q.b.hT
  have qS := q.b.S512
  have qE := q.b.hE
  have qA := q.b.hA
  have qU := q.b.hU
  have qY := q.b.hY
  have qA2 := q.b.A256
  have qU2 := q.b.U256
  unfold f_X2_winningParts
  refine okB (hr _ h) ?_
  intro r3 s1 h2
  refine okC (fun (i : Nat) (x : Int32 × Int64 × Int32 × St) => x.2.2.1 = nI i ∧ Z x.2.2.2) S ?_ (i := 0) (by unfold FU; omega) (by omega) ⟨rfl, h2⟩
  rintro i4 ⟨v11, v12, v13, s9⟩ K5 hi6 ⟨hv8, h10⟩ hK7
  dsimp only at hv8 h10
  subst hv8
  unfold g_X2_winningParts_9
  dsimp only
  rw [S_X10_sets q h10, bd_mk]
  refine okI (fun _ => ?_) (fun c14 => ?_)
  ·
    exact okR h10
  ·
    replace c14 : i4 < S := cnt_le rfl (by omega) c14 hi6
    refine okB (T_X2_reckonedWinner q h10) ?_
    intro r17 s15 h16
    refine okI (fun c18 => ?_) (fun c18 => ?_)
    ·
      refine okB (T_X1_delayParts q h16) ?_
      intro r21 s19 h20
      refine okN ?_
      unfold f_X2_winningParts_43
      refine okN ?_
      exact hK7 _ c14 ⟨nI_1 _, h20⟩
    ·
      unfold f_X2_winningParts_43
      refine okN ?_
      exact hK7 _ c14 ⟨nI_1 _, h16⟩
theorem T_X3_enoughParts {Z : St → Prop} {σ0 : St} {M T S E A U Y L P N : Nat} (q : ZB Z σ0 M T S E A U Y L P N) {p0 : Int32} {s : St} (h : Z s) : Ok (fun _ s' => Z s') (f_X3_enoughParts p0 s) := by
  have qM := q.b.hM
  have qT := q.b.hT
  have qS := q.b.S512
  have qE := q.b.hE
  have qA := q.b.hA
  have qU := q.b.hU
  have qY := q.b.hY
  have qA2 := q.b.A256
  have qU2 := q.b.U256
  unfold f_X3_enoughParts
  refine okB (T_X3_takeParts q h) ?_
  intro r3 s1 h2
  refine okB (T_X10_trainsOfR q h2) ?_
  rintro _ s4 ⟨h5, ⟨k9, hk9, rfl⟩⟩
  refine okI (fun c7 => ?_) (fun c7 => ?_)
  ·
    unfold f_X3_enoughParts_31
    exact okR h5
  ·
    refine okD (by first | exact inb_ln (n := 512) rfl (by omega) (by omega) | rfl) ?_
    unfold f_X3_enoughParts_31
    exact okR h5
theorem T_X3_answeredGood {Z : St → Prop} {σ0 : St} {M T S E A U Y L P N : Nat} (q : ZB Z σ0 M T S E A U Y L P N) (hr : RKZ Z) {p0 : Int32} {p1 : Int32} {s : St} (h : Z s) : Ok (fun _ s' => Z s') (f_X3_answeredGood p0 p1 s) := by
  have qM := q.b.hM
  have qT := q.b.hT
  have qS := q.b.S512
  have qE := q.b.hE
  have qA := q.b.hA
  have qU := q.b.hU
  have qY := q.b.hY
  have qA2 := q.b.A256
  have qU2 := q.b.U256
  unfold f_X3_answeredGood
  refine okB (hr _ h) ?_
  intro r3 s1 h2
  refine okB (T_X3_meetAnswers q h2) ?_
  intro r6 s4 h5
  refine okB (T_X10_trainsOf q h5) ?_
  intro r9 s7 h8
  refine okC (fun (i : Nat) (x : Int32 × Int32 × Int32 × Int32 × St) => x.2.2.2.1 = nI i ∧ Z x.2.2.2.2) S ?_ (i := 0) (by unfold FU; omega) (by omega) ⟨rfl, h8⟩
  rintro i10 ⟨v17, v18, v19, v20, s15⟩ K11 hi12 ⟨hv14, h16⟩ hK13
  dsimp only at hv14 h16
  subst hv14
  unfold g_X3_answeredGood_29
  dsimp only
  rw [S_X10_sets q h16, bd_mk]
  refine okI (fun _ => ?_) (fun c21 => ?_)
  ·
    exact okR h16
  ·
    replace c21 : i10 < S := cnt_le rfl (by omega) c21 hi12
    refine okI (fun c22 => ?_) (fun c22 => ?_)
    ·
      refine okD (inb_ln (n := 512) rfl (by omega) (by omega)) ?_
      refine okI (fun c23 => ?_) (fun c23 => ?_)
      ·
        unfold f_X3_answeredGood_75
        refine okN ?_
        exact hK13 _ c21 ⟨nI_1 _, h16⟩
      ·
        refine okD (inb_ln (n := 512) rfl (by omega) (by omega)) ?_
        refine okN ?_
        unfold f_X3_answeredGood_75
        refine okN ?_
        exact hK13 _ c21 ⟨nI_1 _, h16⟩
    ·
      unfold f_X3_answeredGood_75
      refine okN ?_
      exact hK13 _ c21 ⟨nI_1 _, h16⟩
theorem T_X3_countRests {Z : St → Prop} {σ0 : St} {M T S E A U Y L P N : Nat} (q : ZB Z σ0 M T S E A U Y L P N) (hr : RKZ Z) {p0 : Int32} {s : St} (h : Z s) : Ok (fun _ s' => Z s') (f_X3_countRests p0 s) := by
  have qM := q.b.hM
  have qT := q.b.hT
  have qS := q.b.S512
  have qE := q.b.hE
  have qA := q.b.hA
  have qU := q.b.hU
  have qY := q.b.hY
  have qA2 := q.b.A256
  have qU2 := q.b.U256
  unfold f_X3_countRests
  refine okB (hr _ h) ?_
  intro r3 s1 h2
  refine okB (T_X3_meetAnswers q h2) ?_
  intro r6 s4 h5
  refine okB (T_X10_trainsOf q h5) ?_
  intro r9 s7 h8
  refine okC (fun (i : Nat) (x : Int32 × Int32 × Int32 × Int32 × St) => x.2.2.2.1 = nI i ∧ Z x.2.2.2.2) S ?_ (i := 0) (by unfold FU; omega) (by omega) ⟨rfl, h8⟩
  rintro i10 ⟨v17, v18, v19, v20, s15⟩ K11 hi12 ⟨hv14, h16⟩ hK13
  dsimp only at hv14 h16
  subst hv14
  unfold g_X3_countRests_27
  dsimp only
  rw [S_X10_sets q h16, bd_mk]
  refine okI (fun _ => ?_) (fun c21 => ?_)
  ·
    exact okR h16
  ·
    replace c21 : i10 < S := cnt_le rfl (by omega) c21 hi12
    refine okB (T_X2_goodAtEnd q h16) ?_
    intro r24 s22 h23
    refine okB (T_X3_isBought q h23) ?_
    intro r27 s25 h26
    refine okI (fun c28 => ?_) (fun c28 => ?_)
    ·
      unfold f_X3_countRests_95
      refine okN ?_
      exact hK13 _ c21 ⟨nI_1 _, h26⟩
    ·
      refine okD (inb_andc rfl (by omega)) ?_
      refine okI (fun c29 => ?_) (fun c29 => ?_)
      ·
        refine okD (inb_andc rfl (by omega)) ?_
        refine okI (fun c30 => ?_) (fun c30 => ?_)
        ·
          refine okN ?_
          unfold f_X3_countRests_95
          refine okN ?_
          exact hK13 _ c21 ⟨nI_1 _, h26⟩
        ·
          unfold f_X3_countRests_95
          refine okN ?_
          exact hK13 _ c21 ⟨nI_1 _, h26⟩
      ·
        unfold f_X3_countRests_95
        refine okN ?_
        exact hK13 _ c21 ⟨nI_1 _, h26⟩
theorem T_X3_fitByChance {Z : St → Prop} {σ0 : St} {M T S E A U Y L P N : Nat} (q : ZB Z σ0 M T S E A U Y L P N) {p0 : Int32} {p1 : Int32} {s : St} (h : Z s) : Ok (fun _ s' => Z s') (f_X3_fitByChance p0 p1 s) := by
  have qM := q.b.hM
  have qT := q.b.hT
  have qS := q.b.S512
  have qE := q.b.hE
  have qA := q.b.hA
  have qU := q.b.hU
  have qY := q.b.hY
  have qA2 := q.b.A256
  have qU2 := q.b.U256
  unfold f_X3_fitByChance
  refine okB (T_X3_takeParts q h) ?_
  intro r3 s1 h2
  refine okD rfl ?_
  refine okI (fun c4 => ?_) (fun c4 => ?_)
  ·
    unfold f_X3_fitByChance_31
    refine okD (by first | exact inb_ln (n := 512) rfl (by omega) (by omega) | rfl) ?_
    refine okZ (Z := Z) (q.z.wr _ _ _ h2 (by decide)) (fun s5 h6 => ?_)
    refine okC (fun (i : Nat) (x : Int32 × Int32 × St) => x.2.1 = nI i ∧ Z x.2.2) S ?_ (i := 1) (by unfold FU; omega) (by omega) ⟨rfl, h6⟩
    rintro i7 ⟨v14, v15, s12⟩ K8 hi9 ⟨hv11, h13⟩ hK10
    dsimp only at hv11 h13
    subst hv11
    unfold g_X3_fitByChance_34
    dsimp only
    rw [S_X10_sets q h13, bd_mk]
    refine okI (fun _ => ?_) (fun c16 => ?_)
    ·
      exact okR h13
    ·
      replace c16 : i7 < S := cnt_le rfl (by omega) c16 hi9
      refine okD (inb_ln (n := 512) rfl (by omega) (by omega)) ?_
      refine okB (T_J6_bitCountR q h13) ?_
      rintro r19 s17 ⟨h18, ⟨hb0, hb1⟩⟩
      refine okB (T_X1_hundreds q h18 (sub1_1000 hb0 hb1)) ?_
      intro r22 s20 h21
      refine okI (fun c23 => ?_) (fun c23 => ?_)
      ·
        unfold f_X3_fitByChance_77
        refine okD (by first | exact inb_ln (n := 512) rfl (by omega) (by omega) | rfl) ?_
        refine okZ (Z := Z) (q.z.wr _ _ _ h21 (by decide)) (fun s24 h25 => ?_)
        refine okN ?_
        exact hK10 _ c16 ⟨nI_1 _, h25⟩
      ·
        unfold f_X3_fitByChance_77
        refine okD (by first | exact inb_ln (n := 512) rfl (by omega) (by omega) | rfl) ?_
        refine okZ (Z := Z) (q.z.wr _ _ _ h21 (by decide)) (fun s26 h27 => ?_)
        refine okN ?_
        exact hK10 _ c16 ⟨nI_1 _, h27⟩
  ·
    unfold f_X3_fitByChance_31
    refine okD (by first | exact inb_ln (n := 512) rfl (by omega) (by omega) | rfl) ?_
    refine okZ (Z := Z) (q.z.wr _ _ _ h2 (by decide)) (fun s28 h29 => ?_)
    refine okC (fun (i : Nat) (x : Int32 × Int32 × St) => x.2.1 = nI i ∧ Z x.2.2) S ?_ (i := 1) (by unfold FU; omega) (by omega) ⟨rfl, h29⟩
    rintro i30 ⟨v37, v38, s35⟩ K31 hi32 ⟨hv34, h36⟩ hK33
    dsimp only at hv34 h36
    subst hv34
    unfold g_X3_fitByChance_34
    dsimp only
    rw [S_X10_sets q h36, bd_mk]
    refine okI (fun _ => ?_) (fun c39 => ?_)
    ·
      exact okR h36
    ·
      replace c39 : i30 < S := cnt_le rfl (by omega) c39 hi32
      refine okD (inb_ln (n := 512) rfl (by omega) (by omega)) ?_
      refine okB (T_J6_bitCountR q h36) ?_
      rintro r42 s40 ⟨h41, ⟨hb0, hb1⟩⟩
      refine okB (T_X1_hundreds q h41 (sub1_1000 hb0 hb1)) ?_
      intro r45 s43 h44
      refine okI (fun c46 => ?_) (fun c46 => ?_)
      ·
        unfold f_X3_fitByChance_77
        refine okD (by first | exact inb_ln (n := 512) rfl (by omega) (by omega) | rfl) ?_
        refine okZ (Z := Z) (q.z.wr _ _ _ h44 (by decide)) (fun s47 h48 => ?_)
        refine okN ?_
        exact hK33 _ c39 ⟨nI_1 _, h48⟩
      ·
        unfold f_X3_fitByChance_77
        refine okD (by first | exact inb_ln (n := 512) rfl (by omega) (by omega) | rfl) ?_
        refine okZ (Z := Z) (q.z.wr _ _ _ h44 (by decide)) (fun s49 h50 => ?_)
        refine okN ?_
        exact hK33 _ c39 ⟨nI_1 _, h50⟩
theorem T_X8_trainToWatch {Z : St → Prop} {σ0 : St} {M T S E A U Y L P N : Nat} (q : ZB Z σ0 M T S E A U Y L P N) {p0 : Int32} {s : St} (h : Z s) : Ok (fun _ s' => Z s') (f_X8_trainToWatch p0 s) := by
  have qM := q.b.hM
  have qT := q.b.hT
  have qS := q.b.S512
  have qE := q.b.hE
  have qA := q.b.hA
  have qU := q.b.hU
  have qY := q.b.hY
  have qA2 := q.b.A256
  have qU2 := q.b.U256
  unfold f_X8_trainToWatch
  refine okB (T_X8_fitting q h) ?_
  intro r3 s1 h2
  refine okB (T_J6_bitCount_0f7a4 q h2) ?_
  intro r6 s4 h5
  refine okC (fun (i : Nat) (x : Int32 × Int32 × Int32 × Int32 × St) => x.2.2.2.1 = nI i ∧ Z x.2.2.2.2) T ?_ (i := 0) (by unfold FU; omega) (by omega) ⟨rfl, h5⟩
  rintro i7 ⟨v14, v15, v16, v17, s12⟩ K8 hi9 ⟨hv11, h13⟩ hK10
  dsimp only at hv11 h13
  subst hv11
  unfold g_X8_trainToWatch_14
  dsimp only
  refine okI (fun _ => ?_) (fun c18 => ?_)
  ·
    exact okR h13
  ·
    replace c18 : i7 < T := cnt_le (q.at' h13).cT (by omega) c18 hi9
    refine okB (T_X8_leftAtWorst q h13) ?_
    intro r21 s19 h20
    refine okB (T_X10_isIn q h20) ?_
    intro r24 s22 h23
    refine okI (fun c25 => ?_) (fun c25 => ?_)
    ·
      refine okI (fun c26 => ?_) (fun c26 => ?_)
      ·
        unfold f_X8_trainToWatch_59
        refine okN ?_
        exact hK10 _ c18 ⟨nI_1 _, h23⟩
      ·
        unfold f_X8_trainToWatch_59
        refine okN ?_
        exact hK10 _ c18 ⟨nI_1 _, h23⟩
    ·
      unfold f_X8_trainToWatch_59
      refine okN ?_
      exact hK10 _ c18 ⟨nI_1 _, h23⟩
theorem T_X11_worst {Z : St → Prop} {σ0 : St} {M T S E A U Y L P N : Nat} (q : ZB Z σ0 M T S E A U Y L P N) (hr : RKZ Z) {p0 : Int32} {s : St} (h : Z s) : Ok (fun _ s' => Z s') (f_X11_worst p0 s) := by
  have qM := q.b.hM
  have qT := q.b.hT
  have qS := q.b.S512
  have qE := q.b.hE
  have qA := q.b.hA
  have qU := q.b.hU
  have qY := q.b.hY
  have qA2 := q.b.A256
  have qU2 := q.b.U256
  unfold f_X11_worst
  refine okB (T_X10_hasSide q h) ?_
  intro r3 s1 h2
  refine okI (fun c4 => ?_) (fun c4 => ?_)
  ·
    unfold f_X11_worst_33
    exact okR h2
  ·
    refine okB (T_X2_worstSet q hr h2) ?_
    intro r7 s5 h6
    refine okB (T_X2_goodAtEnd q h6) ?_
    intro r10 s8 h9
    unfold f_X11_worst_33
    exact okR h9
theorem T_X11_by {Z : St → Prop} {σ0 : St} {M T S E A U Y L P N : Nat} (q : ZB Z σ0 M T S E A U Y L P N) (hr : RKZ Z) {p0 : Int32} {s : St} (h : Z s) : Ok (fun _ s' => Z s') (f_X11_by p0 s) := by
  have qM := q.b.hM
  have qT := q.b.hT
  have qS := q.b.S512
  have qE := q.b.hE
  have qA := q.b.hA
  have qU := q.b.hU
  have qY := q.b.hY
  have qA2 := q.b.A256
  have qU2 := q.b.U256
  unfold f_X11_by
  refine okB (T_X10_hasSide q h) ?_
  intro r3 s1 h2
  refine okI (fun c4 => ?_) (fun c4 => ?_)
  ·
    unfold f_X11_by_24
    exact okR h2
  ·
    refine okB (T_X2_worstSet q hr h2) ?_
    intro r7 s5 h6
    unfold f_X11_by_24
    exact okR h6
theorem T_X11_ways {Z : St → Prop} {σ0 : St} {M T S E A U Y L P N : Nat} (q : ZB Z σ0 M T S E A U Y L P N) (hr : RKZ Z) {p0 : Int32} {s : St} (h : Z s) : Ok (fun _ s' => Z s') (f_X11_ways p0 s) := by
  have qM := q.b.hM
  have qT := q.b.hT
  have qS := q.b.S512
  have qE := q.b.hE
  have qA := q.b.hA
  have qU := q.b.hU
  have qY := q.b.hY
  have qA2 := q.b.A256
  have qU2 := q.b.U256
  unfold f_X11_ways
  refine okB (T_X10_hasSide q h) ?_
  intro r3 s1 h2
  refine okI (fun c4 => ?_) (fun c4 => ?_)
  ·
    unfold f_X11_ways_24
    exact okR h2
  ·
    refine okB (T_X2_countWays q hr h2) ?_
    intro r7 s5 h6
    unfold f_X11_ways_24
    exact okR h6
theorem T_X11_idle {Z : St → Prop} {σ0 : St} {M T S E A U Y L P N : Nat} (q : ZB Z σ0 M T S E A U Y L P N) (hr : RKZ Z)  {s : St} (h : Z s) : Ok (fun _ s' => Z s') (f_X11_idle s) := by
  have qM := q.b.hM
  have qT := q.b.hT
  have qS := q.b.S512
  have qE := q.b.hE
  have qA := q.b.hA
  have qU := q.b.hU
  have qY := q.b.hY
  have qA2 := q.b.A256
  have qU2 := q.b.U256
  unfold f_X11_idle
  refine okB (T_X10_isTold q h) ?_
  intro r3 s1 h2
  refine okI (fun c4 => ?_) (fun c4 => ?_)
  ·
    unfold f_X11_idle_22
    exact okR h2
  ·
    refine okB (T_X2_idleTrains q hr h2) ?_
    intro r7 s5 h6
    unfold f_X11_idle_22
    exact okR h6
theorem T_X11_enough {Z : St → Prop} {σ0 : St} {M T S E A U Y L P N : Nat} (q : ZB Z σ0 M T S E A U Y L P N) {p0 : Int32} {p1 : Int32} {s : St} (h : Z s) : Ok (fun _ s' => Z s') (f_X11_enough p0 p1 s) := by
  have qM := q.b.hM
  have qT := q.b.hT
  have qS := q.b.S512
  have qE := q.b.hE
  have qA := q.b.hA
  have qU := q.b.hU
  have qY := q.b.hY
  have qA2 := q.b.A256
  have qU2 := q.b.U256
  unfold f_X11_enough
  refine okB (T_X10_hasSide q h) ?_
  intro r3 s1 h2
  refine okI (fun c4 => ?_) (fun c4 => ?_)
  ·
    unfold f_X11_enough_18
    exact okR h2
  ·
    refine okB (T_X11_isPart q h2) ?_
    intro r7 s5 h6
    refine okI (fun c8 => ?_) (fun c8 => ?_)
    ·
      unfold f_X11_enough_18
      exact okR h6
    ·
      refine okB (T_X3_enoughParts q h6) ?_
      intro r11 s9 h10
      refine okB (T_X10_trainsOf q h10) ?_
      intro r14 s12 h13
      refine okB (T_J6_bitCountR q h13) ?_
      rintro r17 s15 ⟨h16, ⟨hb0, hb1⟩⟩
      refine okB (T_X1_hundreds q h16 (by omega)) ?_
      intro r20 s18 h19
      refine okB (T_X1_lowest q h19) ?_
      intro r23 s21 h22
      exact okR h22
theorem T_X11_chance {Z : St → Prop} {σ0 : St} {M T S E A U Y L P N : Nat} (q : ZB Z σ0 M T S E A U Y L P N) (hr : RKZ Z) {p0 : Int32} {p1 : Int32} {s : St} (h : Z s) : Ok (fun _ s' => Z s') (f_X11_chance p0 p1 s) := by
  have qM := q.b.hM
  have qT := q.b.hT
  have qS := q.b.S512
  have qE := q.b.hE
  have qA := q.b.hA
  have qU := q.b.hU
  have qY := q.b.hY
  have qA2 := q.b.A256
  have qU2 := q.b.U256
  unfold f_X11_chance
  refine okB (T_X10_hasSide q h) ?_
  intro r3 s1 h2
  refine okI (fun c4 => ?_) (fun c4 => ?_)
  ·
    unfold f_X11_chance_18
    exact okR h2
  ·
    refine okB (T_X11_isPart q h2) ?_
    intro r7 s5 h6
    refine okI (fun c8 => ?_) (fun c8 => ?_)
    ·
      unfold f_X11_chance_18
      exact okR h6
    ·
      refine okB (T_X2_winningParts q hr h6) ?_
      intro r11 s9 h10
      refine okB (T_X1_hundreds q h10 (by rw [(q.at' h10).cT, nI_toInt (by omega)]; omega)) ?_
      intro r14 s12 h13
      refine okB (T_X1_lowest q h13) ?_
      intro r17 s15 h16
      exact okR h16
theorem T_X11_answer {Z : St → Prop} {σ0 : St} {M T S E A U Y L P N : Nat} (q : ZB Z σ0 M T S E A U Y L P N) (hr : RKZ Z) {p0 : Int32} {p1 : Int32} {s : St} (h : Z s) : Ok (fun _ s' => Z s') (f_X11_answer p0 p1 s) := by
  have qM := q.b.hM
  have qT := q.b.hT
  have qS := q.b.S512
  have qE := q.b.hE
  have qA := q.b.hA
  have qU := q.b.hU
  have qY := q.b.hY
  have qA2 := q.b.A256
  have qU2 := q.b.U256
  unfold f_X11_answer
  refine okB (T_X11_isPurse q h) ?_
  intro r3 s1 h2
  refine okI (fun c4 => ?_) (fun c4 => ?_)
  ·
    unfold f_X11_answer_24
    exact okR h2
  ·
    refine okB (T_X3_answeredGood q hr h2) ?_
    intro r7 s5 h6
    unfold f_X11_answer_24
    exact okR h6
theorem T_X11_rests {Z : St → Prop} {σ0 : St} {M T S E A U Y L P N : Nat} (q : ZB Z σ0 M T S E A U Y L P N) (hr : RKZ Z) {p0 : Int32} {s : St} (h : Z s) : Ok (fun _ s' => Z s') (f_X11_rests p0 s) := by
  have qM := q.b.hM
  have qT := q.b.hT
  have qS := q.b.S512
  have qE := q.b.hE
  have qA := q.b.hA
  have qU := q.b.hU
  have qY := q.b.hY
  have qA2 := q.b.A256
  have qU2 := q.b.U256
  unfold f_X11_rests
  refine okB (T_X11_isPurse q h) ?_
  intro r3 s1 h2
  refine okI (fun c4 => ?_) (fun c4 => ?_)
  ·
    unfold f_X11_rests_22
    exact okR h2
  ·
    refine okB (T_X3_countRests q hr h2) ?_
    intro r7 s5 h6
    unfold f_X11_rests_22
    exact okR h6
theorem T_X11_watch {Z : St → Prop} {σ0 : St} {M T S E A U Y L P N : Nat} (q : ZB Z σ0 M T S E A U Y L P N) {p0 : Int32} {s : St} (h : Z s) : Ok (fun _ s' => Z s') (f_X11_watch p0 s) := by
  have qM := q.b.hM
  have qT := q.b.hT
  have qS := q.b.S512
  have qE := q.b.hE
  have qA := q.b.hA
  have qU := q.b.hU
  have qY := q.b.hY
  have qA2 := q.b.A256
  have qU2 := q.b.U256
  unfold f_X11_watch
  refine okB (T_X10_hasSet q h) ?_
  intro r3 s1 h2
  refine okI (fun c4 => ?_) (fun c4 => ?_)
  ·
    unfold f_X11_watch_24
    exact okR h2
  ·
    refine okB (T_X8_trainToWatch q h2) ?_
    intro r7 s5 h6
    unfold f_X11_watch_24
    exact okR h6
theorem T_X11_leaves {Z : St → Prop} {σ0 : St} {M T S E A U Y L P N : Nat} (q : ZB Z σ0 M T S E A U Y L P N) {p0 : Int32} {s : St} (h : Z s) : Ok (fun _ s' => Z s') (f_X11_leaves p0 s) := by
  have qM := q.b.hM
  have qT := q.b.hT
  have qS := q.b.S512
  have qE := q.b.hE
  have qA := q.b.hA
  have qU := q.b.hU
  have qY := q.b.hY
  have qA2 := q.b.A256
  have qU2 := q.b.U256
  unfold f_X11_leaves
  refine okB (T_X10_hasSet q h) ?_
  intro r3 s1 h2
  refine okI (fun c4 => ?_) (fun c4 => ?_)
  ·
    unfold f_X11_leaves_32
    exact okR h2
  ·
    refine okB (T_X8_trainToWatch q h2) ?_
    intro r7 s5 h6
    refine okB (T_X8_leftAtWorst q h6) ?_
    intro r10 s8 h9
    unfold f_X11_leaves_32
    exact okR h9
theorem T_X3_fewestSent {Z : St → Prop} {σ0 : St} {M T S E A U Y L P N : Nat} (q : ZB Z σ0 M T S E A U Y L P N) {p0 : Int32} {s : St} (h : Z s) : Ok (fun _ s' => Z s') (f_X3_fewestSent p0 s) := by
  have qM := q.b.hM
  have qT := q.b.hT
  have qS := q.b.S512
  have qE := q.b.hE
  have qA := q.b.hA
  have qU := q.b.hU
  have qY := q.b.hY
  have qA2 := q.b.A256
  have qU2 := q.b.U256
  unfold f_X3_fewestSent
  refine okB (T_X3_fitByChance q h) ?_
  intro r3 s1 h2
  refine okB (T_X10_trainsOf q h2) ?_
  intro r6 s4 h5
  refine okC (fun (i : Nat) (x : Int32 × Int32 × Int32 × St) => x.2.2.1 = nI i ∧ Z x.2.2.2) S ?_ (i := 0) (by unfold FU; omega) (by omega) ⟨rfl, h5⟩
  rintro i7 ⟨v14, v15, v16, s12⟩ K8 hi9 ⟨hv11, h13⟩ hK10
  dsimp only at hv11 h13
  subst hv11
  unfold g_X3_fewestSent_21
  dsimp only
  rw [S_X10_sets q h13, bd_mk]
  refine okI (fun _ => ?_) (fun c17 => ?_)
  ·
    exact okR h13
  ·
    replace c17 : i7 < S := cnt_le rfl (by omega) c17 hi9
    refine okB (T_J6_bitCount_0f7a4 q h13) ?_
    intro r20 s18 h19
    refine okI (fun c21 => ?_) (fun c21 => ?_)
    ·
      refine okD (inb_ln (n := 512) rfl (by omega) (by omega)) ?_
      refine okI (fun c22 => ?_) (fun c22 => ?_)
      ·
        unfold f_X3_fewestSent_73
        refine okN ?_
        exact hK10 _ c17 ⟨nI_1 _, h19⟩
      ·
        refine okI (fun c23 => ?_) (fun c23 => ?_)
        ·
          unfold f_X3_fewestSent_70
          unfold f_X3_fewestSent_73
          refine okN ?_
          exact hK10 _ c17 ⟨nI_1 _, h19⟩
        ·
          refine okI (fun c24 => ?_) (fun c24 => ?_)
          ·
            unfold f_X3_fewestSent_73
            refine okN ?_
            exact hK10 _ c17 ⟨nI_1 _, h19⟩
          ·
            unfold f_X3_fewestSent_70
            unfold f_X3_fewestSent_73
            refine okN ?_
            exact hK10 _ c17 ⟨nI_1 _, h19⟩
    ·
      unfold f_X3_fewestSent_73
      refine okN ?_
      exact hK10 _ c17 ⟨nI_1 _, h19⟩
theorem T_X3_riskedSet {Z : St → Prop} {σ0 : St} {M T S E A U Y L P N : Nat} (q : ZB Z σ0 M T S E A U Y L P N) {p0 : Int32} {p1 : Int32} {s : St} (h : Z s) : Ok (fun _ s' => Z s') (f_X3_riskedSet p0 p1 s) := by
  have qM := q.b.hM
  have qT := q.b.hT
  have qS := q.b.S512
  have qE := q.b.hE
  have qA := q.b.hA
  have qU := q.b.hU
  have qY := q.b.hY
  have qA2 := q.b.A256
  have qU2 := q.b.U256
  unfold f_X3_riskedSet
  refine okB (T_X3_takePrices q h) ?_
  intro r3 s1 h2
  refine okB (T_X3_fitByChance q h2) ?_
  intro r6 s4 h5
  refine okB (T_X10_trainsOf q h5) ?_
  intro r9 s7 h8
  refine okB (T_X3_cheapest q h8) ?_
  intro r12 s10 h11
  exact okR h11
theorem T_X11_fewest {Z : St → Prop} {σ0 : St} {M T S E A U Y L P N : Nat} (q : ZB Z σ0 M T S E A U Y L P N) {p0 : Int32} {s : St} (h : Z s) : Ok (fun _ s' => Z s') (f_X11_fewest p0 s) := by
  have qM := q.b.hM
  have qT := q.b.hT
  have qS := q.b.S512
  have qE := q.b.hE
  have qA := q.b.hA
  have qU := q.b.hU
  have qY := q.b.hY
  have qA2 := q.b.A256
  have qU2 := q.b.U256
  unfold f_X11_fewest
  refine okB (T_X10_hasSide q h) ?_
  intro r3 s1 h2
  refine okI (fun c4 => ?_) (fun c4 => ?_)
  ·
    unfold f_X11_fewest_24
    exact okR h2
  ·
    refine okB (T_X3_fewestSent q h2) ?_
    intro r7 s5 h6
    unfold f_X11_fewest_24
    exact okR h6
theorem T_X11_risk {Z : St → Prop} {σ0 : St} {M T S E A U Y L P N : Nat} (q : ZB Z σ0 M T S E A U Y L P N) {p0 : Int32} {p1 : Int32} {s : St} (h : Z s) : Ok (fun _ s' => Z s') (f_X11_risk p0 p1 s) := by
  have qM := q.b.hM
  have qT := q.b.hT
  have qS := q.b.S512
  have qE := q.b.hE
  have qA := q.b.hA
  have qU := q.b.hU
  have qY := q.b.hY
  have qA2 := q.b.A256
  have qU2 := q.b.U256
  unfold f_X11_risk
  refine okB (T_X11_isRisk q h) ?_
  intro r3 s1 h2
  refine okI (fun c4 => ?_) (fun c4 => ?_)
  ·
    unfold f_X11_risk_30
    exact okR h2
  ·
    refine okB (T_X3_riskedSet q h2) ?_
    intro r7 s5 h6
    refine okB (T_X10_priceOf q h6) ?_
    intro r10 s8 h9
    unfold f_X11_risk_30
    exact okR h9
theorem T_X11_risked {Z : St → Prop} {σ0 : St} {M T S E A U Y L P N : Nat} (q : ZB Z σ0 M T S E A U Y L P N) {p0 : Int32} {p1 : Int32} {s : St} (h : Z s) : Ok (fun _ s' => Z s') (f_X11_risked p0 p1 s) := by
  have qM := q.b.hM
  have qT := q.b.hT
  have qS := q.b.S512
  have qE := q.b.hE
  have qA := q.b.hA
  have qU := q.b.hU
  have qY := q.b.hY
  have qA2 := q.b.A256
  have qU2 := q.b.U256
  unfold f_X11_risked
  refine okB (T_X11_isRisk q h) ?_
  intro r3 s1 h2
  refine okI (fun c4 => ?_) (fun c4 => ?_)
  ·
    unfold f_X11_risked_23
    exact okR h2
  ·
    refine okB (T_X3_riskedSet q h2) ?_
    intro r7 s5 h6
    unfold f_X11_risked_23
    exact okR h6
theorem T_X3_sentSet {Z : St → Prop} {σ0 : St} {M T S E A U Y L P N : Nat} (q : ZB Z σ0 M T S E A U Y L P N) {p0 : Int32} {s : St} (h : Z s) : Ok (fun _ s' => Z s') (f_X3_sentSet p0 s) := by
  have qM := q.b.hM
  have qT := q.b.hT
  have qS := q.b.S512
  have qE := q.b.hE
  have qA := q.b.hA
  have qU := q.b.hU
  have qY := q.b.hY
  have qA2 := q.b.A256
  have qU2 := q.b.U256
  unfold f_X3_sentSet
  refine okB (T_X3_riskedSet q h) ?_
  intro r3 s1 h2
  exact okR h2
theorem T_X11_send {Z : St → Prop} {σ0 : St} {M T S E A U Y L P N : Nat} (q : ZB Z σ0 M T S E A U Y L P N) {p0 : Int32} {s : St} (h : Z s) : Ok (fun _ s' => Z s') (f_X11_send p0 s) := by
  have qM := q.b.hM
  have qT := q.b.hT
  have qS := q.b.S512
  have qE := q.b.hE
  have qA := q.b.hA
  have qU := q.b.hU
  have qY := q.b.hY
  have qA2 := q.b.A256
  have qU2 := q.b.U256
  unfold f_X11_send
  refine okB (T_X10_hasSide q h) ?_
  intro r3 s1 h2
  refine okI (fun c4 => ?_) (fun c4 => ?_)
  ·
    unfold f_X11_send_31
    exact okR h2
  ·
    refine okB (T_X3_sentSet q h2) ?_
    intro r7 s5 h6
    refine okB (T_X10_priceOf q h6) ?_
    intro r10 s8 h9
    unfold f_X11_send_31
    exact okR h9
theorem T_X11_sent {Z : St → Prop} {σ0 : St} {M T S E A U Y L P N : Nat} (q : ZB Z σ0 M T S E A U Y L P N) {p0 : Int32} {s : St} (h : Z s) : Ok (fun _ s' => Z s') (f_X11_sent p0 s) := by
  have qM := q.b.hM
  have qT := q.b.hT
  have qS := q.b.S512
  have qE := q.b.hE
  have qA := q.b.hA
  have qU := q.b.hU
  have qY := q.b.hY
  have qA2 := q.b.A256
  have qU2 := q.b.U256
  unfold f_X11_sent
  refine okB (T_X10_hasSide q h) ?_
  intro r3 s1 h2
  refine okI (fun c4 => ?_) (fun c4 => ?_)
  ·
    unfold f_X11_sent_24
    exact okR h2
  ·
    refine okB (T_X3_sentSet q h2) ?_
    intro r7 s5 h6
    unfold f_X11_sent_24
    exact okR h6
