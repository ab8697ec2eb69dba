/-! ===== loops of the class that want a hand ===== -/
theorem n_or0 {x : Int32} (h : x.toInt ≤ 1000) : x ≤ 0 ∨ ∃ k : Nat, k ≤ 1000 ∧ x = nI k := by
  by_cases c : x ≤ 0
  · exact Or.inl c
  · rw [le_toInt] at c
    have z0 : (0 : Int32).toInt = 0 := rfl
    exact Or.inr (nI_ofT (by omega) (by omega))
theorem T_X1_power {Z : St → Prop} {σ0 : St} {M T S E A U Y L P N : Nat} (q : ZB Z σ0 M T S E A U Y L P N) {p0 p1 : Int32} {s : St} (h : Z s) (hp : p1.toInt ≤ 1000) : Ok (fun _ s' => Z s') (f_X1_power p0 p1 s) := by
  unfold f_X1_power
  rcases n_or0 hp with c | ⟨k, hk, rfl⟩
  · rw [show FU = 4999 + 1 from rfl, itr_succ]
    unfold g_X1_power_5
    dsimp only
    rw [if_pos c]
    exact okR h
  · refine okC (fun (i : Nat) (x : Int32 × Int32 × Int64 × Int32 × St) => x.2.2.2.1 = nI i ∧ x.2.1 = nI k ∧ Z x.2.2.2.2) k ?_ (i := 0) (by unfold FU; omega) (by omega) ⟨rfl, rfl, h⟩
    rintro i ⟨v1, v2, v3, v4, s2⟩ K hi ⟨hv, hw, h2⟩ hK
    dsimp only at hv hw h2
    subst hv hw
    unfold g_X1_power_5
    dsimp only
    refine okI (fun _ => okR h2) (fun c => ?_)
    exact hK _ (cnt_le rfl (by omega) c hi) ⟨nI_1 _, rfl, h2⟩
theorem T_X1_choices {Z : St → Prop} {σ0 : St} {M T S E A U Y L P N : Nat} (q : ZB Z σ0 M T S E A U Y L P N) {p0 p1 : Int32} {s : St} (h : Z s) (hp : p1.toInt ≤ 1000) : Ok (fun _ s' => Z s') (f_X1_choices p0 p1 s) := by
  unfold f_X1_choices
  rcases n_or0 hp with c | ⟨k, hk, rfl⟩
  · rw [show FU = 4999 + 1 from rfl, itr_succ]
    unfold g_X1_choices_5
    dsimp only
    rw [if_pos (show p1 < 1 from by
      rw [le_toInt] at c
      rw [lt_toInt]
      have z0 : (0 : Int32).toInt = 0 := rfl
      have z1 : (1 : Int32).toInt = 1 := rfl
      omega)]
    exact okR h
  · refine okC (fun (i : Nat) (x : Int32 × Int32 × Int64 × Int32 × St) => x.2.2.2.1 = nI (i + 1) ∧ x.2.1 = nI k ∧ Z x.2.2.2.2) k ?_ (i := 0) (by unfold FU; omega) (by omega) ⟨rfl, rfl, h⟩
    rintro i ⟨v1, v2, v3, v4, s2⟩ K hi ⟨hv, hw, h2⟩ hK
    dsimp only at hv hw h2
    subst hv hw
    unfold g_X1_choices_5
    dsimp only
    refine okI (fun _ => okR h2) (fun c => ?_)
    have c1 := cnt_lt rfl (by omega) c (by omega)
    refine okD ?_ ?_
    · rw [Bool.not_eq_true', decide_eq_false_iff_not]
      intro e
      have e2 := congrArg Int64.toInt e
      rw [Int32.toInt_toInt64, nI_toInt (by omega)] at e2
      have z0 : (0 : Int64).toInt = 0 := rfl
      omega
    · exact hK _ (by omega) ⟨nI_1 _, rfl, h2⟩
theorem T_J7_fill_53178 {Z : St → Prop} {σ0 : St} {M T S E A U Y L P N : Nat} (q : ZB Z σ0 M T S E A U Y L P N) {u n : Nat} {p1 : Int32} {s : St} (h : Z s) (hu : kd u = 13 ∧ u < 75) (hl : ln u = n) (hn : n ≤ 1000) (hw : ∀ s f, Z s → Z (sR s u f)) : Ok (fun _ s' => Z s') (f_J7_fill_53178 u p1 s) := by
  have hA : ∀ s, isA s u = true := fun s => by
    unfold isA
    rw [decide_eq_true hu.1, decide_eq_true (lt_lit hu.2)]
    rfl
  unfold f_J7_fill_53178
  rw [hA, gd_tt, bnd_mk, hl]
  refine okC (fun (i : Nat) (x : Int32 × Int32 × Int32 × St) => x.2.1 = nI i ∧ x.2.2.1 = nI n ∧ Z x.2.2.2) n ?_ (i := 0) (by unfold FU; omega) (by omega) ⟨rfl, rfl, h⟩
  rintro i ⟨v1, v2, v3, s2⟩ K hi ⟨hv, hw', h2⟩ hK
  dsimp only at hv hw' h2
  subst hv hw'
  unfold g_J7_fill_53178_5
  dsimp only
  refine okI (fun _ => okR h2) (fun c => ?_)
  have c1 := cnt_le rfl (by omega) c hi
  refine okD (hA _) ?_
  refine okD (inb_ln hl c1 (by omega)) ?_
  refine okZ (Z := Z) (hw _ _ h2) (fun s3 h3 => ?_)
  exact hK _ c1 ⟨nI_1 _, rfl, h3⟩
theorem nI_and (a b : Nat) (ha : a < 2 ^ 31) (hb : b < 2 ^ 31) : nI a &&& nI b = nI (a &&& b) := by
  apply Int32.toBitVec.inj
  apply BitVec.eq_of_toNat_eq
  rw [Int32.toBitVec_and, BitVec.toNat_and]
  show (BitVec.ofNat 32 a).toNat &&& (BitVec.ofNat 32 b).toNat = (BitVec.ofNat 32 (a &&& b)).toNat
  have h3 : a &&& b ≤ a := Nat.and_le_left
  rw [BitVec.toNat_ofNat, BitVec.toNat_ofNat, BitVec.toNat_ofNat, Nat.mod_eq_of_lt (by omega), Nat.mod_eq_of_lt (by omega), Nat.mod_eq_of_lt (by omega)]
theorem or_512 {a b : Nat} (ha : a < 512) (hb : b < 512) : a ||| b < 512 := Nat.or_lt_two_pow (n := 9) ha hb
theorem T_X10_spread {Z : St → Prop} {σ0 : St} {M T S E A U Y L P N : Nat} (q : ZB Z σ0 M T S E A U Y L P N) {u t : Nat} {p2 : Int32} {s : St} (h : Z s) (ht : t < 9) (hu : kd u = 13 ∧ u < 75) (hl : ln u = 512) (hw : ∀ s f, Z s → Z (sR s u f)) : Ok (fun _ s' => Z s') (f_X10_spread u (nI t) p2 s) := by
  have hA : ∀ s, isA s u = true := fun s => by
    unfold isA
    rw [decide_eq_true hu.1, decide_eq_true (lt_lit hu.2)]
    rfl
  have hk : 2 ^ t ≤ 256 := by
    calc 2 ^ t ≤ 2 ^ 8 := Nat.pow_le_pow_right (by decide) (by omega)
      _ = 256 := rfl
  unfold f_X10_spread
  rw [hA, gd_tt, bnd_mk, nI_shl (by omega)]
  generalize 2 ^ t = k at hk
  refine okC (fun (i : Nat) (x : Int32 × Int32 × Int32 × St) => x.2.2.1 = nI i ∧ x.2.1 = nI k ∧ Z x.2.2.2) k ?_ (i := 0) (by unfold FU; omega) (by omega) ⟨rfl, rfl, h⟩
  rintro i ⟨v1, v2, v3, s2⟩ K hi ⟨hv, hw', h2⟩ hK
  dsimp only at hv hw' h2
  subst hv hw'
  unfold g_X10_spread_7 f_X10_spread_40
  dsimp only
  refine okI (fun _ => okR h2) (fun c => ?_)
  have c1 := cnt_le rfl (by omega) c hi
  have c2 : i ||| k < 512 := or_512 (by omega) (by omega)
  refine okD (hA _) ?_
  refine okI (fun _ => okR h2) (fun _ => ?_)
  refine okD (inb_ln hl (by omega) (by omega)) ?_
  rw [nI_or]
  refine okD (inb_ln hl c2 (by omega)) ?_
  refine okZ (Z := Z) (hw _ _ h2) (fun s3 h3 => ?_)
  exact hK _ c1 ⟨nI_1 _, rfl, h3⟩
theorem T_X2_farthestFrom0 {Z : St → Prop} {σ0 : St} {M T S E A U Y L P N : Nat} (q : ZB Z σ0 M T S E A U Y L P N) {p0 : Int32} {s : St} (h : Z s) (T0 : ∀ {p0 : Int32} {s : St}, Z s → Ok (fun _ s' => Z s') (f_X2_frontBehind p0 s)) (hp : ∃ k : Nat, p0 = nI k ∧ k ≤ 1000) : Ok (fun _ s' => Z s') (f_X2_farthestFrom p0 s) := by
  obtain ⟨k, rfl, hk⟩ := hp
  have qM := q.b.hM
  unfold f_X2_farthestFrom
  rw [bnd_mk, nI_1]
  by_cases c : M < k + 1
  · rw [show FU = 4999 + 1 from rfl, itr_succ]
    generalize itr g_X2_farthestFrom_6 4999 = R
    unfold g_X2_farthestFrom_6
    dsimp only
    rw [(q.at' h).cM, if_pos (nI_lt c (by omega))]
    exact okR h
  · refine okC (fun (i : Nat) (x : Int32 × Int32 × Int32 × St) => x.2.2.1 = nI i ∧ Z x.2.2.2) (M + 1) ?_ (i := k + 1) (by unfold FU; omega) (by omega) ⟨rfl, h⟩
    rintro i ⟨v1, v2, v3, s2⟩ K hi ⟨hv, h2⟩ hK
    dsimp only at hv h2
    subst hv
    unfold g_X2_farthestFrom_6
    dsimp only
    refine okI (fun _ => okR h2) (fun c => ?_)
    have c1 := cnt_lt (q.at' h2).cM (by omega) c hi
    refine okB (T0 h2) ?_
    intro r3 s3 h3
    refine okB (T0 h3) ?_
    intro r4 s4 h4
    exact hK _ c1 ⟨nI_1 _, h4⟩
theorem T_X0_sortByMinute {Z : St → Prop} {σ0 : St} {M T S E A U Y L P N : Nat} (q : ZB Z σ0 M T S E A U Y L P N) {s : St} (h : Z s) : Ok (fun _ s' => Z s') (f_X0_sortByMinute s) := by
  have qA := q.b.hA
  unfold f_X0_sortByMinute
  refine okC (fun (i : Nat) (x : Int32 × St) => x.1 = nI i ∧ Z x.2) A ?_ (i := 0) (by unfold FU; omega) (by omega) ⟨rfl, h⟩
  rintro i ⟨v1, s2⟩ K hi ⟨hv, h2⟩ hK
  dsimp only at hv h2
  subst hv
  unfold g_X0_sortByMinute_2 f_X0_sortByMinute_98
  dsimp only
  refine okI (fun _ => okR h2) (fun c => ?_)
  have c1 := cnt_le (q.at' h2).cA (by omega) c hi
  refine okI (fun _ => okR h2) (fun _ => ?_)
  refine okM (fun (x : Int32 × Int32 × St) => x.1 = nI i ∧ (∃ j : Nat, j ≤ i ∧ x.2.1 = nI j) ∧ Z x.2.2) (fun x => x.2.1.toInt.toNat) ?_ ?_ ⟨rfl, ⟨i, by omega, rfl⟩, h2⟩
  · rintro ⟨w1, w2, s3⟩ K2 ⟨e1, ⟨j, hj, e2⟩, h3⟩ hK2
    dsimp only at e1 e2 h3 hK2
    subst e1 e2
    unfold g_X0_sortByMinute_27 f_X0_sortByMinute_85
    dsimp only
    have fin : ∀ s, Z s → Ok (fun _ s' => Z s') (gd (inb (nI j) (ln 51)) (bnd (sr s 51 (nI j).toNatClampNeg (nI i)) fun s2 => bnd (nI i + 1) fun x3 => K (x3, s2))) := fun s hs => by
      refine okD (inb_ln (n := 8) rfl (show j < 8 by omega) (by omega)) ?_
      refine okZ (Z := Z) (q.z.wr _ _ _ hs (by decide)) (fun s4 h4 => ?_)
      exact hK _ c1 ⟨nI_1 _, h4⟩
    by_cases j0 : j = 0
    · subst j0
      rw [if_pos (show nI 0 ≤ 0 from by decide)]
      exact fin _ h3
    · obtain ⟨j', rfl⟩ : ∃ j', j = j' + 1 := ⟨j - 1, by omega⟩
      refine okI (fun _ => fin _ h3) (fun _ => ?_)
      rw [nI_pred]
      refine okD (inb_ln (n := 8) rfl (show j' < 8 by omega) (by omega)) ?_
      refine okB (T_X9_cell7 q h3) ?_
      intro r4 s4 h4
      refine okB (T_X9_cell7 q h4) ?_
      intro r5 s5 h5
      refine okI (fun _ => fin _ h5) (fun _ => ?_)
      refine okD (inb_ln (n := 8) rfl (show j' < 8 by omega) (by omega)) ?_
      refine okD (inb_ln (n := 8) rfl (show j' + 1 < 8 by omega) (by omega)) ?_
      refine okZ (Z := Z) (q.z.wr _ _ _ h5 (by decide)) (fun s6 h6 => ?_)
      refine okN ?_
      have e : nI (j' + 1) + (-1 : Int32) = nI j' := by
        rw [← nI_pred j', Int32.sub_eq_add_neg]
      rw [e]
      refine hK2 _ ⟨rfl, ⟨j', by omega, rfl⟩, h6⟩ ?_
      show (nI j').toInt.toNat < (nI (j' + 1)).toInt.toNat
      rw [nI_toInt (by omega), nI_toInt (by omega)]
      omega
  · show (nI i).toInt.toNat < FU
    rw [nI_toInt (by omega)]
    unfold FU
    omega
