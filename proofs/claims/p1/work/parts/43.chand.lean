/-! ===== loops of the class that want a hand ===== -/
theorem n_or0 {x : Int32} (h : x.toInt ≤ 1000) : x ≤ 0 ∨ ∃ k : Nat, k ≤ 1000 ∧ x = nI k := by
  by_cases c : x ≤ 0
  · exact Or.inl c
  · rw [le_toInt] at c
    have z0 : (0 : Int32).toInt = 0 := rfl
    exact Or.inr (nI_ofT (by omega) (by omega))
theorem T_X1_power {Z : St → Prop} {σ0 : St} {M T S E A U Y L P N : Nat} (q : ZB Z σ0 M T S E A U Y L P N) {p0 p1 : Int32} {s : St} (h : Z s) (hp : p1.toInt ≤ 1000) : Ok (fun _ s' => Z s') (f_X1_power p0 p1 s) := by
  unfold f_X1_power
  rcases n_or0 hp with c | ⟨k, hk, rfl⟩
  · rw [show FU = 4999 + 1 from rfl, itr_succ]
    unfold g_X1_power_5
    dsimp only
    rw [if_pos c]
    exact okR h
  · refine okC (fun (i : Nat) (x : Int32 × Int32 × Int64 × Int32 × St) => x.2.2.2.1 = nI i ∧ x.2.1 = nI k ∧ Z x.2.2.2.2) k ?_ (i := 0) (by unfold FU; omega) (by omega) ⟨rfl, rfl, h⟩
    rintro i ⟨v1, v2, v3, v4, s2⟩ K hi ⟨hv, hw, h2⟩ hK
    dsimp only at hv hw h2
    subst hv hw
    unfold g_X1_power_5
    dsimp only
    refine okI (fun _ => okR h2) (fun c => ?_)
    exact hK _ (cnt_le rfl (by omega) c hi) ⟨nI_1 _, rfl, h2⟩
theorem T_X1_choices {Z : St → Prop} {σ0 : St} {M T S E A U Y L P N : Nat} (q : ZB Z σ0 M T S E A U Y L P N) {p0 p1 : Int32} {s : St} (h : Z s) (hp : p1.toInt ≤ 1000) : Ok (fun _ s' => Z s') (f_X1_choices p0 p1 s) := by
  unfold f_X1_choices
  rcases n_or0 hp with c | ⟨k, hk, rfl⟩
  · rw [show FU = 4999 + 1 from rfl, itr_succ]
    unfold g_X1_choices_5
    dsimp only
    rw [if_pos (show p1 < 1 from by
      rw [le_toInt] at c
      rw [lt_toInt]
      have z0 : (0 : Int32).toInt = 0 := rfl
      have z1 : (1 : Int32).toInt = 1 := rfl
      omega)]
    exact okR h
  · refine okC (fun (i : Nat) (x : Int32 × Int32 × Int64 × Int32 × St) => x.2.2.2.1 = nI (i + 1) ∧ x.2.1 = nI k ∧ Z x.2.2.2.2) k ?_ (i := 0) (by unfold FU; omega) (by omega) ⟨rfl, rfl, h⟩
    rintro i ⟨v1, v2, v3, v4, s2⟩ K hi ⟨hv, hw, h2⟩ hK
    dsimp only at hv hw h2
    subst hv hw
    unfold g_X1_choices_5
    dsimp only
    refine okI (fun _ => okR h2) (fun c => ?_)
    have c1 := cnt_lt rfl (by omega) c (by omega)
    refine okD ?_ ?_
    · rw [Bool.not_eq_true', decide_eq_false_iff_not]
      intro e
      have e2 := congrArg Int64.toInt e
      rw [Int32.toInt_toInt64, nI_toInt (by omega)] at e2
      have z0 : (0 : Int64).toInt = 0 := rfl
      omega
    · exact hK _ (by omega) ⟨nI_1 _, rfl, h2⟩
theorem T_J7_fill_53178 {Z : St → Prop} {σ0 : St} {M T S E A U Y L P N : Nat} (q : ZB Z σ0 M T S E A U Y L P N) {u n : Nat} {p1 : Int32} {s : St} (h : Z s) (hu : kd u = 13 ∧ u < 75) (hl : ln u = n) (hn : n ≤ 1000) (hw : ∀ s f, Z s → Z (sR s u f)) : Ok (fun _ s' => Z s') (f_J7_fill_53178 u p1 s) := by
  have hA : ∀ s, isA s u = true := fun s => by
    unfold isA
    rw [decide_eq_true hu.1, decide_eq_true (lt_lit hu.2)]
    rfl
  unfold f_J7_fill_53178
  rw [hA, gd_tt, bnd_mk, hl]
  refine okC (fun (i : Nat) (x : Int32 × Int32 × Int32 × St) => x.2.1 = nI i ∧ x.2.2.1 = nI n ∧ Z x.2.2.2) n ?_ (i := 0) (by unfold FU; omega) (by omega) ⟨rfl, rfl, h⟩
  rintro i ⟨v1, v2, v3, s2⟩ K hi ⟨hv, hw', h2⟩ hK
  dsimp only at hv hw' h2
  subst hv hw'
  unfold g_J7_fill_53178_5
  dsimp only
  refine okI (fun _ => okR h2) (fun c => ?_)
  have c1 := cnt_le rfl (by omega) c hi
  refine okD (hA _) ?_
  refine okD (inb_ln hl c1 (by omega)) ?_
  refine okZ (Z := Z) (hw _ _ h2) (fun s3 h3 => ?_)
  exact hK _ c1 ⟨nI_1 _, rfl, h3⟩
theorem nI_and (a b : Nat) (ha : a < 2 ^ 31) (hb : b < 2 ^ 31) : nI a &&& nI b = nI (a &&& b) := by
  apply Int32.toBitVec.inj
  apply BitVec.eq_of_toNat_eq
  rw [Int32.toBitVec_and, BitVec.toNat_and]
  show (BitVec.ofNat 32 a).toNat &&& (BitVec.ofNat 32 b).toNat = (BitVec.ofNat 32 (a &&& b)).toNat
  have h3 : a &&& b ≤ a := Nat.and_le_left
  rw [BitVec.toNat_ofNat, BitVec.toNat_ofNat, BitVec.toNat_ofNat, Nat.mod_eq_of_lt (by omega), Nat.mod_eq_of_lt (by omega), Nat.mod_eq_of_lt (by omega)]
