/-! WarByHours.Fares.fitByChance (II)V -/
def rX3_fitByChance : Room := { frames := 4, cells := 0, slots := 0, locals := 92 }
def f_X3_fitByChance_77 (K34 : Int32 × Int32 × St → Option (Unit × St)) (v2 : Int32) (v3 : Int32) (k0 : Int32) (k1 : Int32) (σ : St) : Option (Unit × St) :=
  gd (inb k1 (ln 40)) <|
  bnd (sr σ 40 k1.toNatClampNeg (vp_nar .boolean k0)) fun s2 =>
  bnd (v3 + (1 : Int32)) fun x3 =>
  K34 (v2, x3, s2)
theorem b_X3_fitByChance_77 {Γ : CX} (K34 : Int32 × Int32 × St → Option (Unit × St)) (hK34 : ∀ (v2 : Int32) (v3 : Int32) (σ : St), RR vU Γ (K34 (v2, v3, σ)) → WW Γ cX3_fitByChance 4 RX3 none rX3_fitByChance σ 34 [(0, .ref (xd Γ 36)), (2, .int v2), (3, .int v3)] []) (v2 : Int32) (v3 : Int32) (k0 : Int32) (k1 : Int32) (σ : St) (h : RR vU Γ (f_X3_fitByChance_77 K34 v2 v3 k0 k1 σ)) : WW Γ cX3_fitByChance 4 RX3 none rX3_fitByChance σ 77 [(0, .ref (xd Γ 36)), (2, .int v2), (3, .int v3)] [.int k0, .int k1, .ref (xd Γ 40)] := by
  unfold f_X3_fitByChance_77 at h
  obtain ⟨hi1, h⟩ := h.gd
  refine w_zast (i := 40) (lt_lit (by decide)) rfl hi1 dX3_fitByChance_77 rfl ?_
  obtain ⟨s2, es2⟩ : ∃ y : St, y = (sr σ 40 k1.toNatClampNeg (vp_nar .boolean k0)) := ⟨_, rfl⟩
  rw [← es2]
  replace h := h.bnd es2
  clear es2
  obtain ⟨x3, ex3⟩ : ∃ y : Int32, y = (v3 + (1 : Int32)) := ⟨_, rfl⟩
  replace h := h.bnd ex3
  refine w_iinc 2 x3 [(3, .int x3), (0, .ref (xd Γ 36)), (2, .int v2)] dX3_fitByChance_78 rfl (by rw [ex3, ic_iconst_1]) (by decide) rfl rfl ?_
  clear ex3
  refine w_goto (tgt := 34) dX3_fitByChance_81 (by decide) ?_
  exact w_sub [1, 2, 0] rfl (hK34 v2 x3 s2 h)
def g_X3_fitByChance_34 (K34 : Int32 × Int32 × St → Option (Unit × St)) (x : Int32 × Int32 × St) : Option (Unit × St) := match x with
  | (v2, v3, σ) =>
  bd (f_X10_sets 1 σ) fun r1 s2 =>
  if r1 ≤ v3 then
    some ((), s2)
  else
    gd (inb v3 (ln 39)) <|
    bd (f_J6_bitCount_0f7a4 v3 s2) fun r5 s6 =>
    bd (f_X1_hundreds (r5 - (1 : Int32)) s6) fun r8 s9 =>
    if (lg_cmp (gj s2 39 v3.toNatClampNeg) (v2.toInt64 * r8)) < 0 then
      f_X3_fitByChance_77 K34 v2 v3 (0 : Int32) v3 s9
    else
      f_X3_fitByChance_77 K34 v2 v3 (1 : Int32) v3 s9
theorem l_X3_fitByChance_34 {Γ : CX} : ∀ (n : Nat) (v2 : Int32) (v3 : Int32) (σ : St), RR vU Γ (itr (g_X3_fitByChance_34) n (v2, v3, σ)) → WW Γ cX3_fitByChance 4 RX3 none rX3_fitByChance σ 34 [(0, .ref (xd Γ 36)), (2, .int v2), (3, .int v3)] [] := by
  intro n
  induction n with
  | zero => intro v2 v3 σ h; exact RR.no h
  | succ n hK34 =>
  intro v2 v3 σ h
  have h : RR vU Γ (g_X3_fitByChance_34 (itr (g_X3_fitByChance_34) n) (v2, v3, σ)) := h
  generalize itr (g_X3_fitByChance_34) n = K34 at h hK34
  unfold g_X3_fitByChance_34 at h
  dsimp only at h
  refine w_iload_n 2 dX3_fitByChance_34 rfl rfl rfl ?_
  refine w_aload_n 0 dX3_fitByChance_35 rfl rfl rfl ?_
  refine gf_RX3_32 dX3_fitByChance_36 rfl ?_
  obtain ⟨r1, s2, h3, h⟩ := h.bd
  refine k_X10_sets ml_RX3_58 (Nat.le_of_ble_eq_true rfl) ⟨Nat.le_of_ble_eq_true rfl, Nat.le_of_ble_eq_true rfl⟩ dX3_fitByChance_39 rfl h3 ?_
  refine w_icmp_ge (tgt := 84) dX3_fitByChance_42 (by decide) rfl (fun q => ?_) (fun q => ?_)
  · have h := h.tt q
    exact w_return dX3_fitByChance_84 h
  · have h := h.ff q
    refine w_aload_n 0 dX3_fitByChance_45 rfl rfl rfl ?_
    refine gf_RX3_22 dX3_fitByChance_46 rfl ?_
    refine w_iload_n 2 dX3_fitByChance_49 rfl rfl rfl ?_
    refine w_aload_n 0 dX3_fitByChance_50 rfl rfl rfl ?_
    refine gf_RX3_18 dX3_fitByChance_51 rfl ?_
    refine w_iload_n 2 dX3_fitByChance_54 rfl rfl rfl ?_
    obtain ⟨hi4, h⟩ := h.gd
    refine w_lald (i := 39) (lt_lit (by decide)) rfl hi4 dX3_fitByChance_55 rfl ?_
    refine w_iload_n 1 dX3_fitByChance_56 rfl rfl rfl ?_
    refine w_i2l dX3_fitByChance_57 rfl ?_
    refine w_iload_n 2 dX3_fitByChance_58 rfl rfl rfl ?_
    obtain ⟨r5, s6, h7, h⟩ := h.bd
    refine k_J6_bitCount_0f7a4 ml_RX3_62 (Nat.le_of_ble_eq_true rfl) ⟨Nat.le_of_ble_eq_true rfl, Nat.le_of_ble_eq_true rfl⟩ dX3_fitByChance_59 rfl h7 ?_
    refine w_iconst (1 : Int32) dX3_fitByChance_62 ic_iconst_1 rfl ?_
    refine w_isub dX3_fitByChance_63 rfl ?_
    obtain ⟨r8, s9, h10, h⟩ := h.bd
    refine k_X1_hundreds ml_RX3_146 (Nat.le_of_ble_eq_true rfl) ⟨Nat.le_of_ble_eq_true rfl, Nat.le_of_ble_eq_true rfl⟩ dX3_fitByChance_64 rfl h10 ?_
    refine w_lmul dX3_fitByChance_67 rfl ?_
    refine w_lcmp dX3_fitByChance_68 rfl ?_
    refine w_if_lt (tgt := 76) dX3_fitByChance_69 (by decide) rfl (fun q => ?_) (fun q => ?_)
    · have h := h.tt q
      refine w_iconst (0 : Int32) dX3_fitByChance_76 ic_iconst_0 rfl ?_
      exact w_sub [0, 1, 2] rfl (b_X3_fitByChance_77 K34 hK34 v2 v3 (0 : Int32) v3 s9 h)
    · have h := h.ff q
      refine w_iconst (1 : Int32) dX3_fitByChance_72 ic_iconst_1 rfl ?_
      refine w_goto (tgt := 77) dX3_fitByChance_73 (by decide) ?_
      exact w_sub [0, 1, 2] rfl (b_X3_fitByChance_77 K34 hK34 v2 v3 (1 : Int32) v3 s9 h)
def f_X3_fitByChance_31 (v2 : Int32) (k0 : Int32) (k1 : Int32) (σ : St) : Option (Unit × St) :=
  gd (inb k1 (ln 40)) <|
  bnd (sr σ 40 k1.toNatClampNeg (vp_nar .boolean k0)) fun s2 =>
  itr (g_X3_fitByChance_34) FU (v2, (1 : Int32), s2)
theorem b_X3_fitByChance_31 {Γ : CX} (v2 : Int32) (k0 : Int32) (k1 : Int32) (σ : St) (h : RR vU Γ (f_X3_fitByChance_31 v2 k0 k1 σ)) : WW Γ cX3_fitByChance 4 RX3 none rX3_fitByChance σ 31 [(0, .ref (xd Γ 36)), (2, .int v2)] [.int k0, .int k1, .ref (xd Γ 40)] := by
  unfold f_X3_fitByChance_31 at h
  obtain ⟨hi1, h⟩ := h.gd
  refine w_zast (i := 40) (lt_lit (by decide)) rfl hi1 dX3_fitByChance_31 rfl ?_
  obtain ⟨s2, es2⟩ : ∃ y : St, y = (sr σ 40 k1.toNatClampNeg (vp_nar .boolean k0)) := ⟨_, rfl⟩
  rw [← es2]
  replace h := h.bnd es2
  clear es2
  refine w_iconst (1 : Int32) dX3_fitByChance_32 ic_iconst_1 rfl ?_
  refine w_istore_n [(3, .int (1 : Int32)), (0, .ref (xd Γ 36)), (2, .int v2)] dX3_fitByChance_33 rfl (by decide) rfl rfl ?_
  exact w_sub [1, 2, 0] rfl (l_X3_fitByChance_34 FU v2 (1 : Int32) s2 h)
def f_X3_fitByChance (p0 : Int32) (p1 : Int32) (σ : St) : Option (Unit × St) :=
  bd (f_X3_takeParts p0 σ) fun _ s2 =>
  gd (inb (0 : Int32) (ln 39)) <|
  if (lg_cmp ((gj s2 39 (0 : Int32).toNatClampNeg) * (100 : Int64)) p1.toInt64) < 0 then
    f_X3_fitByChance_31 p1 (0 : Int32) (0 : Int32) s2
  else
    f_X3_fitByChance_31 p1 (1 : Int32) (0 : Int32) s2
theorem e_X3_fitByChance {Γ : CX} (p0 : Int32) (p1 : Int32) (σ : St) (h : RR vU Γ (f_X3_fitByChance p0 p1 σ)) : WW Γ cX3_fitByChance 4 RX3 none rX3_fitByChance σ 0 [(0, .ref (xd Γ 36)), (1, .int p0), (2, .int p1)] [] := by
  unfold f_X3_fitByChance at h
  refine w_aload_n 0 dX3_fitByChance_0 rfl rfl rfl ?_
  refine w_iload_n 1 dX3_fitByChance_1 rfl rfl rfl ?_
  obtain ⟨r1, s2, h3, h⟩ := h.bd
  refine k_X3_takeParts ml_RX3_40 (Nat.le_of_ble_eq_true rfl) ⟨Nat.le_of_ble_eq_true rfl, Nat.le_of_ble_eq_true rfl⟩ dX3_fitByChance_2 rfl h3 ?_
  refine w_aload_n 0 dX3_fitByChance_5 rfl rfl rfl ?_
  refine gf_RX3_22 dX3_fitByChance_6 rfl ?_
  refine w_iconst (0 : Int32) dX3_fitByChance_9 ic_iconst_0 rfl ?_
  refine w_aload_n 0 dX3_fitByChance_10 rfl rfl rfl ?_
  refine gf_RX3_18 dX3_fitByChance_11 rfl ?_
  refine w_iconst (0 : Int32) dX3_fitByChance_14 ic_iconst_0 rfl ?_
  obtain ⟨hi4, h⟩ := h.gd
  refine w_lald (i := 39) (lt_lit (by decide)) rfl hi4 dX3_fitByChance_15 rfl ?_
  refine w_ldc2_w (100 : Int64) dX3_fitByChance_16 cl_RX3_144 rfl ?_
  refine w_lmul dX3_fitByChance_19 rfl ?_
  refine w_iload_n 2 dX3_fitByChance_20 rfl rfl rfl ?_
  refine w_i2l dX3_fitByChance_21 rfl ?_
  refine w_lcmp dX3_fitByChance_22 rfl ?_
  refine w_if_lt (tgt := 30) dX3_fitByChance_23 (by decide) rfl (fun q => ?_) (fun q => ?_)
  · have h := h.tt q
    refine w_iconst (0 : Int32) dX3_fitByChance_30 ic_iconst_0 rfl ?_
    exact w_sub [0, 2] rfl (b_X3_fitByChance_31 p1 (0 : Int32) (0 : Int32) s2 h)
  · have h := h.ff q
    refine w_iconst (1 : Int32) dX3_fitByChance_26 ic_iconst_1 rfl ?_
    refine w_goto (tgt := 31) dX3_fitByChance_27 (by decide) ?_
    exact w_sub [0, 2] rfl (b_X3_fitByChance_31 p1 (1 : Int32) (0 : Int32) s2 h)
theorem c_X3_fitByChance {l : Launch} {D : va_G} {cy : Nat → ClassId} {ad : Nat → Nat} {p0 : Int32} {p1 : Int32} {σ σ' : St} {r : Unit} (hf : f_X3_fitByChance p0 p1 σ = some (r, σ')) : CT l D cy ad yX3_fitByChance cX3_fitByChance 4 none rX3_fitByChance [.ref (ad 36), .int p0, .int p1] σ none σ' :=
  ct_of (by decide) (Nat.le_of_ble_eq_true rfl) (fun p e s m args below meth c A => e_X3_fitByChance (Γ := (p, l, e, rX3_fitByChance, s, m, args, below, meth, c, D, cy, ad, A, 0, 0, (none, σ'))) p0 p1 σ ⟨_, hf, rfl⟩)
theorem k_X3_fitByChance {Γ : CX} {cc : ByteArray} {nL : Nat} {own : String} {ret : Option FieldType} {rm : Room} {σ σ' : St} {pc pc' idx : Nat} {lv : List (Nat × Value)} {rest : List Value} {p0 : Int32} {p1 : Int32} {r : Unit} (hl : Cond.methodLink own idx yX3_fitByChance ∈ TB) (hw : (rest.map fun v => v.category).sum ≤ 8) (hR : rX3_fitByChance.frames + 1 ≤ rm.frames ∧ 8 + (4 + 11) + rX3_fitByChance.locals ≤ rm.locals) (hd : decode cc pc = .ok (.invokevirtual idx, 3)) (hp : pc + 3 = pc') (hf : f_X3_fitByChance p0 p1 σ = some (r, σ')) (h : WW Γ cc nL own ret rm σ' pc' lv (rest)) : WW Γ cc nL own ret rm σ pc lv (.int p1 :: .int p0 :: .ref (xd Γ 36) :: rest) :=
  w_callV (nn := 2) (i := 36) (As := [.int p0, .int p1]) (v := none) (T := TX3) (N := 8) (c_X3_fitByChance hf) hl mw_X3_fitByChance (by decide +kernel) ⟨rfl, rfl⟩ hR (lt_lit (by decide)) cel_36 rfl rfl hw hd rfl hp h
/-! WarByHours.Reader.readNeed ()V -/
def rX6_readNeed : Room := { frames := 3, cells := 0, slots := 0, locals := 66 }
def f_X6_readNeed (σ : St) : Option (Unit × St) :=
  bd (f_X6_advance σ) fun _ s2 =>
  bd (f_X6_number (0 : Int32) (1 : Int32) s2) fun r4 s5 =>
  bd (f_X6_number (0 : Int32) (999 : Int32) s5) fun r7 s8 =>
  bd (f_X10_setNeed 15 r4 r7 s8) fun _ s11 =>
  some ((), s11)
theorem e_X6_readNeed {Γ : CX} (σ : St) (h : RR vU Γ (f_X6_readNeed σ)) : WW Γ cX6_readNeed 2 RX6 none rX6_readNeed σ 0 [(0, .ref (xd Γ 29))] [] := by
  unfold f_X6_readNeed at h
  refine w_aload_n 0 dX6_readNeed_0 rfl rfl rfl ?_
  obtain ⟨r1, s2, h3, h⟩ := h.bd
  refine k_X6_advance ml_RX6_37 (Nat.le_of_ble_eq_true rfl) ⟨Nat.le_of_ble_eq_true rfl, Nat.le_of_ble_eq_true rfl⟩ dX6_readNeed_1 rfl h3 ?_
  refine w_aload_n 0 dX6_readNeed_4 rfl rfl rfl ?_
  refine w_iconst (0 : Int32) dX6_readNeed_5 ic_iconst_0 rfl ?_
  refine w_iconst (1 : Int32) dX6_readNeed_6 ic_iconst_1 rfl ?_
  obtain ⟨r4, s5, h6, h⟩ := h.bd
  refine k_X6_number ml_RX6_105 (Nat.le_of_ble_eq_true rfl) ⟨Nat.le_of_ble_eq_true rfl, Nat.le_of_ble_eq_true rfl⟩ dX6_readNeed_7 rfl h6 ?_
  refine w_istore_n [(1, .int r4), (0, .ref (xd Γ 29))] dX6_readNeed_10 rfl (by decide) rfl rfl ?_
  refine w_aload_n 1 dX6_readNeed_11 rfl rfl rfl ?_
  refine gf_RX6_19 dX6_readNeed_12 rfl ?_
  refine w_iload_n 0 dX6_readNeed_15 rfl rfl rfl ?_
  refine w_aload_n 1 dX6_readNeed_16 rfl rfl rfl ?_
  refine w_iconst (0 : Int32) dX6_readNeed_17 ic_iconst_0 rfl ?_
  refine w_sipush (999 : Int32) dX6_readNeed_18 ic_sipush_999 rfl ?_
  obtain ⟨r7, s8, h9, h⟩ := h.bd
  refine k_X6_number ml_RX6_105 (Nat.le_of_ble_eq_true rfl) ⟨Nat.le_of_ble_eq_true rfl, Nat.le_of_ble_eq_true rfl⟩ dX6_readNeed_21 rfl h9 ?_
  obtain ⟨r10, s11, h12, h⟩ := h.bd
  refine k_X10_setNeed ml_RX6_124 (Nat.le_of_ble_eq_true rfl) ⟨Nat.le_of_ble_eq_true rfl, Nat.le_of_ble_eq_true rfl⟩ dX6_readNeed_24 rfl h12 ?_
  exact w_return dX6_readNeed_27 h
theorem c_X6_readNeed {l : Launch} {D : va_G} {cy : Nat → ClassId} {ad : Nat → Nat}  {σ σ' : St} {r : Unit} (hf : f_X6_readNeed σ = some (r, σ')) : CT l D cy ad yX6_readNeed cX6_readNeed 2 none rX6_readNeed [.ref (ad 29)] σ none σ' :=
  ct_of (by decide) (Nat.le_of_ble_eq_true rfl) (fun p e s m args below meth c A => e_X6_readNeed (Γ := (p, l, e, rX6_readNeed, s, m, args, below, meth, c, D, cy, ad, A, 0, 0, (none, σ'))) σ ⟨_, hf, rfl⟩)
theorem k_X6_readNeed {Γ : CX} {cc : ByteArray} {nL : Nat} {own : String} {ret : Option FieldType} {rm : Room} {σ σ' : St} {pc pc' idx : Nat} {lv : List (Nat × Value)} {rest : List Value}  {r : Unit} (hl : Cond.methodLink own idx yX6_readNeed ∈ TB) (hw : (rest.map fun v => v.category).sum ≤ 8) (hR : rX6_readNeed.frames + 1 ≤ rm.frames ∧ 8 + (2 + 11) + rX6_readNeed.locals ≤ rm.locals) (hd : decode cc pc = .ok (.invokevirtual idx, 3)) (hp : pc + 3 = pc') (hf : f_X6_readNeed σ = some (r, σ')) (h : WW Γ cc nL own ret rm σ' pc' lv (rest)) : WW Γ cc nL own ret rm σ pc lv (.ref (xd Γ 29) :: rest) :=
  w_callV (nn := 0) (i := 29) (As := []) (v := none) (T := TX6) (N := 9) (c_X6_readNeed hf) hl mw_X6_readNeed (by decide +kernel) ⟨rfl, rfl⟩ hR (lt_lit (by decide)) cel_29 rfl rfl hw hd rfl hp h
/-! WarByHours.Reader.cell (LWarByHours$Table;III)V -/
def rX6_cell : Room := { frames := 3, cells := 0, slots := 0, locals := 66 }
def f_X6_cell (u0 : Nat) (p1 : Int32) (p2 : Int32) (p3 : Int32) (σ : St) : Option (Unit × St) :=
  gd (isT σ u0) <|
  bd (f_X6_number p2 p3 σ) fun r1 s2 =>
  bd (f_X9_set u0 ((gf σ u0 3) - (1 : Int32)) p1 r1 s2) fun _ s5 =>
  some ((), s5)
theorem e_X6_cell {Γ : CX} (u0 : Nat) (p1 : Int32) (p2 : Int32) (p3 : Int32) (σ : St) (h : RR vU Γ (f_X6_cell u0 p1 p2 p3 σ)) : WW Γ cX6_cell 5 RX6 none rX6_cell σ 0 [(0, .ref (xd Γ 29)), (1, .ref (xd Γ u0)), (2, .int p1), (3, .int p2), (4, .int p3)] [] := by
  unfold f_X6_cell at h
  obtain ⟨hg_u0_σ, h⟩ := h.gd
  refine w_aload_n 1 dX6_cell_0 rfl rfl rfl ?_
  refine w_aload_n 1 dX6_cell_1 rfl rfl rfl ?_
  refine gf_RX6_149 (i := u0) hg_u0_σ dX6_cell_2 rfl ?_
  refine w_iconst (1 : Int32) dX6_cell_5 ic_iconst_1 rfl ?_
  refine w_isub dX6_cell_6 rfl ?_
  refine w_iload_n 2 dX6_cell_7 rfl rfl rfl ?_
  refine w_aload_n 0 dX6_cell_8 rfl rfl rfl ?_
  refine w_iload_n 3 dX6_cell_9 rfl rfl rfl ?_
  refine w_iload 4 dX6_cell_10 rfl rfl ?_
  obtain ⟨r1, s2, h3, h⟩ := h.bd
  refine k_X6_number ml_RX6_105 (Nat.le_of_ble_eq_true rfl) ⟨Nat.le_of_ble_eq_true rfl, Nat.le_of_ble_eq_true rfl⟩ dX6_cell_12 rfl h3 ?_
  obtain ⟨r4, s5, h6, h⟩ := h.bd
  refine k_X9_set ml_RX6_172 (Nat.le_of_ble_eq_true rfl) ⟨Nat.le_of_ble_eq_true rfl, Nat.le_of_ble_eq_true rfl⟩ dX6_cell_15 rfl h6 ?_
  exact w_return dX6_cell_18 h
theorem c_X6_cell {l : Launch} {D : va_G} {cy : Nat → ClassId} {ad : Nat → Nat} {u0 : Nat} {p1 : Int32} {p2 : Int32} {p3 : Int32} {σ σ' : St} {r : Unit} (hf : f_X6_cell u0 p1 p2 p3 σ = some (r, σ')) : CT l D cy ad yX6_cell cX6_cell 5 none rX6_cell [.ref (ad 29), .ref (ad u0), .int p1, .int p2, .int p3] σ none σ' :=
  ct_of (by decide) (Nat.le_of_ble_eq_true rfl) (fun p e s m args below meth c A => e_X6_cell (Γ := (p, l, e, rX6_cell, s, m, args, below, meth, c, D, cy, ad, A, 0, 0, (none, σ'))) u0 p1 p2 p3 σ ⟨_, hf, rfl⟩)
theorem k_X6_cell {Γ : CX} {cc : ByteArray} {nL : Nat} {own : String} {ret : Option FieldType} {rm : Room} {σ σ' : St} {pc pc' idx : Nat} {lv : List (Nat × Value)} {rest : List Value} {u0 : Nat} {p1 : Int32} {p2 : Int32} {p3 : Int32} {r : Unit} (hl : Cond.methodLink own idx yX6_cell ∈ TB) (hw : (rest.map fun v => v.category).sum ≤ 8) (hR : rX6_cell.frames + 1 ≤ rm.frames ∧ 8 + (5 + 11) + rX6_cell.locals ≤ rm.locals) (hd : decode cc pc = .ok (.invokevirtual idx, 3)) (hp : pc + 3 = pc') (hf : f_X6_cell u0 p1 p2 p3 σ = some (r, σ')) (h : WW Γ cc nL own ret rm σ' pc' lv (rest)) : WW Γ cc nL own ret rm σ pc lv (.int p3 :: .int p2 :: .int p1 :: .ref (xd Γ u0) :: .ref (xd Γ 29) :: rest) :=
  w_callV (nn := 4) (i := 29) (As := [.ref (xd Γ u0), .int p1, .int p2, .int p3]) (v := none) (T := TX6) (N := 9) (c_X6_cell hf) hl mw_X6_cell (by decide +kernel) ⟨rfl, rfl⟩ hR (lt_lit (by decide)) cel_29 rfl rfl hw hd rfl hp h
/-! WarByHours.Suspects.trainToWatch (I)I -/
def rX8_trainToWatch : Room := { frames := 4, cells := 0, slots := 0, locals := 90 }
def f_X8_trainToWatch_59 (K14 : Int32 × Int32 × Int32 × Int32 × St → Option (Int32 × St)) (v1 : Int32) (v2 : Int32) (v3 : Int32) (v4 : Int32) (σ : St) : Option (Int32 × St) :=
  bnd (v4 + (1 : Int32)) fun x1 =>
  K14 (v1, v2, v3, x1, σ)
theorem b_X8_trainToWatch_59 {Γ : CX} (K14 : Int32 × Int32 × Int32 × Int32 × St → Option (Int32 × St)) (hK14 : ∀ (v1 : Int32) (v2 : Int32) (v3 : Int32) (v4 : Int32) (σ : St), RR vI Γ (K14 (v1, v2, v3, v4, σ)) → WW Γ cX8_trainToWatch 6 RX8 (some .int) rX8_trainToWatch σ 14 [(0, .ref (xd Γ 49)), (1, .int v1), (2, .int v2), (3, .int v3), (4, .int v4)] []) (v1 : Int32) (v2 : Int32) (v3 : Int32) (v4 : Int32) (σ : St) (h : RR vI Γ (f_X8_trainToWatch_59 K14 v1 v2 v3 v4 σ)) : WW Γ cX8_trainToWatch 6 RX8 (some .int) rX8_trainToWatch σ 59 [(0, .ref (xd Γ 49)), (1, .int v1), (2, .int v2), (3, .int v3), (4, .int v4)] [] := by
  unfold f_X8_trainToWatch_59 at h
  obtain ⟨x1, ex1⟩ : ∃ y : Int32, y = (v4 + (1 : Int32)) := ⟨_, rfl⟩
  replace h := h.bnd ex1
  refine w_iinc 4 x1 [(4, .int x1), (0, .ref (xd Γ 49)), (1, .int v1), (2, .int v2), (3, .int v3)] dX8_trainToWatch_59 rfl (by rw [ex1, ic_iconst_1]) (by decide) rfl rfl ?_
  clear ex1
  refine w_goto (tgt := 14) dX8_trainToWatch_62 (by decide) ?_
  exact w_sub [1, 2, 3, 4, 0] rfl (hK14 v1 v2 v3 x1 σ h)
def g_X8_trainToWatch_14 (K14 : Int32 × Int32 × Int32 × Int32 × St → Option (Int32 × St)) (x : Int32 × Int32 × Int32 × Int32 × St) : Option (Int32 × St) := match x with
  | (v1, v2, v3, v4, σ) =>
  if (gf σ 3 3) ≤ v4 then
    some (v2, σ)
  else
    bd (f_X8_leftAtWorst v1 v4 σ) fun r1 s2 =>
    bd (f_X10_isIn v1 v4 s2) fun r4 s5 =>
    if r4 = 0 then
      if v3 ≤ r1 then
        f_X8_trainToWatch_59 K14 v1 v2 v3 v4 s5
      else
        f_X8_trainToWatch_59 K14 v1 v4 r1 v4 s5
    else
      f_X8_trainToWatch_59 K14 v1 v2 v3 v4 s5
theorem l_X8_trainToWatch_14 {Γ : CX} : ∀ (n : Nat) (v1 : Int32) (v2 : Int32) (v3 : Int32) (v4 : Int32) (σ : St), RR vI Γ (itr (g_X8_trainToWatch_14) n (v1, v2, v3, v4, σ)) → WW Γ cX8_trainToWatch 6 RX8 (some .int) rX8_trainToWatch σ 14 [(0, .ref (xd Γ 49)), (1, .int v1), (2, .int v2), (3, .int v3), (4, .int v4)] [] := by
  intro n
  induction n with
  | zero => intro v1 v2 v3 v4 σ h; exact RR.no h
  | succ n hK14 =>
  intro v1 v2 v3 v4 σ h
  have h : RR vI Γ (g_X8_trainToWatch_14 (itr (g_X8_trainToWatch_14) n) (v1, v2, v3, v4, σ)) := h
  generalize itr (g_X8_trainToWatch_14) n = K14 at h hK14
  unfold g_X8_trainToWatch_14 at h
  dsimp only at h
  refine w_iload 4 dX8_trainToWatch_14 rfl rfl ?_
  refine w_aload_n 0 dX8_trainToWatch_16 rfl rfl rfl ?_
  refine gf_RX8_9 dX8_trainToWatch_17 rfl ?_
  refine gf_RX8_39 (i := 1) (isW_lit (by decide)) dX8_trainToWatch_20 rfl ?_
  refine gf_RX8_21 (i := 3) (isT_lit (by decide)) dX8_trainToWatch_23 rfl ?_
  refine w_icmp_ge (tgt := 65) dX8_trainToWatch_26 (by decide) rfl (fun q => ?_) (fun q => ?_)
  · have h := h.tt q
    refine w_iload_n 2 dX8_trainToWatch_65 rfl rfl rfl ?_
    exact w_ireturn dX8_trainToWatch_66 h
  · have h := h.ff q
    refine w_aload_n 0 dX8_trainToWatch_29 rfl rfl rfl ?_
    refine w_iload_n 1 dX8_trainToWatch_30 rfl rfl rfl ?_
    refine w_iload 4 dX8_trainToWatch_31 rfl rfl ?_
    obtain ⟨r1, s2, h3, h⟩ := h.bd
    refine k_X8_leftAtWorst ml_RX8_42 (Nat.le_of_ble_eq_true rfl) ⟨Nat.le_of_ble_eq_true rfl, Nat.le_of_ble_eq_true rfl⟩ dX8_trainToWatch_33 rfl h3 ?_
    refine w_istore [(5, .int r1), (0, .ref (xd Γ 49)), (1, .int v1), (2, .int v2), (3, .int v3), (4, .int v4)] dX8_trainToWatch_36 (by decide) rfl rfl ?_
    refine w_iload_n 2 dX8_trainToWatch_38 rfl rfl rfl ?_
    refine w_iload 5 dX8_trainToWatch_39 rfl rfl ?_
    obtain ⟨r4, s5, h6, h⟩ := h.bd
    refine k_X10_isIn ml_RX8_46 (Nat.le_of_ble_eq_true rfl) ⟨Nat.le_of_ble_eq_true rfl, Nat.le_of_ble_eq_true rfl⟩ dX8_trainToWatch_41 rfl h6 ?_
    refine w_if_ne (tgt := 59) dX8_trainToWatch_44 (by decide) rfl (fun q => ?_) (fun q => ?_)
    · have h := h.ff q
      exact w_sub [1, 2, 3, 4, 5] rfl (b_X8_trainToWatch_59 K14 hK14 v1 v2 v3 v4 s5 h)
    · have h := h.tt q
      refine w_iload 0 dX8_trainToWatch_47 rfl rfl ?_
      refine w_iload_n 4 dX8_trainToWatch_49 rfl rfl rfl ?_
      refine w_icmp_ge (tgt := 59) dX8_trainToWatch_50 (by decide) rfl (fun q => ?_) (fun q => ?_)
      · have h := h.tt q
        exact w_sub [1, 2, 3, 4, 5] rfl (b_X8_trainToWatch_59 K14 hK14 v1 v2 v3 v4 s5 h)
      · have h := h.ff q
        refine w_iload 0 dX8_trainToWatch_53 rfl rfl ?_
        refine w_istore_n [(3, .int r1), (5, .int r1), (0, .ref (xd Γ 49)), (1, .int v1), (2, .int v2), (4, .int v4)] dX8_trainToWatch_55 rfl (by decide) rfl rfl ?_
        refine w_iload 5 dX8_trainToWatch_56 rfl rfl ?_
        refine w_istore_n [(2, .int v4), (3, .int r1), (5, .int r1), (0, .ref (xd Γ 49)), (1, .int v1), (4, .int v4)] dX8_trainToWatch_58 rfl (by decide) rfl rfl ?_
        exact w_sub [3, 4, 0, 1, 5] rfl (b_X8_trainToWatch_59 K14 hK14 v1 v4 r1 v4 s5 h)
def f_X8_trainToWatch (p0 : Int32) (σ : St) : Option (Int32 × St) :=
  bd (f_X8_fitting p0 σ) fun r1 s2 =>
  bd (f_J6_bitCount_0f7a4 r1 s2) fun r4 s5 =>
  itr (g_X8_trainToWatch_14) FU (p0, (-1 : Int32), r4, (0 : Int32), s5)
theorem e_X8_trainToWatch {Γ : CX} (p0 : Int32) (σ : St) (h : RR vI Γ (f_X8_trainToWatch p0 σ)) : WW Γ cX8_trainToWatch 6 RX8 (some .int) rX8_trainToWatch σ 0 [(0, .ref (xd Γ 49)), (1, .int p0)] [] := by
  unfold f_X8_trainToWatch at h
  refine w_iconst (-1 : Int32) dX8_trainToWatch_0 ic_iconst_m1 rfl ?_
  refine w_istore_n [(2, .int (-1 : Int32)), (0, .ref (xd Γ 49)), (1, .int p0)] dX8_trainToWatch_1 rfl (by decide) rfl rfl ?_
  refine w_aload_n 1 dX8_trainToWatch_2 rfl rfl rfl ?_
  refine w_iload_n 2 dX8_trainToWatch_3 rfl rfl rfl ?_
  obtain ⟨r1, s2, h3, h⟩ := h.bd
  refine k_X8_fitting ml_RX8_31 (Nat.le_of_ble_eq_true rfl) ⟨Nat.le_of_ble_eq_true rfl, Nat.le_of_ble_eq_true rfl⟩ dX8_trainToWatch_4 rfl h3 ?_
  obtain ⟨r4, s5, h6, h⟩ := h.bd
  refine k_J6_bitCount_0f7a4 ml_RX8_34 (Nat.le_of_ble_eq_true rfl) ⟨Nat.le_of_ble_eq_true rfl, Nat.le_of_ble_eq_true rfl⟩ dX8_trainToWatch_7 rfl h6 ?_
  refine w_istore_n [(3, .int r4), (2, .int (-1 : Int32)), (0, .ref (xd Γ 49)), (1, .int p0)] dX8_trainToWatch_10 rfl (by decide) rfl rfl ?_
  refine w_iconst (0 : Int32) dX8_trainToWatch_11 ic_iconst_0 rfl ?_
  refine w_istore [(4, .int (0 : Int32)), (3, .int r4), (2, .int (-1 : Int32)), (0, .ref (xd Γ 49)), (1, .int p0)] dX8_trainToWatch_12 (by decide) rfl rfl ?_
  exact w_sub [3, 4, 2, 1, 0] rfl (l_X8_trainToWatch_14 FU p0 (-1 : Int32) r4 (0 : Int32) s5 h)
theorem c_X8_trainToWatch {l : Launch} {D : va_G} {cy : Nat → ClassId} {ad : Nat → Nat} {p0 : Int32} {σ σ' : St} {r : Int32} (hf : f_X8_trainToWatch p0 σ = some (r, σ')) : CT l D cy ad yX8_trainToWatch cX8_trainToWatch 6 (some .int) rX8_trainToWatch [.ref (ad 49), .int p0] σ (some (.int r)) σ' :=
  ct_of (by decide) (Nat.le_of_ble_eq_true rfl) (fun p e s m args below meth c A => e_X8_trainToWatch (Γ := (p, l, e, rX8_trainToWatch, s, m, args, below, meth, c, D, cy, ad, A, 0, 0, ((some (.int r)), σ'))) p0 σ ⟨_, hf, rfl⟩)
theorem k_X8_trainToWatch {Γ : CX} {cc : ByteArray} {nL : Nat} {own : String} {ret : Option FieldType} {rm : Room} {σ σ' : St} {pc pc' idx : Nat} {lv : List (Nat × Value)} {rest : List Value} {p0 : Int32} {r : Int32} (hl : Cond.methodLink own idx yX8_trainToWatch ∈ TB) (hw : (rest.map fun v => v.category).sum ≤ 8) (hR : rX8_trainToWatch.frames + 1 ≤ rm.frames ∧ 8 + (6 + 11) + rX8_trainToWatch.locals ≤ rm.locals) (hd : decode cc pc = .ok (.invokevirtual idx, 3)) (hp : pc + 3 = pc') (hf : f_X8_trainToWatch p0 σ = some (r, σ')) (h : WW Γ cc nL own ret rm σ' pc' lv (.int r :: rest)) : WW Γ cc nL own ret rm σ pc lv (.int p0 :: .ref (xd Γ 49) :: rest) :=
  w_callV (nn := 1) (i := 49) (As := [.int p0]) (v := (some (.int r))) (T := TX8) (N := 1) (c_X8_trainToWatch hf) hl mw_X8_trainToWatch (by decide +kernel) ⟨rfl, rfl⟩ hR (lt_lit (by decide)) cel_49 rfl rfl hw hd rfl hp h
/-! WarByHours.worst (I)I -/
def rX11_worst : Room := { frames := 7, cells := 0, slots := 0, locals := 162 }
def f_X11_worst_33 (k0 : Int32) (σ : St) : Option (Int32 × St) :=
  some (k0, σ)
theorem b_X11_worst_33 {Γ : CX} (k0 : Int32) (σ : St) (h : RR vI Γ (f_X11_worst_33 k0 σ)) : WW Γ cX11_worst 2 RX11 (some .int) rX11_worst σ 33 [] [.int k0] := by
  unfold f_X11_worst_33 at h
  exact w_ireturn dX11_worst_33 h
def f_X11_worst (p0 : Int32) (σ : St) : Option (Int32 × St) :=
  bd (f_X10_hasSide 1 p0 σ) fun r1 s2 =>
  if r1 = 0 then
    f_X11_worst_33 (-1000 : Int32) s2
  else
    bd (f_X2_worstSet p0 s2) fun r4 s5 =>
    bd (f_X2_goodAtEnd p0 r4 s5) fun r7 s8 =>
    f_X11_worst_33 r7 s8
theorem e_X11_worst {Γ : CX} (p0 : Int32) (σ : St) (h : RR vI Γ (f_X11_worst p0 σ)) : WW Γ cX11_worst 2 RX11 (some .int) rX11_worst σ 0 [(0, .ref (xd Γ 0)), (1, .int p0)] [] := by
  unfold f_X11_worst at h
  refine w_aload_n 0 dX11_worst_0 rfl rfl rfl ?_
  refine gf_RX11_10 dX11_worst_1 rfl ?_
  refine w_iload_n 1 dX11_worst_4 rfl rfl rfl ?_
  obtain ⟨r1, s2, h3, h⟩ := h.bd
  refine k_X10_hasSide ml_RX11_126 (Nat.le_of_ble_eq_true rfl) ⟨Nat.le_of_ble_eq_true rfl, Nat.le_of_ble_eq_true rfl⟩ dX11_worst_5 rfl h3 ?_
  refine w_if_eq (tgt := 30) dX11_worst_8 (by decide) rfl (fun q => ?_) (fun q => ?_)
  · have h := h.tt q
    refine w_sipush (-1000 : Int32) dX11_worst_30 ic_sipush_m1000 rfl ?_
    exact w_sub [] rfl (b_X11_worst_33 (-1000 : Int32) s2 h)
  · have h := h.ff q
    refine w_aload_n 0 dX11_worst_11 rfl rfl rfl ?_
    refine gf_RX11_31 dX11_worst_12 rfl ?_
    refine w_iload_n 1 dX11_worst_15 rfl rfl rfl ?_
    refine w_aload_n 0 dX11_worst_16 rfl rfl rfl ?_
    refine gf_RX11_31 dX11_worst_17 rfl ?_
    refine w_iload_n 1 dX11_worst_20 rfl rfl rfl ?_
    obtain ⟨r4, s5, h6, h⟩ := h.bd
    refine k_X2_worstSet ml_RX11_181 (Nat.le_of_ble_eq_true rfl) ⟨Nat.le_of_ble_eq_true rfl, Nat.le_of_ble_eq_true rfl⟩ dX11_worst_21 rfl h6 ?_
    obtain ⟨r7, s8, h9, h⟩ := h.bd
    refine k_X2_goodAtEnd ml_RX11_184 (Nat.le_of_ble_eq_true rfl) ⟨Nat.le_of_ble_eq_true rfl, Nat.le_of_ble_eq_true rfl⟩ dX11_worst_24 rfl h9 ?_
    refine w_goto (tgt := 33) dX11_worst_27 (by decide) ?_
    exact w_sub [] rfl (b_X11_worst_33 r7 s8 h)
theorem c_X11_worst {l : Launch} {D : va_G} {cy : Nat → ClassId} {ad : Nat → Nat} {p0 : Int32} {σ σ' : St} {r : Int32} (hf : f_X11_worst p0 σ = some (r, σ')) : CT l D cy ad yX11_worst cX11_worst 2 (some .int) rX11_worst [.ref (ad 0), .int p0] σ (some (.int r)) σ' :=
  ct_of (by decide) (Nat.le_of_ble_eq_true rfl) (fun p e s m args below meth c A => e_X11_worst (Γ := (p, l, e, rX11_worst, s, m, args, below, meth, c, D, cy, ad, A, 0, 0, ((some (.int r)), σ'))) p0 σ ⟨_, hf, rfl⟩)
theorem k_X11_worst {Γ : CX} {cc : ByteArray} {nL : Nat} {own : String} {ret : Option FieldType} {rm : Room} {σ σ' : St} {pc pc' idx : Nat} {lv : List (Nat × Value)} {rest : List Value} {p0 : Int32} {r : Int32} (hl : Cond.methodLink own idx yX11_worst ∈ TB) (hw : (rest.map fun v => v.category).sum ≤ 8) (hR : rX11_worst.frames + 1 ≤ rm.frames ∧ 8 + (2 + 11) + rX11_worst.locals ≤ rm.locals) (hd : decode cc pc = .ok (.invokevirtual idx, 3)) (hp : pc + 3 = pc') (hf : f_X11_worst p0 σ = some (r, σ')) (h : WW Γ cc nL own ret rm σ' pc' lv (.int r :: rest)) : WW Γ cc nL own ret rm σ pc lv (.int p0 :: .ref (xd Γ 0) :: rest) :=
  w_callV (nn := 1) (i := 0) (As := [.int p0]) (v := (some (.int r))) (T := TX11) (N := 11) (c_X11_worst hf) hl mw_X11_worst (by decide +kernel) ⟨rfl, rfl⟩ hR (lt_lit (by decide)) cel_0 rfl rfl hw hd rfl hp h
/-! WarByHours.by (I)I -/
def rX11_by : Room := { frames := 7, cells := 0, slots := 0, locals := 162 }
def f_X11_by_24 (k0 : Int32) (σ : St) : Option (Int32 × St) :=
  some (k0, σ)
theorem b_X11_by_24 {Γ : CX} (k0 : Int32) (σ : St) (h : RR vI Γ (f_X11_by_24 k0 σ)) : WW Γ cX11_by 2 RX11 (some .int) rX11_by σ 24 [] [.int k0] := by
  unfold f_X11_by_24 at h
  exact w_ireturn dX11_by_24 h
def f_X11_by (p0 : Int32) (σ : St) : Option (Int32 × St) :=
  bd (f_X10_hasSide 1 p0 σ) fun r1 s2 =>
  if r1 = 0 then
    f_X11_by_24 (-2 : Int32) s2
  else
    bd (f_X2_worstSet p0 s2) fun r4 s5 =>
    f_X11_by_24 r4 s5
theorem e_X11_by {Γ : CX} (p0 : Int32) (σ : St) (h : RR vI Γ (f_X11_by p0 σ)) : WW Γ cX11_by 2 RX11 (some .int) rX11_by σ 0 [(0, .ref (xd Γ 0)), (1, .int p0)] [] := by
  unfold f_X11_by at h
  refine w_aload_n 0 dX11_by_0 rfl rfl rfl ?_
  refine gf_RX11_10 dX11_by_1 rfl ?_
  refine w_iload_n 1 dX11_by_4 rfl rfl rfl ?_
  obtain ⟨r1, s2, h3, h⟩ := h.bd
  refine k_X10_hasSide ml_RX11_126 (Nat.le_of_ble_eq_true rfl) ⟨Nat.le_of_ble_eq_true rfl, Nat.le_of_ble_eq_true rfl⟩ dX11_by_5 rfl h3 ?_
  refine w_if_eq (tgt := 22) dX11_by_8 (by decide) rfl (fun q => ?_) (fun q => ?_)
  · have h := h.tt q
    refine w_bipush (-2 : Int32) dX11_by_22 ic_bipush_m2 rfl ?_
    exact w_sub [] rfl (b_X11_by_24 (-2 : Int32) s2 h)
  · have h := h.ff q
    refine w_aload_n 0 dX11_by_11 rfl rfl rfl ?_
    refine gf_RX11_31 dX11_by_12 rfl ?_
    refine w_iload_n 1 dX11_by_15 rfl rfl rfl ?_
    obtain ⟨r4, s5, h6, h⟩ := h.bd
    refine k_X2_worstSet ml_RX11_181 (Nat.le_of_ble_eq_true rfl) ⟨Nat.le_of_ble_eq_true rfl, Nat.le_of_ble_eq_true rfl⟩ dX11_by_16 rfl h6 ?_
    refine w_goto (tgt := 24) dX11_by_19 (by decide) ?_
    exact w_sub [] rfl (b_X11_by_24 r4 s5 h)
theorem c_X11_by {l : Launch} {D : va_G} {cy : Nat → ClassId} {ad : Nat → Nat} {p0 : Int32} {σ σ' : St} {r : Int32} (hf : f_X11_by p0 σ = some (r, σ')) : CT l D cy ad yX11_by cX11_by 2 (some .int) rX11_by [.ref (ad 0), .int p0] σ (some (.int r)) σ' :=
  ct_of (by decide) (Nat.le_of_ble_eq_true rfl) (fun p e s m args below meth c A => e_X11_by (Γ := (p, l, e, rX11_by, s, m, args, below, meth, c, D, cy, ad, A, 0, 0, ((some (.int r)), σ'))) p0 σ ⟨_, hf, rfl⟩)
theorem k_X11_by {Γ : CX} {cc : ByteArray} {nL : Nat} {own : String} {ret : Option FieldType} {rm : Room} {σ σ' : St} {pc pc' idx : Nat} {lv : List (Nat × Value)} {rest : List Value} {p0 : Int32} {r : Int32} (hl : Cond.methodLink own idx yX11_by ∈ TB) (hw : (rest.map fun v => v.category).sum ≤ 8) (hR : rX11_by.frames + 1 ≤ rm.frames ∧ 8 + (2 + 11) + rX11_by.locals ≤ rm.locals) (hd : decode cc pc = .ok (.invokevirtual idx, 3)) (hp : pc + 3 = pc') (hf : f_X11_by p0 σ = some (r, σ')) (h : WW Γ cc nL own ret rm σ' pc' lv (.int r :: rest)) : WW Γ cc nL own ret rm σ pc lv (.int p0 :: .ref (xd Γ 0) :: rest) :=
  w_callV (nn := 1) (i := 0) (As := [.int p0]) (v := (some (.int r))) (T := TX11) (N := 11) (c_X11_by hf) hl mw_X11_by (by decide +kernel) ⟨rfl, rfl⟩ hR (lt_lit (by decide)) cel_0 rfl rfl hw hd rfl hp h
/-! WarByHours.ways (I)I -/
def rX11_ways : Room := { frames := 7, cells := 0, slots := 0, locals := 161 }
def f_X11_ways_24 (k0 : Int32) (σ : St) : Option (Int32 × St) :=
  some (k0, σ)
theorem b_X11_ways_24 {Γ : CX} (k0 : Int32) (σ : St) (h : RR vI Γ (f_X11_ways_24 k0 σ)) : WW Γ cX11_ways 2 RX11 (some .int) rX11_ways σ 24 [] [.int k0] := by
  unfold f_X11_ways_24 at h
  exact w_ireturn dX11_ways_24 h
def f_X11_ways (p0 : Int32) (σ : St) : Option (Int32 × St) :=
  bd (f_X10_hasSide 1 p0 σ) fun r1 s2 =>
  if r1 = 0 then
    f_X11_ways_24 (-2 : Int32) s2
  else
    bd (f_X2_countWays p0 s2) fun r4 s5 =>
    f_X11_ways_24 r4 s5
theorem e_X11_ways {Γ : CX} (p0 : Int32) (σ : St) (h : RR vI Γ (f_X11_ways p0 σ)) : WW Γ cX11_ways 2 RX11 (some .int) rX11_ways σ 0 [(0, .ref (xd Γ 0)), (1, .int p0)] [] := by
  unfold f_X11_ways at h
  refine w_aload_n 0 dX11_ways_0 rfl rfl rfl ?_
  refine gf_RX11_10 dX11_ways_1 rfl ?_
  refine w_iload_n 1 dX11_ways_4 rfl rfl rfl ?_
  obtain ⟨r1, s2, h3, h⟩ := h.bd
  refine k_X10_hasSide ml_RX11_126 (Nat.le_of_ble_eq_true rfl) ⟨Nat.le_of_ble_eq_true rfl, Nat.le_of_ble_eq_true rfl⟩ dX11_ways_5 rfl h3 ?_
  refine w_if_eq (tgt := 22) dX11_ways_8 (by decide) rfl (fun q => ?_) (fun q => ?_)
  · have h := h.tt q
    refine w_bipush (-2 : Int32) dX11_ways_22 ic_bipush_m2 rfl ?_
    exact w_sub [] rfl (b_X11_ways_24 (-2 : Int32) s2 h)
  · have h := h.ff q
    refine w_aload_n 0 dX11_ways_11 rfl rfl rfl ?_
    refine gf_RX11_31 dX11_ways_12 rfl ?_
    refine w_iload_n 1 dX11_ways_15 rfl rfl rfl ?_
    obtain ⟨r4, s5, h6, h⟩ := h.bd
    refine k_X2_countWays ml_RX11_187 (Nat.le_of_ble_eq_true rfl) ⟨Nat.le_of_ble_eq_true rfl, Nat.le_of_ble_eq_true rfl⟩ dX11_ways_16 rfl h6 ?_
    refine w_goto (tgt := 24) dX11_ways_19 (by decide) ?_
    exact w_sub [] rfl (b_X11_ways_24 r4 s5 h)
theorem c_X11_ways {l : Launch} {D : va_G} {cy : Nat → ClassId} {ad : Nat → Nat} {p0 : Int32} {σ σ' : St} {r : Int32} (hf : f_X11_ways p0 σ = some (r, σ')) : CT l D cy ad yX11_ways cX11_ways 2 (some .int) rX11_ways [.ref (ad 0), .int p0] σ (some (.int r)) σ' :=
  ct_of (by decide) (Nat.le_of_ble_eq_true rfl) (fun p e s m args below meth c A => e_X11_ways (Γ := (p, l, e, rX11_ways, s, m, args, below, meth, c, D, cy, ad, A, 0, 0, ((some (.int r)), σ'))) p0 σ ⟨_, hf, rfl⟩)
theorem k_X11_ways {Γ : CX} {cc : ByteArray} {nL : Nat} {own : String} {ret : Option FieldType} {rm : Room} {σ σ' : St} {pc pc' idx : Nat} {lv : List (Nat × Value)} {rest : List Value} {p0 : Int32} {r : Int32} (hl : Cond.methodLink own idx yX11_ways ∈ TB) (hw : (rest.map fun v => v.category).sum ≤ 8) (hR : rX11_ways.frames + 1 ≤ rm.frames ∧ 8 + (2 + 11) + rX11_ways.locals ≤ rm.locals) (hd : decode cc pc = .ok (.invokevirtual idx, 3)) (hp : pc + 3 = pc') (hf : f_X11_ways p0 σ = some (r, σ')) (h : WW Γ cc nL own ret rm σ' pc' lv (.int r :: rest)) : WW Γ cc nL own ret rm σ pc lv (.int p0 :: .ref (xd Γ 0) :: rest) :=
  w_callV (nn := 1) (i := 0) (As := [.int p0]) (v := (some (.int r))) (T := TX11) (N := 11) (c_X11_ways hf) hl mw_X11_ways (by decide +kernel) ⟨rfl, rfl⟩ hR (lt_lit (by decide)) cel_0 rfl rfl hw hd rfl hp h
/-! WarByHours.idle ()I -/
def rX11_idle : Room := { frames := 7, cells := 0, slots := 0, locals := 160 }
def f_X11_idle_22 (k0 : Int32) (σ : St) : Option (Int32 × St) :=
  some (k0, σ)
theorem b_X11_idle_22 {Γ : CX} (k0 : Int32) (σ : St) (h : RR vI Γ (f_X11_idle_22 k0 σ)) : WW Γ cX11_idle 1 RX11 (some .int) rX11_idle σ 22 [] [.int k0] := by
  unfold f_X11_idle_22 at h
  exact w_ireturn dX11_idle_22 h
def f_X11_idle (σ : St) : Option (Int32 × St) :=
  bd (f_X10_isTold 1 σ) fun r1 s2 =>
  if r1 = 0 then
    f_X11_idle_22 (-2 : Int32) s2
  else
    bd (f_X2_idleTrains s2) fun r4 s5 =>
    f_X11_idle_22 r4 s5
theorem e_X11_idle {Γ : CX} (σ : St) (h : RR vI Γ (f_X11_idle σ)) : WW Γ cX11_idle 1 RX11 (some .int) rX11_idle σ 0 [(0, .ref (xd Γ 0))] [] := by
  unfold f_X11_idle at h
  refine w_aload_n 0 dX11_idle_0 rfl rfl rfl ?_
  refine gf_RX11_10 dX11_idle_1 rfl ?_
  obtain ⟨r1, s2, h3, h⟩ := h.bd
  refine k_X10_isTold ml_RX11_133 (Nat.le_of_ble_eq_true rfl) ⟨Nat.le_of_ble_eq_true rfl, Nat.le_of_ble_eq_true rfl⟩ dX11_idle_4 rfl h3 ?_
  refine w_if_eq (tgt := 20) dX11_idle_7 (by decide) rfl (fun q => ?_) (fun q => ?_)
  · have h := h.tt q
    refine w_bipush (-2 : Int32) dX11_idle_20 ic_bipush_m2 rfl ?_
    exact w_sub [] rfl (b_X11_idle_22 (-2 : Int32) s2 h)
  · have h := h.ff q
    refine w_aload_n 0 dX11_idle_10 rfl rfl rfl ?_
    refine gf_RX11_31 dX11_idle_11 rfl ?_
    obtain ⟨r4, s5, h6, h⟩ := h.bd
    refine k_X2_idleTrains ml_RX11_190 (Nat.le_of_ble_eq_true rfl) ⟨Nat.le_of_ble_eq_true rfl, Nat.le_of_ble_eq_true rfl⟩ dX11_idle_14 rfl h6 ?_
    refine w_goto (tgt := 22) dX11_idle_17 (by decide) ?_
    exact w_sub [] rfl (b_X11_idle_22 r4 s5 h)
theorem c_X11_idle {l : Launch} {D : va_G} {cy : Nat → ClassId} {ad : Nat → Nat}  {σ σ' : St} {r : Int32} (hf : f_X11_idle σ = some (r, σ')) : CT l D cy ad yX11_idle cX11_idle 1 (some .int) rX11_idle [.ref (ad 0)] σ (some (.int r)) σ' :=
  ct_of (by decide) (Nat.le_of_ble_eq_true rfl) (fun p e s m args below meth c A => e_X11_idle (Γ := (p, l, e, rX11_idle, s, m, args, below, meth, c, D, cy, ad, A, 0, 0, ((some (.int r)), σ'))) σ ⟨_, hf, rfl⟩)
theorem k_X11_idle {Γ : CX} {cc : ByteArray} {nL : Nat} {own : String} {ret : Option FieldType} {rm : Room} {σ σ' : St} {pc pc' idx : Nat} {lv : List (Nat × Value)} {rest : List Value}  {r : Int32} (hl : Cond.methodLink own idx yX11_idle ∈ TB) (hw : (rest.map fun v => v.category).sum ≤ 8) (hR : rX11_idle.frames + 1 ≤ rm.frames ∧ 8 + (1 + 11) + rX11_idle.locals ≤ rm.locals) (hd : decode cc pc = .ok (.invokevirtual idx, 3)) (hp : pc + 3 = pc') (hf : f_X11_idle σ = some (r, σ')) (h : WW Γ cc nL own ret rm σ' pc' lv (.int r :: rest)) : WW Γ cc nL own ret rm σ pc lv (.ref (xd Γ 0) :: rest) :=
  w_callV (nn := 0) (i := 0) (As := []) (v := (some (.int r))) (T := TX11) (N := 11) (c_X11_idle hf) hl mw_X11_idle (by decide +kernel) ⟨rfl, rfl⟩ hR (lt_lit (by decide)) cel_0 rfl rfl hw hd rfl hp h
/-! WarByHours.enough (II)J -/
def rX11_enough : Room := { frames := 5, cells := 0, slots := 0, locals := 114 }
def f_X11_enough_18 (σ : St) : Option (Int64 × St) :=
  some ((-2 : Int64), σ)
theorem b_X11_enough_18 {Γ : CX} (σ : St) (h : RR vL Γ (f_X11_enough_18 σ)) : WW Γ cX11_enough 3 RX11 (some .long) rX11_enough σ 18 [] [] := by
  unfold f_X11_enough_18 at h
  refine w_ldc2_w (-2 : Int64) dX11_enough_18 cl_RX11_196 rfl ?_
  exact w_lreturn dX11_enough_21 h
def f_X11_enough (p0 : Int32) (p1 : Int32) (σ : St) : Option (Int64 × St) :=
  bd (f_X10_hasSide 1 p0 σ) fun r1 s2 =>
  if r1 = 0 then
    f_X11_enough_18 s2
  else
    bd (f_X11_isPart p1 s2) fun r4 s5 =>
    if r4 = 0 then
      f_X11_enough_18 s5
    else
      bd (f_X3_enoughParts p0 s5) fun r7 s8 =>
      bd (f_X10_trainsOf 1 p0 s8) fun r10 s11 =>
      bd (f_J6_bitCount_0f7a4 r10 s11) fun r13 s14 =>
      bd (f_X1_hundreds r13 s14) fun r16 s17 =>
      bd (f_X1_lowest r7 r16 p1 s17) fun r19 s20 =>
      some (r19, s20)
theorem e_X11_enough {Γ : CX} (p0 : Int32) (p1 : Int32) (σ : St) (h : RR vL Γ (f_X11_enough p0 p1 σ)) : WW Γ cX11_enough 3 RX11 (some .long) rX11_enough σ 0 [(0, .ref (xd Γ 0)), (1, .int p0), (2, .int p1)] [] := by
  unfold f_X11_enough at h
  refine w_aload_n 0 dX11_enough_0 rfl rfl rfl ?_
  refine gf_RX11_10 dX11_enough_1 rfl ?_
  refine w_iload_n 1 dX11_enough_4 rfl rfl rfl ?_
  obtain ⟨r1, s2, h3, h⟩ := h.bd
  refine k_X10_hasSide ml_RX11_126 (Nat.le_of_ble_eq_true rfl) ⟨Nat.le_of_ble_eq_true rfl, Nat.le_of_ble_eq_true rfl⟩ dX11_enough_5 rfl h3 ?_
  refine w_if_eq (tgt := 18) dX11_enough_8 (by decide) rfl (fun q => ?_) (fun q => ?_)
  · have h := h.tt q
    exact w_sub [] rfl (b_X11_enough_18 s2 h)
  · have h := h.ff q
    refine w_iload_n 2 dX11_enough_11 rfl rfl rfl ?_
    obtain ⟨r4, s5, h6, h⟩ := h.bd
    refine k_X11_isPart ml_RX11_193 (Nat.le_of_ble_eq_true rfl) ⟨Nat.le_of_ble_eq_true rfl, Nat.le_of_ble_eq_true rfl⟩ dX11_enough_12 rfl h6 ?_
    refine w_if_ne (tgt := 22) dX11_enough_15 (by decide) rfl (fun q => ?_) (fun q => ?_)
    · have h := h.ff q
      refine w_aload_n 0 dX11_enough_22 rfl rfl rfl ?_
      refine gf_RX11_40 dX11_enough_23 rfl ?_
      refine w_iload_n 1 dX11_enough_26 rfl rfl rfl ?_
      obtain ⟨r7, s8, h9, h⟩ := h.bd
      refine k_X3_enoughParts ml_RX11_198 (Nat.le_of_ble_eq_true rfl) ⟨Nat.le_of_ble_eq_true rfl, Nat.le_of_ble_eq_true rfl⟩ dX11_enough_27 rfl h9 ?_
      refine w_aload_n 0 dX11_enough_30 rfl rfl rfl ?_
      refine gf_RX11_10 dX11_enough_31 rfl ?_
      refine w_iload_n 1 dX11_enough_34 rfl rfl rfl ?_
      obtain ⟨r10, s11, h12, h⟩ := h.bd
      refine k_X10_trainsOf ml_RX11_202 (Nat.le_of_ble_eq_true rfl) ⟨Nat.le_of_ble_eq_true rfl, Nat.le_of_ble_eq_true rfl⟩ dX11_enough_35 rfl h12 ?_
      obtain ⟨r13, s14, h15, h⟩ := h.bd
      refine k_J6_bitCount_0f7a4 ml_RX11_205 (Nat.le_of_ble_eq_true rfl) ⟨Nat.le_of_ble_eq_true rfl, Nat.le_of_ble_eq_true rfl⟩ dX11_enough_38 rfl h15 ?_
      obtain ⟨r16, s17, h18, h⟩ := h.bd
      refine k_X1_hundreds ml_RX11_210 (Nat.le_of_ble_eq_true rfl) ⟨Nat.le_of_ble_eq_true rfl, Nat.le_of_ble_eq_true rfl⟩ dX11_enough_41 rfl h18 ?_
      refine w_iload_n 2 dX11_enough_44 rfl rfl rfl ?_
      obtain ⟨r19, s20, h21, h⟩ := h.bd
      refine k_X1_lowest ml_RX11_215 (Nat.le_of_ble_eq_true rfl) ⟨Nat.le_of_ble_eq_true rfl, Nat.le_of_ble_eq_true rfl⟩ dX11_enough_45 rfl h21 ?_
      exact w_lreturn dX11_enough_48 h
    · have h := h.tt q
      exact w_sub [] rfl (b_X11_enough_18 s5 h)
theorem c_X11_enough {l : Launch} {D : va_G} {cy : Nat → ClassId} {ad : Nat → Nat} {p0 : Int32} {p1 : Int32} {σ σ' : St} {r : Int64} (hf : f_X11_enough p0 p1 σ = some (r, σ')) : CT l D cy ad yX11_enough cX11_enough 3 (some .long) rX11_enough [.ref (ad 0), .int p0, .int p1] σ (some (.long r)) σ' :=
  ct_of (by decide) (Nat.le_of_ble_eq_true rfl) (fun p e s m args below meth c A => e_X11_enough (Γ := (p, l, e, rX11_enough, s, m, args, below, meth, c, D, cy, ad, A, 0, 0, ((some (.long r)), σ'))) p0 p1 σ ⟨_, hf, rfl⟩)
theorem k_X11_enough {Γ : CX} {cc : ByteArray} {nL : Nat} {own : String} {ret : Option FieldType} {rm : Room} {σ σ' : St} {pc pc' idx : Nat} {lv : List (Nat × Value)} {rest : List Value} {p0 : Int32} {p1 : Int32} {r : Int64} (hl : Cond.methodLink own idx yX11_enough ∈ TB) (hw : (rest.map fun v => v.category).sum ≤ 8) (hR : rX11_enough.frames + 1 ≤ rm.frames ∧ 8 + (3 + 11) + rX11_enough.locals ≤ rm.locals) (hd : decode cc pc = .ok (.invokevirtual idx, 3)) (hp : pc + 3 = pc') (hf : f_X11_enough p0 p1 σ = some (r, σ')) (h : WW Γ cc nL own ret rm σ' pc' lv (.long r :: rest)) : WW Γ cc nL own ret rm σ pc lv (.int p1 :: .int p0 :: .ref (xd Γ 0) :: rest) :=
  w_callV (nn := 2) (i := 0) (As := [.int p0, .int p1]) (v := (some (.long r))) (T := TX11) (N := 11) (c_X11_enough hf) hl mw_X11_enough (by decide +kernel) ⟨rfl, rfl⟩ hR (lt_lit (by decide)) cel_0 rfl rfl hw hd rfl hp h
/-! WarByHours.chance (II)J -/
def rX11_chance : Room := { frames := 7, cells := 0, slots := 0, locals := 162 }
def f_X11_chance_18 (σ : St) : Option (Int64 × St) :=
  some ((-2 : Int64), σ)
theorem b_X11_chance_18 {Γ : CX} (σ : St) (h : RR vL Γ (f_X11_chance_18 σ)) : WW Γ cX11_chance 3 RX11 (some .long) rX11_chance σ 18 [] [] := by
  unfold f_X11_chance_18 at h
  refine w_ldc2_w (-2 : Int64) dX11_chance_18 cl_RX11_196 rfl ?_
  exact w_lreturn dX11_chance_21 h
def f_X11_chance (p0 : Int32) (p1 : Int32) (σ : St) : Option (Int64 × St) :=
  bd (f_X10_hasSide 1 p0 σ) fun r1 s2 =>
  if r1 = 0 then
    f_X11_chance_18 s2
  else
    bd (f_X11_isPart p1 s2) fun r4 s5 =>
    if r4 = 0 then
      f_X11_chance_18 s5
    else
      bd (f_X2_winningParts p0 s5) fun r7 s8 =>
      bd (f_X1_hundreds (gf s8 3 3) s8) fun r10 s11 =>
      bd (f_X1_lowest r7 r10 p1 s11) fun r13 s14 =>
      some (r13, s14)
theorem e_X11_chance {Γ : CX} (p0 : Int32) (p1 : Int32) (σ : St) (h : RR vL Γ (f_X11_chance p0 p1 σ)) : WW Γ cX11_chance 3 RX11 (some .long) rX11_chance σ 0 [(0, .ref (xd Γ 0)), (1, .int p0), (2, .int p1)] [] := by
  unfold f_X11_chance at h
  refine w_aload_n 0 dX11_chance_0 rfl rfl rfl ?_
  refine gf_RX11_10 dX11_chance_1 rfl ?_
  refine w_iload_n 1 dX11_chance_4 rfl rfl rfl ?_
  obtain ⟨r1, s2, h3, h⟩ := h.bd
  refine k_X10_hasSide ml_RX11_126 (Nat.le_of_ble_eq_true rfl) ⟨Nat.le_of_ble_eq_true rfl, Nat.le_of_ble_eq_true rfl⟩ dX11_chance_5 rfl h3 ?_
  refine w_if_eq (tgt := 18) dX11_chance_8 (by decide) rfl (fun q => ?_) (fun q => ?_)
  · have h := h.tt q
    exact w_sub [] rfl (b_X11_chance_18 s2 h)
  · have h := h.ff q
    refine w_iload_n 2 dX11_chance_11 rfl rfl rfl ?_
    obtain ⟨r4, s5, h6, h⟩ := h.bd
    refine k_X11_isPart ml_RX11_193 (Nat.le_of_ble_eq_true rfl) ⟨Nat.le_of_ble_eq_true rfl, Nat.le_of_ble_eq_true rfl⟩ dX11_chance_12 rfl h6 ?_
    refine w_if_ne (tgt := 22) dX11_chance_15 (by decide) rfl (fun q => ?_) (fun q => ?_)
    · have h := h.ff q
      refine w_aload_n 0 dX11_chance_22 rfl rfl rfl ?_
      refine gf_RX11_31 dX11_chance_23 rfl ?_
      refine w_iload_n 1 dX11_chance_26 rfl rfl rfl ?_
      obtain ⟨r7, s8, h9, h⟩ := h.bd
      refine k_X2_winningParts ml_RX11_219 (Nat.le_of_ble_eq_true rfl) ⟨Nat.le_of_ble_eq_true rfl, Nat.le_of_ble_eq_true rfl⟩ dX11_chance_27 rfl h9 ?_
      refine w_aload_n 0 dX11_chance_30 rfl rfl rfl ?_
      refine gf_RX11_10 dX11_chance_31 rfl ?_
      refine gf_RX11_116 (i := 1) (isW_lit (by decide)) dX11_chance_34 rfl ?_
      refine gf_RX11_222 (i := 3) (isT_lit (by decide)) dX11_chance_37 rfl ?_
      obtain ⟨r10, s11, h12, h⟩ := h.bd
      refine k_X1_hundreds ml_RX11_210 (Nat.le_of_ble_eq_true rfl) ⟨Nat.le_of_ble_eq_true rfl, Nat.le_of_ble_eq_true rfl⟩ dX11_chance_40 rfl h12 ?_
      refine w_iload_n 2 dX11_chance_43 rfl rfl rfl ?_
      obtain ⟨r13, s14, h15, h⟩ := h.bd
      refine k_X1_lowest ml_RX11_215 (Nat.le_of_ble_eq_true rfl) ⟨Nat.le_of_ble_eq_true rfl, Nat.le_of_ble_eq_true rfl⟩ dX11_chance_44 rfl h15 ?_
      exact w_lreturn dX11_chance_47 h
    · have h := h.tt q
      exact w_sub [] rfl (b_X11_chance_18 s5 h)
theorem c_X11_chance {l : Launch} {D : va_G} {cy : Nat → ClassId} {ad : Nat → Nat} {p0 : Int32} {p1 : Int32} {σ σ' : St} {r : Int64} (hf : f_X11_chance p0 p1 σ = some (r, σ')) : CT l D cy ad yX11_chance cX11_chance 3 (some .long) rX11_chance [.ref (ad 0), .int p0, .int p1] σ (some (.long r)) σ' :=
  ct_of (by decide) (Nat.le_of_ble_eq_true rfl) (fun p e s m args below meth c A => e_X11_chance (Γ := (p, l, e, rX11_chance, s, m, args, below, meth, c, D, cy, ad, A, 0, 0, ((some (.long r)), σ'))) p0 p1 σ ⟨_, hf, rfl⟩)
theorem k_X11_chance {Γ : CX} {cc : ByteArray} {nL : Nat} {own : String} {ret : Option FieldType} {rm : Room} {σ σ' : St} {pc pc' idx : Nat} {lv : List (Nat × Value)} {rest : List Value} {p0 : Int32} {p1 : Int32} {r : Int64} (hl : Cond.methodLink own idx yX11_chance ∈ TB) (hw : (rest.map fun v => v.category).sum ≤ 8) (hR : rX11_chance.frames + 1 ≤ rm.frames ∧ 8 + (3 + 11) + rX11_chance.locals ≤ rm.locals) (hd : decode cc pc = .ok (.invokevirtual idx, 3)) (hp : pc + 3 = pc') (hf : f_X11_chance p0 p1 σ = some (r, σ')) (h : WW Γ cc nL own ret rm σ' pc' lv (.long r :: rest)) : WW Γ cc nL own ret rm σ pc lv (.int p1 :: .int p0 :: .ref (xd Γ 0) :: rest) :=
  w_callV (nn := 2) (i := 0) (As := [.int p0, .int p1]) (v := (some (.long r))) (T := TX11) (N := 11) (c_X11_chance hf) hl mw_X11_chance (by decide +kernel) ⟨rfl, rfl⟩ hR (lt_lit (by decide)) cel_0 rfl rfl hw hd rfl hp h
/-! WarByHours.answer (II)I -/
def rX11_answer : Room := { frames := 7, cells := 0, slots := 0, locals := 163 }
def f_X11_answer_24 (k0 : Int32) (σ : St) : Option (Int32 × St) :=
  some (k0, σ)
theorem b_X11_answer_24 {Γ : CX} (k0 : Int32) (σ : St) (h : RR vI Γ (f_X11_answer_24 k0 σ)) : WW Γ cX11_answer 3 RX11 (some .int) rX11_answer σ 24 [] [.int k0] := by
  unfold f_X11_answer_24 at h
  exact w_ireturn dX11_answer_24 h
def f_X11_answer (p0 : Int32) (p1 : Int32) (σ : St) : Option (Int32 × St) :=
  bd (f_X11_isPurse p0 p1 σ) fun r1 s2 =>
  if r1 = 0 then
    f_X11_answer_24 (-1000 : Int32) s2
  else
    bd (f_X3_answeredGood p0 p1 s2) fun r4 s5 =>
    f_X11_answer_24 r4 s5
theorem e_X11_answer {Γ : CX} (p0 : Int32) (p1 : Int32) (σ : St) (h : RR vI Γ (f_X11_answer p0 p1 σ)) : WW Γ cX11_answer 3 RX11 (some .int) rX11_answer σ 0 [(0, .ref (xd Γ 0)), (1, .int p0), (2, .int p1)] [] := by
  unfold f_X11_answer at h
  refine w_aload_n 0 dX11_answer_0 rfl rfl rfl ?_
  refine w_iload_n 1 dX11_answer_1 rfl rfl rfl ?_
  refine w_iload_n 2 dX11_answer_2 rfl rfl rfl ?_
  obtain ⟨r1, s2, h3, h⟩ := h.bd
  refine k_X11_isPurse ml_RX11_247 (Nat.le_of_ble_eq_true rfl) ⟨Nat.le_of_ble_eq_true rfl, Nat.le_of_ble_eq_true rfl⟩ dX11_answer_3 rfl h3 ?_
  refine w_if_eq (tgt := 21) dX11_answer_6 (by decide) rfl (fun q => ?_) (fun q => ?_)
  · have h := h.tt q
    refine w_sipush (-1000 : Int32) dX11_answer_21 ic_sipush_m1000 rfl ?_
    exact w_sub [] rfl (b_X11_answer_24 (-1000 : Int32) s2 h)
  · have h := h.ff q
    refine w_aload_n 0 dX11_answer_9 rfl rfl rfl ?_
    refine gf_RX11_40 dX11_answer_10 rfl ?_
    refine w_iload_n 1 dX11_answer_13 rfl rfl rfl ?_
    refine w_iload_n 2 dX11_answer_14 rfl rfl rfl ?_
    obtain ⟨r4, s5, h6, h⟩ := h.bd
    refine k_X3_answeredGood ml_RX11_253 (Nat.le_of_ble_eq_true rfl) ⟨Nat.le_of_ble_eq_true rfl, Nat.le_of_ble_eq_true rfl⟩ dX11_answer_15 rfl h6 ?_
    refine w_goto (tgt := 24) dX11_answer_18 (by decide) ?_
    exact w_sub [] rfl (b_X11_answer_24 r4 s5 h)
theorem c_X11_answer {l : Launch} {D : va_G} {cy : Nat → ClassId} {ad : Nat → Nat} {p0 : Int32} {p1 : Int32} {σ σ' : St} {r : Int32} (hf : f_X11_answer p0 p1 σ = some (r, σ')) : CT l D cy ad yX11_answer cX11_answer 3 (some .int) rX11_answer [.ref (ad 0), .int p0, .int p1] σ (some (.int r)) σ' :=
  ct_of (by decide) (Nat.le_of_ble_eq_true rfl) (fun p e s m args below meth c A => e_X11_answer (Γ := (p, l, e, rX11_answer, s, m, args, below, meth, c, D, cy, ad, A, 0, 0, ((some (.int r)), σ'))) p0 p1 σ ⟨_, hf, rfl⟩)
theorem k_X11_answer {Γ : CX} {cc : ByteArray} {nL : Nat} {own : String} {ret : Option FieldType} {rm : Room} {σ σ' : St} {pc pc' idx : Nat} {lv : List (Nat × Value)} {rest : List Value} {p0 : Int32} {p1 : Int32} {r : Int32} (hl : Cond.methodLink own idx yX11_answer ∈ TB) (hw : (rest.map fun v => v.category).sum ≤ 8) (hR : rX11_answer.frames + 1 ≤ rm.frames ∧ 8 + (3 + 11) + rX11_answer.locals ≤ rm.locals) (hd : decode cc pc = .ok (.invokevirtual idx, 3)) (hp : pc + 3 = pc') (hf : f_X11_answer p0 p1 σ = some (r, σ')) (h : WW Γ cc nL own ret rm σ' pc' lv (.int r :: rest)) : WW Γ cc nL own ret rm σ pc lv (.int p1 :: .int p0 :: .ref (xd Γ 0) :: rest) :=
  w_callV (nn := 2) (i := 0) (As := [.int p0, .int p1]) (v := (some (.int r))) (T := TX11) (N := 11) (c_X11_answer hf) hl mw_X11_answer (by decide +kernel) ⟨rfl, rfl⟩ hR (lt_lit (by decide)) cel_0 rfl rfl hw hd rfl hp h
/-! WarByHours.rests (I)I -/
def rX11_rests : Room := { frames := 7, cells := 0, slots := 0, locals := 163 }
def f_X11_rests_22 (k0 : Int32) (σ : St) : Option (Int32 × St) :=
  some (k0, σ)
theorem b_X11_rests_22 {Γ : CX} (k0 : Int32) (σ : St) (h : RR vI Γ (f_X11_rests_22 k0 σ)) : WW Γ cX11_rests 2 RX11 (some .int) rX11_rests σ 22 [] [.int k0] := by
  unfold f_X11_rests_22 at h
  exact w_ireturn dX11_rests_22 h
def f_X11_rests (p0 : Int32) (σ : St) : Option (Int32 × St) :=
  bd (f_X11_isPurse (0 : Int32) p0 σ) fun r1 s2 =>
  if r1 = 0 then
    f_X11_rests_22 (-2 : Int32) s2
  else
    bd (f_X3_countRests p0 s2) fun r4 s5 =>
    f_X11_rests_22 r4 s5
theorem e_X11_rests {Γ : CX} (p0 : Int32) (σ : St) (h : RR vI Γ (f_X11_rests p0 σ)) : WW Γ cX11_rests 2 RX11 (some .int) rX11_rests σ 0 [(0, .ref (xd Γ 0)), (1, .int p0)] [] := by
  unfold f_X11_rests at h
  refine w_aload_n 0 dX11_rests_0 rfl rfl rfl ?_
  refine w_iconst (0 : Int32) dX11_rests_1 ic_iconst_0 rfl ?_
  refine w_iload_n 1 dX11_rests_2 rfl rfl rfl ?_
  obtain ⟨r1, s2, h3, h⟩ := h.bd
  refine k_X11_isPurse ml_RX11_247 (Nat.le_of_ble_eq_true rfl) ⟨Nat.le_of_ble_eq_true rfl, Nat.le_of_ble_eq_true rfl⟩ dX11_rests_3 rfl h3 ?_
  refine w_if_eq (tgt := 20) dX11_rests_6 (by decide) rfl (fun q => ?_) (fun q => ?_)
  · have h := h.tt q
    refine w_bipush (-2 : Int32) dX11_rests_20 ic_bipush_m2 rfl ?_
    exact w_sub [] rfl (b_X11_rests_22 (-2 : Int32) s2 h)
  · have h := h.ff q
    refine w_aload_n 0 dX11_rests_9 rfl rfl rfl ?_
    refine gf_RX11_40 dX11_rests_10 rfl ?_
    refine w_iload_n 1 dX11_rests_13 rfl rfl rfl ?_
    obtain ⟨r4, s5, h6, h⟩ := h.bd
    refine k_X3_countRests ml_RX11_256 (Nat.le_of_ble_eq_true rfl) ⟨Nat.le_of_ble_eq_true rfl, Nat.le_of_ble_eq_true rfl⟩ dX11_rests_14 rfl h6 ?_
    refine w_goto (tgt := 22) dX11_rests_17 (by decide) ?_
    exact w_sub [] rfl (b_X11_rests_22 r4 s5 h)
theorem c_X11_rests {l : Launch} {D : va_G} {cy : Nat → ClassId} {ad : Nat → Nat} {p0 : Int32} {σ σ' : St} {r : Int32} (hf : f_X11_rests p0 σ = some (r, σ')) : CT l D cy ad yX11_rests cX11_rests 2 (some .int) rX11_rests [.ref (ad 0), .int p0] σ (some (.int r)) σ' :=
  ct_of (by decide) (Nat.le_of_ble_eq_true rfl) (fun p e s m args below meth c A => e_X11_rests (Γ := (p, l, e, rX11_rests, s, m, args, below, meth, c, D, cy, ad, A, 0, 0, ((some (.int r)), σ'))) p0 σ ⟨_, hf, rfl⟩)
theorem k_X11_rests {Γ : CX} {cc : ByteArray} {nL : Nat} {own : String} {ret : Option FieldType} {rm : Room} {σ σ' : St} {pc pc' idx : Nat} {lv : List (Nat × Value)} {rest : List Value} {p0 : Int32} {r : Int32} (hl : Cond.methodLink own idx yX11_rests ∈ TB) (hw : (rest.map fun v => v.category).sum ≤ 8) (hR : rX11_rests.frames + 1 ≤ rm.frames ∧ 8 + (2 + 11) + rX11_rests.locals ≤ rm.locals) (hd : decode cc pc = .ok (.invokevirtual idx, 3)) (hp : pc + 3 = pc') (hf : f_X11_rests p0 σ = some (r, σ')) (h : WW Γ cc nL own ret rm σ' pc' lv (.int r :: rest)) : WW Γ cc nL own ret rm σ pc lv (.int p0 :: .ref (xd Γ 0) :: rest) :=
  w_callV (nn := 1) (i := 0) (As := [.int p0]) (v := (some (.int r))) (T := TX11) (N := 11) (c_X11_rests hf) hl mw_X11_rests (by decide +kernel) ⟨rfl, rfl⟩ hR (lt_lit (by decide)) cel_0 rfl rfl hw hd rfl hp h
/-! WarByHours.watch (I)I -/
def rX11_watch : Room := { frames := 5, cells := 0, slots := 0, locals := 115 }
def f_X11_watch_24 (k0 : Int32) (σ : St) : Option (Int32 × St) :=
  some (k0, σ)
theorem b_X11_watch_24 {Γ : CX} (k0 : Int32) (σ : St) (h : RR vI Γ (f_X11_watch_24 k0 σ)) : WW Γ cX11_watch 2 RX11 (some .int) rX11_watch σ 24 [] [.int k0] := by
  unfold f_X11_watch_24 at h
  exact w_ireturn dX11_watch_24 h
def f_X11_watch (p0 : Int32) (σ : St) : Option (Int32 × St) :=
  bd (f_X10_hasSet 1 p0 σ) fun r1 s2 =>
  if r1 = 0 then
    f_X11_watch_24 (-2 : Int32) s2
  else
    bd (f_X8_trainToWatch p0 s2) fun r4 s5 =>
    f_X11_watch_24 r4 s5
theorem e_X11_watch {Γ : CX} (p0 : Int32) (σ : St) (h : RR vI Γ (f_X11_watch p0 σ)) : WW Γ cX11_watch 2 RX11 (some .int) rX11_watch σ 0 [(0, .ref (xd Γ 0)), (1, .int p0)] [] := by
  unfold f_X11_watch at h
  refine w_aload_n 0 dX11_watch_0 rfl rfl rfl ?_
  refine gf_RX11_10 dX11_watch_1 rfl ?_
  refine w_iload_n 1 dX11_watch_4 rfl rfl rfl ?_
  obtain ⟨r1, s2, h3, h⟩ := h.bd
  refine k_X10_hasSet ml_RX11_155 (Nat.le_of_ble_eq_true rfl) ⟨Nat.le_of_ble_eq_true rfl, Nat.le_of_ble_eq_true rfl⟩ dX11_watch_5 rfl h3 ?_
  refine w_if_eq (tgt := 22) dX11_watch_8 (by decide) rfl (fun q => ?_) (fun q => ?_)
  · have h := h.tt q
    refine w_bipush (-2 : Int32) dX11_watch_22 ic_bipush_m2 rfl ?_
    exact w_sub [] rfl (b_X11_watch_24 (-2 : Int32) s2 h)
  · have h := h.ff q
    refine w_aload_n 0 dX11_watch_11 rfl rfl rfl ?_
    refine gf_RX11_61 dX11_watch_12 rfl ?_
    refine w_iload_n 1 dX11_watch_15 rfl rfl rfl ?_
    obtain ⟨r4, s5, h6, h⟩ := h.bd
    refine k_X8_trainToWatch ml_RX11_310 (Nat.le_of_ble_eq_true rfl) ⟨Nat.le_of_ble_eq_true rfl, Nat.le_of_ble_eq_true rfl⟩ dX11_watch_16 rfl h6 ?_
    refine w_goto (tgt := 24) dX11_watch_19 (by decide) ?_
    exact w_sub [] rfl (b_X11_watch_24 r4 s5 h)
theorem c_X11_watch {l : Launch} {D : va_G} {cy : Nat → ClassId} {ad : Nat → Nat} {p0 : Int32} {σ σ' : St} {r : Int32} (hf : f_X11_watch p0 σ = some (r, σ')) : CT l D cy ad yX11_watch cX11_watch 2 (some .int) rX11_watch [.ref (ad 0), .int p0] σ (some (.int r)) σ' :=
  ct_of (by decide) (Nat.le_of_ble_eq_true rfl) (fun p e s m args below meth c A => e_X11_watch (Γ := (p, l, e, rX11_watch, s, m, args, below, meth, c, D, cy, ad, A, 0, 0, ((some (.int r)), σ'))) p0 σ ⟨_, hf, rfl⟩)
theorem k_X11_watch {Γ : CX} {cc : ByteArray} {nL : Nat} {own : String} {ret : Option FieldType} {rm : Room} {σ σ' : St} {pc pc' idx : Nat} {lv : List (Nat × Value)} {rest : List Value} {p0 : Int32} {r : Int32} (hl : Cond.methodLink own idx yX11_watch ∈ TB) (hw : (rest.map fun v => v.category).sum ≤ 8) (hR : rX11_watch.frames + 1 ≤ rm.frames ∧ 8 + (2 + 11) + rX11_watch.locals ≤ rm.locals) (hd : decode cc pc = .ok (.invokevirtual idx, 3)) (hp : pc + 3 = pc') (hf : f_X11_watch p0 σ = some (r, σ')) (h : WW Γ cc nL own ret rm σ' pc' lv (.int r :: rest)) : WW Γ cc nL own ret rm σ pc lv (.int p0 :: .ref (xd Γ 0) :: rest) :=
  w_callV (nn := 1) (i := 0) (As := [.int p0]) (v := (some (.int r))) (T := TX11) (N := 11) (c_X11_watch hf) hl mw_X11_watch (by decide +kernel) ⟨rfl, rfl⟩ hR (lt_lit (by decide)) cel_0 rfl rfl hw hd rfl hp h
/-! WarByHours.leaves (I)I -/
def rX11_leaves : Room := { frames := 5, cells := 0, slots := 0, locals := 115 }
def f_X11_leaves_32 (k0 : Int32) (σ : St) : Option (Int32 × St) :=
  some (k0, σ)
theorem b_X11_leaves_32 {Γ : CX} (k0 : Int32) (σ : St) (h : RR vI Γ (f_X11_leaves_32 k0 σ)) : WW Γ cX11_leaves 2 RX11 (some .int) rX11_leaves σ 32 [] [.int k0] := by
  unfold f_X11_leaves_32 at h
  exact w_ireturn dX11_leaves_32 h
def f_X11_leaves (p0 : Int32) (σ : St) : Option (Int32 × St) :=
  bd (f_X10_hasSet 1 p0 σ) fun r1 s2 =>
  if r1 = 0 then
    f_X11_leaves_32 (-2 : Int32) s2
  else
    bd (f_X8_trainToWatch p0 s2) fun r4 s5 =>
    bd (f_X8_leftAtWorst p0 r4 s5) fun r7 s8 =>
    f_X11_leaves_32 r7 s8
theorem e_X11_leaves {Γ : CX} (p0 : Int32) (σ : St) (h : RR vI Γ (f_X11_leaves p0 σ)) : WW Γ cX11_leaves 2 RX11 (some .int) rX11_leaves σ 0 [(0, .ref (xd Γ 0)), (1, .int p0)] [] := by
  unfold f_X11_leaves at h
  refine w_aload_n 0 dX11_leaves_0 rfl rfl rfl ?_
  refine gf_RX11_10 dX11_leaves_1 rfl ?_
  refine w_iload_n 1 dX11_leaves_4 rfl rfl rfl ?_
  obtain ⟨r1, s2, h3, h⟩ := h.bd
  refine k_X10_hasSet ml_RX11_155 (Nat.le_of_ble_eq_true rfl) ⟨Nat.le_of_ble_eq_true rfl, Nat.le_of_ble_eq_true rfl⟩ dX11_leaves_5 rfl h3 ?_
  refine w_if_eq (tgt := 30) dX11_leaves_8 (by decide) rfl (fun q => ?_) (fun q => ?_)
  · have h := h.tt q
    refine w_bipush (-2 : Int32) dX11_leaves_30 ic_bipush_m2 rfl ?_
    exact w_sub [] rfl (b_X11_leaves_32 (-2 : Int32) s2 h)
  · have h := h.ff q
    refine w_aload_n 0 dX11_leaves_11 rfl rfl rfl ?_
    refine gf_RX11_61 dX11_leaves_12 rfl ?_
    refine w_iload_n 1 dX11_leaves_15 rfl rfl rfl ?_
    refine w_aload_n 0 dX11_leaves_16 rfl rfl rfl ?_
    refine gf_RX11_61 dX11_leaves_17 rfl ?_
    refine w_iload_n 1 dX11_leaves_20 rfl rfl rfl ?_
    obtain ⟨r4, s5, h6, h⟩ := h.bd
    refine k_X8_trainToWatch ml_RX11_310 (Nat.le_of_ble_eq_true rfl) ⟨Nat.le_of_ble_eq_true rfl, Nat.le_of_ble_eq_true rfl⟩ dX11_leaves_21 rfl h6 ?_
    obtain ⟨r7, s8, h9, h⟩ := h.bd
    refine k_X8_leftAtWorst ml_RX11_313 (Nat.le_of_ble_eq_true rfl) ⟨Nat.le_of_ble_eq_true rfl, Nat.le_of_ble_eq_true rfl⟩ dX11_leaves_24 rfl h9 ?_
    refine w_goto (tgt := 32) dX11_leaves_27 (by decide) ?_
    exact w_sub [] rfl (b_X11_leaves_32 r7 s8 h)
theorem c_X11_leaves {l : Launch} {D : va_G} {cy : Nat → ClassId} {ad : Nat → Nat} {p0 : Int32} {σ σ' : St} {r : Int32} (hf : f_X11_leaves p0 σ = some (r, σ')) : CT l D cy ad yX11_leaves cX11_leaves 2 (some .int) rX11_leaves [.ref (ad 0), .int p0] σ (some (.int r)) σ' :=
  ct_of (by decide) (Nat.le_of_ble_eq_true rfl) (fun p e s m args below meth c A => e_X11_leaves (Γ := (p, l, e, rX11_leaves, s, m, args, below, meth, c, D, cy, ad, A, 0, 0, ((some (.int r)), σ'))) p0 σ ⟨_, hf, rfl⟩)
theorem k_X11_leaves {Γ : CX} {cc : ByteArray} {nL : Nat} {own : String} {ret : Option FieldType} {rm : Room} {σ σ' : St} {pc pc' idx : Nat} {lv : List (Nat × Value)} {rest : List Value} {p0 : Int32} {r : Int32} (hl : Cond.methodLink own idx yX11_leaves ∈ TB) (hw : (rest.map fun v => v.category).sum ≤ 8) (hR : rX11_leaves.frames + 1 ≤ rm.frames ∧ 8 + (2 + 11) + rX11_leaves.locals ≤ rm.locals) (hd : decode cc pc = .ok (.invokevirtual idx, 3)) (hp : pc + 3 = pc') (hf : f_X11_leaves p0 σ = some (r, σ')) (h : WW Γ cc nL own ret rm σ' pc' lv (.int r :: rest)) : WW Γ cc nL own ret rm σ pc lv (.int p0 :: .ref (xd Γ 0) :: rest) :=
  w_callV (nn := 1) (i := 0) (As := [.int p0]) (v := (some (.int r))) (T := TX11) (N := 11) (c_X11_leaves hf) hl mw_X11_leaves (by decide +kernel) ⟨rfl, rfl⟩ hR (lt_lit (by decide)) cel_0 rfl rfl hw hd rfl hp h
/-! WarByHours.Fares.fewestSent (I)I -/
def rX3_fewestSent : Room := { frames := 5, cells := 0, slots := 0, locals := 115 }
def f_X3_fewestSent_73 (K21 : Int32 × Int32 × Int32 × St → Option (Int32 × St)) (v2 : Int32) (v3 : Int32) (v4 : Int32) (σ : St) : Option (Int32 × St) :=
  bnd (v4 + (1 : Int32)) fun x1 =>
  K21 (v2, v3, x1, σ)
theorem b_X3_fewestSent_73 {Γ : CX} (K21 : Int32 × Int32 × Int32 × St → Option (Int32 × St)) (hK21 : ∀ (v2 : Int32) (v3 : Int32) (v4 : Int32) (σ : St), RR vI Γ (K21 (v2, v3, v4, σ)) → WW Γ cX3_fewestSent 6 RX3 (some .int) rX3_fewestSent σ 21 [(0, .ref (xd Γ 36)), (2, .int v2), (3, .int v3), (4, .int v4)] []) (v2 : Int32) (v3 : Int32) (v4 : Int32) (σ : St) (h : RR vI Γ (f_X3_fewestSent_73 K21 v2 v3 v4 σ)) : WW Γ cX3_fewestSent 6 RX3 (some .int) rX3_fewestSent σ 73 [(0, .ref (xd Γ 36)), (2, .int v2), (3, .int v3), (4, .int v4)] [] := by
  unfold f_X3_fewestSent_73 at h
  obtain ⟨x1, ex1⟩ : ∃ y : Int32, y = (v4 + (1 : Int32)) := ⟨_, rfl⟩
  replace h := h.bnd ex1
  refine w_iinc 3 x1 [(4, .int x1), (0, .ref (xd Γ 36)), (2, .int v2), (3, .int v3)] dX3_fewestSent_73 rfl (by rw [ex1, ic_iconst_1]) (by decide) rfl rfl ?_
  clear ex1
  refine w_goto (tgt := 21) dX3_fewestSent_76 (by decide) ?_
  exact w_sub [1, 2, 3, 0] rfl (hK21 v2 v3 x1 σ h)
def f_X3_fewestSent_70 (K21 : Int32 × Int32 × Int32 × St → Option (Int32 × St)) (v2 : Int32) (v4 : Int32) (v5 : Int32) (σ : St) : Option (Int32 × St) :=
  f_X3_fewestSent_73 K21 v2 v5 v4 σ
theorem b_X3_fewestSent_70 {Γ : CX} (K21 : Int32 × Int32 × Int32 × St → Option (Int32 × St)) (hK21 : ∀ (v2 : Int32) (v3 : Int32) (v4 : Int32) (σ : St), RR vI Γ (K21 (v2, v3, v4, σ)) → WW Γ cX3_fewestSent 6 RX3 (some .int) rX3_fewestSent σ 21 [(0, .ref (xd Γ 36)), (2, .int v2), (3, .int v3), (4, .int v4)] []) (v2 : Int32) (v4 : Int32) (v5 : Int32) (σ : St) (h : RR vI Γ (f_X3_fewestSent_70 K21 v2 v4 v5 σ)) : WW Γ cX3_fewestSent 6 RX3 (some .int) rX3_fewestSent σ 70 [(0, .ref (xd Γ 36)), (2, .int v2), (4, .int v4), (5, .int v5)] [] := by
  unfold f_X3_fewestSent_70 at h
  refine w_iload 3 dX3_fewestSent_70 rfl rfl ?_
  refine w_istore_n [(3, .int v5), (0, .ref (xd Γ 36)), (2, .int v2), (4, .int v4), (5, .int v5)] dX3_fewestSent_72 rfl (by decide) rfl rfl ?_
  exact w_sub [1, 2, 0, 3] rfl (b_X3_fewestSent_73 K21 hK21 v2 v5 v4 σ h)
def g_X3_fewestSent_21 (K21 : Int32 × Int32 × Int32 × St → Option (Int32 × St)) (x : Int32 × Int32 × Int32 × St) : Option (Int32 × St) := match x with
  | (v2, v3, v4, σ) =>
  bd (f_X10_sets 1 σ) fun r1 s2 =>
  if r1 ≤ v4 then
    some (v3, s2)
  else
    bd (f_J6_bitCount_0f7a4 v4 s2) fun r4 s5 =>
    if (v4 &&& (v2 ^^^ (-1 : Int32))) = 0 then
      gd (inb v4 (ln 40)) <|
      if (gr s5 40 v4.toNatClampNeg) = 0 then
        f_X3_fewestSent_73 K21 v2 v3 v4 s5
      else
        if v3 = (-1 : Int32) then
          f_X3_fewestSent_70 K21 v2 v4 r4 s5
        else
          if v3 ≤ r4 then
            f_X3_fewestSent_73 K21 v2 v3 v4 s5
          else
            f_X3_fewestSent_70 K21 v2 v4 r4 s5
    else
      f_X3_fewestSent_73 K21 v2 v3 v4 s5
theorem l_X3_fewestSent_21 {Γ : CX} : ∀ (n : Nat) (v2 : Int32) (v3 : Int32) (v4 : Int32) (σ : St), RR vI Γ (itr (g_X3_fewestSent_21) n (v2, v3, v4, σ)) → WW Γ cX3_fewestSent 6 RX3 (some .int) rX3_fewestSent σ 21 [(0, .ref (xd Γ 36)), (2, .int v2), (3, .int v3), (4, .int v4)] [] := by
  intro n
  induction n with
  | zero => intro v2 v3 v4 σ h; exact RR.no h
  | succ n hK21 =>
  intro v2 v3 v4 σ h
  have h : RR vI Γ (g_X3_fewestSent_21 (itr (g_X3_fewestSent_21) n) (v2, v3, v4, σ)) := h
  generalize itr (g_X3_fewestSent_21) n = K21 at h hK21
  unfold g_X3_fewestSent_21 at h
  dsimp only at h
  refine w_iload 3 dX3_fewestSent_21 rfl rfl ?_
  refine w_aload_n 0 dX3_fewestSent_23 rfl rfl rfl ?_
  refine gf_RX3_32 dX3_fewestSent_24 rfl ?_
  obtain ⟨r1, s2, h3, h⟩ := h.bd
  refine k_X10_sets ml_RX3_58 (Nat.le_of_ble_eq_true rfl) ⟨Nat.le_of_ble_eq_true rfl, Nat.le_of_ble_eq_true rfl⟩ dX3_fewestSent_27 rfl h3 ?_
  refine w_icmp_ge (tgt := 79) dX3_fewestSent_30 (by decide) rfl (fun q => ?_) (fun q => ?_)
  · have h := h.tt q
    refine w_iload_n 2 dX3_fewestSent_79 rfl rfl rfl ?_
    exact w_ireturn dX3_fewestSent_80 h
  · have h := h.ff q
    refine w_iload 3 dX3_fewestSent_33 rfl rfl ?_
    obtain ⟨r4, s5, h6, h⟩ := h.bd
    refine k_J6_bitCount_0f7a4 ml_RX3_62 (Nat.le_of_ble_eq_true rfl) ⟨Nat.le_of_ble_eq_true rfl, Nat.le_of_ble_eq_true rfl⟩ dX3_fewestSent_35 rfl h6 ?_
    refine w_istore [(5, .int r4), (0, .ref (xd Γ 36)), (2, .int v2), (3, .int v3), (4, .int v4)] dX3_fewestSent_38 (by decide) rfl rfl ?_
    refine w_iload 4 dX3_fewestSent_40 rfl rfl ?_
    refine w_iload_n 2 dX3_fewestSent_42 rfl rfl rfl ?_
    refine w_iconst (-1 : Int32) dX3_fewestSent_43 ic_iconst_m1 rfl ?_
    refine w_ixor dX3_fewestSent_44 rfl ?_
    refine w_iand dX3_fewestSent_45 rfl ?_
    refine w_if_ne (tgt := 73) dX3_fewestSent_46 (by decide) rfl (fun q => ?_) (fun q => ?_)
    · have h := h.ff q
      exact w_sub [1, 2, 3, 4] rfl (b_X3_fewestSent_73 K21 hK21 v2 v3 v4 s5 h)
    · have h := h.tt q
      refine w_aload_n 1 dX3_fewestSent_49 rfl rfl rfl ?_
      refine gf_RX3_22 dX3_fewestSent_50 rfl ?_
      refine w_iload 4 dX3_fewestSent_53 rfl rfl ?_
      obtain ⟨hi7, h⟩ := h.gd
      refine w_zald (i := 40) (lt_lit (by decide)) rfl hi7 dX3_fewestSent_55 rfl ?_
      refine w_if_eq (tgt := 73) dX3_fewestSent_56 (by decide) rfl (fun q => ?_) (fun q => ?_)
      · have h := h.tt q
        exact w_sub [1, 2, 3, 4] rfl (b_X3_fewestSent_73 K21 hK21 v2 v3 v4 s5 h)
      · have h := h.ff q
        refine w_iload_n 3 dX3_fewestSent_59 rfl rfl rfl ?_
        refine w_iconst (-1 : Int32) dX3_fewestSent_60 ic_iconst_m1 rfl ?_
        refine w_icmp_eq (tgt := 70) dX3_fewestSent_61 (by decide) rfl (fun q => ?_) (fun q => ?_)
        · have h := h.tt q
          exact w_sub [1, 2, 4, 0] rfl (b_X3_fewestSent_70 K21 hK21 v2 v4 r4 s5 h)
        · have h := h.ff q
          refine w_iload 0 dX3_fewestSent_64 rfl rfl ?_
          refine w_iload_n 3 dX3_fewestSent_66 rfl rfl rfl ?_
          refine w_icmp_ge (tgt := 73) dX3_fewestSent_67 (by decide) rfl (fun q => ?_) (fun q => ?_)
          · have h := h.tt q
            exact w_sub [1, 2, 3, 4] rfl (b_X3_fewestSent_73 K21 hK21 v2 v3 v4 s5 h)
          · have h := h.ff q
            exact w_sub [1, 2, 4, 0] rfl (b_X3_fewestSent_70 K21 hK21 v2 v4 r4 s5 h)
def f_X3_fewestSent (p0 : Int32) (σ : St) : Option (Int32 × St) :=
  bd (f_X3_fitByChance p0 (100 : Int32) σ) fun _ s2 =>
  bd (f_X10_trainsOf 1 p0 s2) fun r4 s5 =>
  itr (g_X3_fewestSent_21) FU (r4, (-1 : Int32), (0 : Int32), s5)
theorem e_X3_fewestSent {Γ : CX} (p0 : Int32) (σ : St) (h : RR vI Γ (f_X3_fewestSent p0 σ)) : WW Γ cX3_fewestSent 6 RX3 (some .int) rX3_fewestSent σ 0 [(0, .ref (xd Γ 36)), (1, .int p0)] [] := by
  unfold f_X3_fewestSent at h
  refine w_aload_n 0 dX3_fewestSent_0 rfl rfl rfl ?_
  refine w_iload_n 1 dX3_fewestSent_1 rfl rfl rfl ?_
  refine w_bipush (100 : Int32) dX3_fewestSent_2 ic_bipush_100 rfl ?_
  obtain ⟨r1, s2, h3, h⟩ := h.bd
  refine k_X3_fitByChance ml_RX3_54 (Nat.le_of_ble_eq_true rfl) ⟨Nat.le_of_ble_eq_true rfl, Nat.le_of_ble_eq_true rfl⟩ dX3_fewestSent_4 rfl h3 ?_
  refine w_aload_n 0 dX3_fewestSent_7 rfl rfl rfl ?_
  refine gf_RX3_32 dX3_fewestSent_8 rfl ?_
  refine w_iload_n 1 dX3_fewestSent_11 rfl rfl rfl ?_
  obtain ⟨r4, s5, h6, h⟩ := h.bd
  refine k_X10_trainsOf ml_RX3_44 (Nat.le_of_ble_eq_true rfl) ⟨Nat.le_of_ble_eq_true rfl, Nat.le_of_ble_eq_true rfl⟩ dX3_fewestSent_12 rfl h6 ?_
  refine w_istore_n [(2, .int r4), (0, .ref (xd Γ 36)), (1, .int p0)] dX3_fewestSent_15 rfl (by decide) rfl rfl ?_
  refine w_iconst (-1 : Int32) dX3_fewestSent_16 ic_iconst_m1 rfl ?_
  refine w_istore_n [(3, .int (-1 : Int32)), (2, .int r4), (0, .ref (xd Γ 36)), (1, .int p0)] dX3_fewestSent_17 rfl (by decide) rfl rfl ?_
  refine w_iconst (0 : Int32) dX3_fewestSent_18 ic_iconst_0 rfl ?_
  refine w_istore [(4, .int (0 : Int32)), (3, .int (-1 : Int32)), (2, .int r4), (0, .ref (xd Γ 36)), (1, .int p0)] dX3_fewestSent_19 (by decide) rfl rfl ?_
  exact w_sub [3, 2, 1, 0] rfl (l_X3_fewestSent_21 FU r4 (-1 : Int32) (0 : Int32) s5 h)
theorem c_X3_fewestSent {l : Launch} {D : va_G} {cy : Nat → ClassId} {ad : Nat → Nat} {p0 : Int32} {σ σ' : St} {r : Int32} (hf : f_X3_fewestSent p0 σ = some (r, σ')) : CT l D cy ad yX3_fewestSent cX3_fewestSent 6 (some .int) rX3_fewestSent [.ref (ad 36), .int p0] σ (some (.int r)) σ' :=
  ct_of (by decide) (Nat.le_of_ble_eq_true rfl) (fun p e s m args below meth c A => e_X3_fewestSent (Γ := (p, l, e, rX3_fewestSent, s, m, args, below, meth, c, D, cy, ad, A, 0, 0, ((some (.int r)), σ'))) p0 σ ⟨_, hf, rfl⟩)
theorem k_X3_fewestSent {Γ : CX} {cc : ByteArray} {nL : Nat} {own : String} {ret : Option FieldType} {rm : Room} {σ σ' : St} {pc pc' idx : Nat} {lv : List (Nat × Value)} {rest : List Value} {p0 : Int32} {r : Int32} (hl : Cond.methodLink own idx yX3_fewestSent ∈ TB) (hw : (rest.map fun v => v.category).sum ≤ 8) (hR : rX3_fewestSent.frames + 1 ≤ rm.frames ∧ 8 + (6 + 11) + rX3_fewestSent.locals ≤ rm.locals) (hd : decode cc pc = .ok (.invokevirtual idx, 3)) (hp : pc + 3 = pc') (hf : f_X3_fewestSent p0 σ = some (r, σ')) (h : WW Γ cc nL own ret rm σ' pc' lv (.int r :: rest)) : WW Γ cc nL own ret rm σ pc lv (.int p0 :: .ref (xd Γ 36) :: rest) :=
  w_callV (nn := 1) (i := 36) (As := [.int p0]) (v := (some (.int r))) (T := TX3) (N := 8) (c_X3_fewestSent hf) hl mw_X3_fewestSent (by decide +kernel) ⟨rfl, rfl⟩ hR (lt_lit (by decide)) cel_36 rfl rfl hw hd rfl hp h
/-! WarByHours.Fares.riskedSet (II)I -/
def rX3_riskedSet : Room := { frames := 5, cells := 0, slots := 0, locals := 115 }
def f_X3_riskedSet (p0 : Int32) (p1 : Int32) (σ : St) : Option (Int32 × St) :=
  bd (f_X3_takePrices σ) fun _ s2 =>
  bd (f_X3_fitByChance p0 p1 s2) fun _ s5 =>
  bd (f_X10_trainsOf 1 p0 s5) fun r7 s8 =>
  bd (f_X3_cheapest r7 s8) fun r10 s11 =>
  some (r10, s11)
theorem e_X3_riskedSet {Γ : CX} (p0 : Int32) (p1 : Int32) (σ : St) (h : RR vI Γ (f_X3_riskedSet p0 p1 σ)) : WW Γ cX3_riskedSet 3 RX3 (some .int) rX3_riskedSet σ 0 [(0, .ref (xd Γ 36)), (1, .int p0), (2, .int p1)] [] := by
  unfold f_X3_riskedSet at h
  refine w_aload_n 0 dX3_riskedSet_0 rfl rfl rfl ?_
  obtain ⟨r1, s2, h3, h⟩ := h.bd
  refine k_X3_takePrices ml_RX3_67 (Nat.le_of_ble_eq_true rfl) ⟨Nat.le_of_ble_eq_true rfl, Nat.le_of_ble_eq_true rfl⟩ dX3_riskedSet_1 rfl h3 ?_
  refine w_aload_n 0 dX3_riskedSet_4 rfl rfl rfl ?_
  refine w_iload_n 1 dX3_riskedSet_5 rfl rfl rfl ?_
  refine w_iload_n 2 dX3_riskedSet_6 rfl rfl rfl ?_
  obtain ⟨r4, s5, h6, h⟩ := h.bd
  refine k_X3_fitByChance ml_RX3_54 (Nat.le_of_ble_eq_true rfl) ⟨Nat.le_of_ble_eq_true rfl, Nat.le_of_ble_eq_true rfl⟩ dX3_riskedSet_7 rfl h6 ?_
  refine w_aload_n 0 dX3_riskedSet_10 rfl rfl rfl ?_
  refine w_aload_n 0 dX3_riskedSet_11 rfl rfl rfl ?_
  refine gf_RX3_32 dX3_riskedSet_12 rfl ?_
  refine w_iload_n 1 dX3_riskedSet_15 rfl rfl rfl ?_
  obtain ⟨r7, s8, h9, h⟩ := h.bd
  refine k_X10_trainsOf ml_RX3_44 (Nat.le_of_ble_eq_true rfl) ⟨Nat.le_of_ble_eq_true rfl, Nat.le_of_ble_eq_true rfl⟩ dX3_riskedSet_16 rfl h9 ?_
  obtain ⟨r10, s11, h12, h⟩ := h.bd
  refine k_X3_cheapest ml_RX3_70 (Nat.le_of_ble_eq_true rfl) ⟨Nat.le_of_ble_eq_true rfl, Nat.le_of_ble_eq_true rfl⟩ dX3_riskedSet_19 rfl h12 ?_
  exact w_ireturn dX3_riskedSet_22 h
theorem c_X3_riskedSet {l : Launch} {D : va_G} {cy : Nat → ClassId} {ad : Nat → Nat} {p0 : Int32} {p1 : Int32} {σ σ' : St} {r : Int32} (hf : f_X3_riskedSet p0 p1 σ = some (r, σ')) : CT l D cy ad yX3_riskedSet cX3_riskedSet 3 (some .int) rX3_riskedSet [.ref (ad 36), .int p0, .int p1] σ (some (.int r)) σ' :=
  ct_of (by decide) (Nat.le_of_ble_eq_true rfl) (fun p e s m args below meth c A => e_X3_riskedSet (Γ := (p, l, e, rX3_riskedSet, s, m, args, below, meth, c, D, cy, ad, A, 0, 0, ((some (.int r)), σ'))) p0 p1 σ ⟨_, hf, rfl⟩)
theorem k_X3_riskedSet {Γ : CX} {cc : ByteArray} {nL : Nat} {own : String} {ret : Option FieldType} {rm : Room} {σ σ' : St} {pc pc' idx : Nat} {lv : List (Nat × Value)} {rest : List Value} {p0 : Int32} {p1 : Int32} {r : Int32} (hl : Cond.methodLink own idx yX3_riskedSet ∈ TB) (hw : (rest.map fun v => v.category).sum ≤ 8) (hR : rX3_riskedSet.frames + 1 ≤ rm.frames ∧ 8 + (3 + 11) + rX3_riskedSet.locals ≤ rm.locals) (hd : decode cc pc = .ok (.invokevirtual idx, 3)) (hp : pc + 3 = pc') (hf : f_X3_riskedSet p0 p1 σ = some (r, σ')) (h : WW Γ cc nL own ret rm σ' pc' lv (.int r :: rest)) : WW Γ cc nL own ret rm σ pc lv (.int p1 :: .int p0 :: .ref (xd Γ 36) :: rest) :=
  w_callV (nn := 2) (i := 36) (As := [.int p0, .int p1]) (v := (some (.int r))) (T := TX3) (N := 8) (c_X3_riskedSet hf) hl mw_X3_riskedSet (by decide +kernel) ⟨rfl, rfl⟩ hR (lt_lit (by decide)) cel_36 rfl rfl hw hd rfl hp h
/-! WarByHours.fewest (I)I -/
def rX11_fewest : Room := { frames := 6, cells := 0, slots := 0, locals := 140 }
def f_X11_fewest_24 (k0 : Int32) (σ : St) : Option (Int32 × St) :=
  some (k0, σ)
theorem b_X11_fewest_24 {Γ : CX} (k0 : Int32) (σ : St) (h : RR vI Γ (f_X11_fewest_24 k0 σ)) : WW Γ cX11_fewest 2 RX11 (some .int) rX11_fewest σ 24 [] [.int k0] := by
  unfold f_X11_fewest_24 at h
  exact w_ireturn dX11_fewest_24 h
def f_X11_fewest (p0 : Int32) (σ : St) : Option (Int32 × St) :=
  bd (f_X10_hasSide 1 p0 σ) fun r1 s2 =>
  if r1 = 0 then
    f_X11_fewest_24 (-2 : Int32) s2
  else
    bd (f_X3_fewestSent p0 s2) fun r4 s5 =>
    f_X11_fewest_24 r4 s5
theorem e_X11_fewest {Γ : CX} (p0 : Int32) (σ : St) (h : RR vI Γ (f_X11_fewest p0 σ)) : WW Γ cX11_fewest 2 RX11 (some .int) rX11_fewest σ 0 [(0, .ref (xd Γ 0)), (1, .int p0)] [] := by
  unfold f_X11_fewest at h
  refine w_aload_n 0 dX11_fewest_0 rfl rfl rfl ?_
  refine gf_RX11_10 dX11_fewest_1 rfl ?_
  refine w_iload_n 1 dX11_fewest_4 rfl rfl rfl ?_
  obtain ⟨r1, s2, h3, h⟩ := h.bd
  refine k_X10_hasSide ml_RX11_126 (Nat.le_of_ble_eq_true rfl) ⟨Nat.le_of_ble_eq_true rfl, Nat.le_of_ble_eq_true rfl⟩ dX11_fewest_5 rfl h3 ?_
  refine w_if_eq (tgt := 22) dX11_fewest_8 (by decide) rfl (fun q => ?_) (fun q => ?_)
  · have h := h.tt q
    refine w_bipush (-2 : Int32) dX11_fewest_22 ic_bipush_m2 rfl ?_
    exact w_sub [] rfl (b_X11_fewest_24 (-2 : Int32) s2 h)
  · have h := h.ff q
    refine w_aload_n 0 dX11_fewest_11 rfl rfl rfl ?_
    refine gf_RX11_40 dX11_fewest_12 rfl ?_
    refine w_iload_n 1 dX11_fewest_15 rfl rfl rfl ?_
    obtain ⟨r4, s5, h6, h⟩ := h.bd
    refine k_X3_fewestSent ml_RX11_231 (Nat.le_of_ble_eq_true rfl) ⟨Nat.le_of_ble_eq_true rfl, Nat.le_of_ble_eq_true rfl⟩ dX11_fewest_16 rfl h6 ?_
    refine w_goto (tgt := 24) dX11_fewest_19 (by decide) ?_
    exact w_sub [] rfl (b_X11_fewest_24 r4 s5 h)
theorem c_X11_fewest {l : Launch} {D : va_G} {cy : Nat → ClassId} {ad : Nat → Nat} {p0 : Int32} {σ σ' : St} {r : Int32} (hf : f_X11_fewest p0 σ = some (r, σ')) : CT l D cy ad yX11_fewest cX11_fewest 2 (some .int) rX11_fewest [.ref (ad 0), .int p0] σ (some (.int r)) σ' :=
  ct_of (by decide) (Nat.le_of_ble_eq_true rfl) (fun p e s m args below meth c A => e_X11_fewest (Γ := (p, l, e, rX11_fewest, s, m, args, below, meth, c, D, cy, ad, A, 0, 0, ((some (.int r)), σ'))) p0 σ ⟨_, hf, rfl⟩)
theorem k_X11_fewest {Γ : CX} {cc : ByteArray} {nL : Nat} {own : String} {ret : Option FieldType} {rm : Room} {σ σ' : St} {pc pc' idx : Nat} {lv : List (Nat × Value)} {rest : List Value} {p0 : Int32} {r : Int32} (hl : Cond.methodLink own idx yX11_fewest ∈ TB) (hw : (rest.map fun v => v.category).sum ≤ 8) (hR : rX11_fewest.frames + 1 ≤ rm.frames ∧ 8 + (2 + 11) + rX11_fewest.locals ≤ rm.locals) (hd : decode cc pc = .ok (.invokevirtual idx, 3)) (hp : pc + 3 = pc') (hf : f_X11_fewest p0 σ = some (r, σ')) (h : WW Γ cc nL own ret rm σ' pc' lv (.int r :: rest)) : WW Γ cc nL own ret rm σ pc lv (.int p0 :: .ref (xd Γ 0) :: rest) :=
  w_callV (nn := 1) (i := 0) (As := [.int p0]) (v := (some (.int r))) (T := TX11) (N := 11) (c_X11_fewest hf) hl mw_X11_fewest (by decide +kernel) ⟨rfl, rfl⟩ hR (lt_lit (by decide)) cel_0 rfl rfl hw hd rfl hp h
/-! WarByHours.risk (II)I -/
def rX11_risk : Room := { frames := 6, cells := 0, slots := 0, locals := 137 }
def f_X11_risk_30 (k0 : Int32) (σ : St) : Option (Int32 × St) :=
  some (k0, σ)
theorem b_X11_risk_30 {Γ : CX} (k0 : Int32) (σ : St) (h : RR vI Γ (f_X11_risk_30 k0 σ)) : WW Γ cX11_risk 3 RX11 (some .int) rX11_risk σ 30 [] [.int k0] := by
  unfold f_X11_risk_30 at h
  exact w_ireturn dX11_risk_30 h
def f_X11_risk (p0 : Int32) (p1 : Int32) (σ : St) : Option (Int32 × St) :=
  bd (f_X11_isRisk p0 p1 σ) fun r1 s2 =>
  if r1 = 0 then
    f_X11_risk_30 (-2 : Int32) s2
  else
    bd (f_X3_riskedSet p0 p1 s2) fun r4 s5 =>
    bd (f_X10_priceOf 1 r4 s5) fun r7 s8 =>
    f_X11_risk_30 r7 s8
theorem e_X11_risk {Γ : CX} (p0 : Int32) (p1 : Int32) (σ : St) (h : RR vI Γ (f_X11_risk p0 p1 σ)) : WW Γ cX11_risk 3 RX11 (some .int) rX11_risk σ 0 [(0, .ref (xd Γ 0)), (1, .int p0), (2, .int p1)] [] := by
  unfold f_X11_risk at h
  refine w_aload_n 0 dX11_risk_0 rfl rfl rfl ?_
  refine w_iload_n 1 dX11_risk_1 rfl rfl rfl ?_
  refine w_iload_n 2 dX11_risk_2 rfl rfl rfl ?_
  obtain ⟨r1, s2, h3, h⟩ := h.bd
  refine k_X11_isRisk ml_RX11_234 (Nat.le_of_ble_eq_true rfl) ⟨Nat.le_of_ble_eq_true rfl, Nat.le_of_ble_eq_true rfl⟩ dX11_risk_3 rfl h3 ?_
  refine w_if_eq (tgt := 28) dX11_risk_6 (by decide) rfl (fun q => ?_) (fun q => ?_)
  · have h := h.tt q
    refine w_bipush (-2 : Int32) dX11_risk_28 ic_bipush_m2 rfl ?_
    exact w_sub [] rfl (b_X11_risk_30 (-2 : Int32) s2 h)
  · have h := h.ff q
    refine w_aload_n 0 dX11_risk_9 rfl rfl rfl ?_
    refine gf_RX11_10 dX11_risk_10 rfl ?_
    refine w_aload_n 0 dX11_risk_13 rfl rfl rfl ?_
    refine gf_RX11_40 dX11_risk_14 rfl ?_
    refine w_iload_n 1 dX11_risk_17 rfl rfl rfl ?_
    refine w_iload_n 2 dX11_risk_18 rfl rfl rfl ?_
    obtain ⟨r4, s5, h6, h⟩ := h.bd
    refine k_X3_riskedSet ml_RX11_238 (Nat.le_of_ble_eq_true rfl) ⟨Nat.le_of_ble_eq_true rfl, Nat.le_of_ble_eq_true rfl⟩ dX11_risk_19 rfl h6 ?_
    obtain ⟨r7, s8, h9, h⟩ := h.bd
    refine k_X10_priceOf ml_RX11_228 (Nat.le_of_ble_eq_true rfl) ⟨Nat.le_of_ble_eq_true rfl, Nat.le_of_ble_eq_true rfl⟩ dX11_risk_22 rfl h9 ?_
    refine w_goto (tgt := 30) dX11_risk_25 (by decide) ?_
    exact w_sub [] rfl (b_X11_risk_30 r7 s8 h)
theorem c_X11_risk {l : Launch} {D : va_G} {cy : Nat → ClassId} {ad : Nat → Nat} {p0 : Int32} {p1 : Int32} {σ σ' : St} {r : Int32} (hf : f_X11_risk p0 p1 σ = some (r, σ')) : CT l D cy ad yX11_risk cX11_risk 3 (some .int) rX11_risk [.ref (ad 0), .int p0, .int p1] σ (some (.int r)) σ' :=
  ct_of (by decide) (Nat.le_of_ble_eq_true rfl) (fun p e s m args below meth c A => e_X11_risk (Γ := (p, l, e, rX11_risk, s, m, args, below, meth, c, D, cy, ad, A, 0, 0, ((some (.int r)), σ'))) p0 p1 σ ⟨_, hf, rfl⟩)
theorem k_X11_risk {Γ : CX} {cc : ByteArray} {nL : Nat} {own : String} {ret : Option FieldType} {rm : Room} {σ σ' : St} {pc pc' idx : Nat} {lv : List (Nat × Value)} {rest : List Value} {p0 : Int32} {p1 : Int32} {r : Int32} (hl : Cond.methodLink own idx yX11_risk ∈ TB) (hw : (rest.map fun v => v.category).sum ≤ 8) (hR : rX11_risk.frames + 1 ≤ rm.frames ∧ 8 + (3 + 11) + rX11_risk.locals ≤ rm.locals) (hd : decode cc pc = .ok (.invokevirtual idx, 3)) (hp : pc + 3 = pc') (hf : f_X11_risk p0 p1 σ = some (r, σ')) (h : WW Γ cc nL own ret rm σ' pc' lv (.int r :: rest)) : WW Γ cc nL own ret rm σ pc lv (.int p1 :: .int p0 :: .ref (xd Γ 0) :: rest) :=
  w_callV (nn := 2) (i := 0) (As := [.int p0, .int p1]) (v := (some (.int r))) (T := TX11) (N := 11) (c_X11_risk hf) hl mw_X11_risk (by decide +kernel) ⟨rfl, rfl⟩ hR (lt_lit (by decide)) cel_0 rfl rfl hw hd rfl hp h
/-! WarByHours.risked (II)I -/
def rX11_risked : Room := { frames := 6, cells := 0, slots := 0, locals := 137 }
def f_X11_risked_23 (k0 : Int32) (σ : St) : Option (Int32 × St) :=
  some (k0, σ)
theorem b_X11_risked_23 {Γ : CX} (k0 : Int32) (σ : St) (h : RR vI Γ (f_X11_risked_23 k0 σ)) : WW Γ cX11_risked 3 RX11 (some .int) rX11_risked σ 23 [] [.int k0] := by
  unfold f_X11_risked_23 at h
  exact w_ireturn dX11_risked_23 h
def f_X11_risked (p0 : Int32) (p1 : Int32) (σ : St) : Option (Int32 × St) :=
  bd (f_X11_isRisk p0 p1 σ) fun r1 s2 =>
  if r1 = 0 then
    f_X11_risked_23 (-2 : Int32) s2
  else
    bd (f_X3_riskedSet p0 p1 s2) fun r4 s5 =>
    f_X11_risked_23 r4 s5
theorem e_X11_risked {Γ : CX} (p0 : Int32) (p1 : Int32) (σ : St) (h : RR vI Γ (f_X11_risked p0 p1 σ)) : WW Γ cX11_risked 3 RX11 (some .int) rX11_risked σ 0 [(0, .ref (xd Γ 0)), (1, .int p0), (2, .int p1)] [] := by
  unfold f_X11_risked at h
  refine w_aload_n 0 dX11_risked_0 rfl rfl rfl ?_
  refine w_iload_n 1 dX11_risked_1 rfl rfl rfl ?_
  refine w_iload_n 2 dX11_risked_2 rfl rfl rfl ?_
  obtain ⟨r1, s2, h3, h⟩ := h.bd
  refine k_X11_isRisk ml_RX11_234 (Nat.le_of_ble_eq_true rfl) ⟨Nat.le_of_ble_eq_true rfl, Nat.le_of_ble_eq_true rfl⟩ dX11_risked_3 rfl h3 ?_
  refine w_if_eq (tgt := 21) dX11_risked_6 (by decide) rfl (fun q => ?_) (fun q => ?_)
  · have h := h.tt q
    refine w_bipush (-2 : Int32) dX11_risked_21 ic_bipush_m2 rfl ?_
    exact w_sub [] rfl (b_X11_risked_23 (-2 : Int32) s2 h)
  · have h := h.ff q
    refine w_aload_n 0 dX11_risked_9 rfl rfl rfl ?_
    refine gf_RX11_40 dX11_risked_10 rfl ?_
    refine w_iload_n 1 dX11_risked_13 rfl rfl rfl ?_
    refine w_iload_n 2 dX11_risked_14 rfl rfl rfl ?_
    obtain ⟨r4, s5, h6, h⟩ := h.bd
    refine k_X3_riskedSet ml_RX11_238 (Nat.le_of_ble_eq_true rfl) ⟨Nat.le_of_ble_eq_true rfl, Nat.le_of_ble_eq_true rfl⟩ dX11_risked_15 rfl h6 ?_
    refine w_goto (tgt := 23) dX11_risked_18 (by decide) ?_
    exact w_sub [] rfl (b_X11_risked_23 r4 s5 h)
theorem c_X11_risked {l : Launch} {D : va_G} {cy : Nat → ClassId} {ad : Nat → Nat} {p0 : Int32} {p1 : Int32} {σ σ' : St} {r : Int32} (hf : f_X11_risked p0 p1 σ = some (r, σ')) : CT l D cy ad yX11_risked cX11_risked 3 (some .int) rX11_risked [.ref (ad 0), .int p0, .int p1] σ (some (.int r)) σ' :=
  ct_of (by decide) (Nat.le_of_ble_eq_true rfl) (fun p e s m args below meth c A => e_X11_risked (Γ := (p, l, e, rX11_risked, s, m, args, below, meth, c, D, cy, ad, A, 0, 0, ((some (.int r)), σ'))) p0 p1 σ ⟨_, hf, rfl⟩)
theorem k_X11_risked {Γ : CX} {cc : ByteArray} {nL : Nat} {own : String} {ret : Option FieldType} {rm : Room} {σ σ' : St} {pc pc' idx : Nat} {lv : List (Nat × Value)} {rest : List Value} {p0 : Int32} {p1 : Int32} {r : Int32} (hl : Cond.methodLink own idx yX11_risked ∈ TB) (hw : (rest.map fun v => v.category).sum ≤ 8) (hR : rX11_risked.frames + 1 ≤ rm.frames ∧ 8 + (3 + 11) + rX11_risked.locals ≤ rm.locals) (hd : decode cc pc = .ok (.invokevirtual idx, 3)) (hp : pc + 3 = pc') (hf : f_X11_risked p0 p1 σ = some (r, σ')) (h : WW Γ cc nL own ret rm σ' pc' lv (.int r :: rest)) : WW Γ cc nL own ret rm σ pc lv (.int p1 :: .int p0 :: .ref (xd Γ 0) :: rest) :=
  w_callV (nn := 2) (i := 0) (As := [.int p0, .int p1]) (v := (some (.int r))) (T := TX11) (N := 11) (c_X11_risked hf) hl mw_X11_risked (by decide +kernel) ⟨rfl, rfl⟩ hR (lt_lit (by decide)) cel_0 rfl rfl hw hd rfl hp h
/-! WarByHours.Fares.sentSet (I)I -/
def rX3_sentSet : Room := { frames := 6, cells := 0, slots := 0, locals := 137 }
def f_X3_sentSet (p0 : Int32) (σ : St) : Option (Int32 × St) :=
  bd (f_X3_riskedSet p0 (100 : Int32) σ) fun r1 s2 =>
  some (r1, s2)
theorem e_X3_sentSet {Γ : CX} (p0 : Int32) (σ : St) (h : RR vI Γ (f_X3_sentSet p0 σ)) : WW Γ cX3_sentSet 2 RX3 (some .int) rX3_sentSet σ 0 [(0, .ref (xd Γ 36)), (1, .int p0)] [] := by
  unfold f_X3_sentSet at h
  refine w_aload_n 0 dX3_sentSet_0 rfl rfl rfl ?_
  refine w_iload_n 1 dX3_sentSet_1 rfl rfl rfl ?_
  refine w_bipush (100 : Int32) dX3_sentSet_2 ic_bipush_100 rfl ?_
  obtain ⟨r1, s2, h3, h⟩ := h.bd
  refine k_X3_riskedSet ml_RX3_50 (Nat.le_of_ble_eq_true rfl) ⟨Nat.le_of_ble_eq_true rfl, Nat.le_of_ble_eq_true rfl⟩ dX3_sentSet_4 rfl h3 ?_
  exact w_ireturn dX3_sentSet_7 h
theorem c_X3_sentSet {l : Launch} {D : va_G} {cy : Nat → ClassId} {ad : Nat → Nat} {p0 : Int32} {σ σ' : St} {r : Int32} (hf : f_X3_sentSet p0 σ = some (r, σ')) : CT l D cy ad yX3_sentSet cX3_sentSet 2 (some .int) rX3_sentSet [.ref (ad 36), .int p0] σ (some (.int r)) σ' :=
  ct_of (by decide) (Nat.le_of_ble_eq_true rfl) (fun p e s m args below meth c A => e_X3_sentSet (Γ := (p, l, e, rX3_sentSet, s, m, args, below, meth, c, D, cy, ad, A, 0, 0, ((some (.int r)), σ'))) p0 σ ⟨_, hf, rfl⟩)
theorem k_X3_sentSet {Γ : CX} {cc : ByteArray} {nL : Nat} {own : String} {ret : Option FieldType} {rm : Room} {σ σ' : St} {pc pc' idx : Nat} {lv : List (Nat × Value)} {rest : List Value} {p0 : Int32} {r : Int32} (hl : Cond.methodLink own idx yX3_sentSet ∈ TB) (hw : (rest.map fun v => v.category).sum ≤ 8) (hR : rX3_sentSet.frames + 1 ≤ rm.frames ∧ 8 + (2 + 11) + rX3_sentSet.locals ≤ rm.locals) (hd : decode cc pc = .ok (.invokevirtual idx, 3)) (hp : pc + 3 = pc') (hf : f_X3_sentSet p0 σ = some (r, σ')) (h : WW Γ cc nL own ret rm σ' pc' lv (.int r :: rest)) : WW Γ cc nL own ret rm σ pc lv (.int p0 :: .ref (xd Γ 36) :: rest) :=
  w_callV (nn := 1) (i := 36) (As := [.int p0]) (v := (some (.int r))) (T := TX3) (N := 8) (c_X3_sentSet hf) hl mw_X3_sentSet (by decide +kernel) ⟨rfl, rfl⟩ hR (lt_lit (by decide)) cel_36 rfl rfl hw hd rfl hp h
/-! WarByHours.send (I)I -/
def rX11_send : Room := { frames := 7, cells := 0, slots := 0, locals := 158 }
def f_X11_send_31 (k0 : Int32) (σ : St) : Option (Int32 × St) :=
  some (k0, σ)
theorem b_X11_send_31 {Γ : CX} (k0 : Int32) (σ : St) (h : RR vI Γ (f_X11_send_31 k0 σ)) : WW Γ cX11_send 2 RX11 (some .int) rX11_send σ 31 [] [.int k0] := by
  unfold f_X11_send_31 at h
  exact w_ireturn dX11_send_31 h
def f_X11_send (p0 : Int32) (σ : St) : Option (Int32 × St) :=
  bd (f_X10_hasSide 1 p0 σ) fun r1 s2 =>
  if r1 = 0 then
    f_X11_send_31 (-2 : Int32) s2
  else
    bd (f_X3_sentSet p0 s2) fun r4 s5 =>
    bd (f_X10_priceOf 1 r4 s5) fun r7 s8 =>
    f_X11_send_31 r7 s8
theorem e_X11_send {Γ : CX} (p0 : Int32) (σ : St) (h : RR vI Γ (f_X11_send p0 σ)) : WW Γ cX11_send 2 RX11 (some .int) rX11_send σ 0 [(0, .ref (xd Γ 0)), (1, .int p0)] [] := by
  unfold f_X11_send at h
  refine w_aload_n 0 dX11_send_0 rfl rfl rfl ?_
  refine gf_RX11_10 dX11_send_1 rfl ?_
  refine w_iload_n 1 dX11_send_4 rfl rfl rfl ?_
  obtain ⟨r1, s2, h3, h⟩ := h.bd
  refine k_X10_hasSide ml_RX11_126 (Nat.le_of_ble_eq_true rfl) ⟨Nat.le_of_ble_eq_true rfl, Nat.le_of_ble_eq_true rfl⟩ dX11_send_5 rfl h3 ?_
  refine w_if_eq (tgt := 29) dX11_send_8 (by decide) rfl (fun q => ?_) (fun q => ?_)
  · have h := h.tt q
    refine w_bipush (-2 : Int32) dX11_send_29 ic_bipush_m2 rfl ?_
    exact w_sub [] rfl (b_X11_send_31 (-2 : Int32) s2 h)
  · have h := h.ff q
    refine w_aload_n 0 dX11_send_11 rfl rfl rfl ?_
    refine gf_RX11_10 dX11_send_12 rfl ?_
    refine w_aload_n 0 dX11_send_15 rfl rfl rfl ?_
    refine gf_RX11_40 dX11_send_16 rfl ?_
    refine w_iload_n 1 dX11_send_19 rfl rfl rfl ?_
    obtain ⟨r4, s5, h6, h⟩ := h.bd
    refine k_X3_sentSet ml_RX11_225 (Nat.le_of_ble_eq_true rfl) ⟨Nat.le_of_ble_eq_true rfl, Nat.le_of_ble_eq_true rfl⟩ dX11_send_20 rfl h6 ?_
    obtain ⟨r7, s8, h9, h⟩ := h.bd
    refine k_X10_priceOf ml_RX11_228 (Nat.le_of_ble_eq_true rfl) ⟨Nat.le_of_ble_eq_true rfl, Nat.le_of_ble_eq_true rfl⟩ dX11_send_23 rfl h9 ?_
    refine w_goto (tgt := 31) dX11_send_26 (by decide) ?_
    exact w_sub [] rfl (b_X11_send_31 r7 s8 h)
theorem c_X11_send {l : Launch} {D : va_G} {cy : Nat → ClassId} {ad : Nat → Nat} {p0 : Int32} {σ σ' : St} {r : Int32} (hf : f_X11_send p0 σ = some (r, σ')) : CT l D cy ad yX11_send cX11_send 2 (some .int) rX11_send [.ref (ad 0), .int p0] σ (some (.int r)) σ' :=
  ct_of (by decide) (Nat.le_of_ble_eq_true rfl) (fun p e s m args below meth c A => e_X11_send (Γ := (p, l, e, rX11_send, s, m, args, below, meth, c, D, cy, ad, A, 0, 0, ((some (.int r)), σ'))) p0 σ ⟨_, hf, rfl⟩)
theorem k_X11_send {Γ : CX} {cc : ByteArray} {nL : Nat} {own : String} {ret : Option FieldType} {rm : Room} {σ σ' : St} {pc pc' idx : Nat} {lv : List (Nat × Value)} {rest : List Value} {p0 : Int32} {r : Int32} (hl : Cond.methodLink own idx yX11_send ∈ TB) (hw : (rest.map fun v => v.category).sum ≤ 8) (hR : rX11_send.frames + 1 ≤ rm.frames ∧ 8 + (2 + 11) + rX11_send.locals ≤ rm.locals) (hd : decode cc pc = .ok (.invokevirtual idx, 3)) (hp : pc + 3 = pc') (hf : f_X11_send p0 σ = some (r, σ')) (h : WW Γ cc nL own ret rm σ' pc' lv (.int r :: rest)) : WW Γ cc nL own ret rm σ pc lv (.int p0 :: .ref (xd Γ 0) :: rest) :=
  w_callV (nn := 1) (i := 0) (As := [.int p0]) (v := (some (.int r))) (T := TX11) (N := 11) (c_X11_send hf) hl mw_X11_send (by decide +kernel) ⟨rfl, rfl⟩ hR (lt_lit (by decide)) cel_0 rfl rfl hw hd rfl hp h
/-! WarByHours.sent (I)I -/
def rX11_sent : Room := { frames := 7, cells := 0, slots := 0, locals := 158 }
def f_X11_sent_24 (k0 : Int32) (σ : St) : Option (Int32 × St) :=
  some (k0, σ)
theorem b_X11_sent_24 {Γ : CX} (k0 : Int32) (σ : St) (h : RR vI Γ (f_X11_sent_24 k0 σ)) : WW Γ cX11_sent 2 RX11 (some .int) rX11_sent σ 24 [] [.int k0] := by
  unfold f_X11_sent_24 at h
  exact w_ireturn dX11_sent_24 h
def f_X11_sent (p0 : Int32) (σ : St) : Option (Int32 × St) :=
  bd (f_X10_hasSide 1 p0 σ) fun r1 s2 =>
  if r1 = 0 then
    f_X11_sent_24 (-2 : Int32) s2
  else
    bd (f_X3_sentSet p0 s2) fun r4 s5 =>
    f_X11_sent_24 r4 s5
theorem e_X11_sent {Γ : CX} (p0 : Int32) (σ : St) (h : RR vI Γ (f_X11_sent p0 σ)) : WW Γ cX11_sent 2 RX11 (some .int) rX11_sent σ 0 [(0, .ref (xd Γ 0)), (1, .int p0)] [] := by
  unfold f_X11_sent at h
  refine w_aload_n 0 dX11_sent_0 rfl rfl rfl ?_
  refine gf_RX11_10 dX11_sent_1 rfl ?_
  refine w_iload_n 1 dX11_sent_4 rfl rfl rfl ?_
  obtain ⟨r1, s2, h3, h⟩ := h.bd
  refine k_X10_hasSide ml_RX11_126 (Nat.le_of_ble_eq_true rfl) ⟨Nat.le_of_ble_eq_true rfl, Nat.le_of_ble_eq_true rfl⟩ dX11_sent_5 rfl h3 ?_
  refine w_if_eq (tgt := 22) dX11_sent_8 (by decide) rfl (fun q => ?_) (fun q => ?_)
  · have h := h.tt q
    refine w_bipush (-2 : Int32) dX11_sent_22 ic_bipush_m2 rfl ?_
    exact w_sub [] rfl (b_X11_sent_24 (-2 : Int32) s2 h)
  · have h := h.ff q
    refine w_aload_n 0 dX11_sent_11 rfl rfl rfl ?_
    refine gf_RX11_40 dX11_sent_12 rfl ?_
    refine w_iload_n 1 dX11_sent_15 rfl rfl rfl ?_
    obtain ⟨r4, s5, h6, h⟩ := h.bd
    refine k_X3_sentSet ml_RX11_225 (Nat.le_of_ble_eq_true rfl) ⟨Nat.le_of_ble_eq_true rfl, Nat.le_of_ble_eq_true rfl⟩ dX11_sent_16 rfl h6 ?_
    refine w_goto (tgt := 24) dX11_sent_19 (by decide) ?_
    exact w_sub [] rfl (b_X11_sent_24 r4 s5 h)
theorem c_X11_sent {l : Launch} {D : va_G} {cy : Nat → ClassId} {ad : Nat → Nat} {p0 : Int32} {σ σ' : St} {r : Int32} (hf : f_X11_sent p0 σ = some (r, σ')) : CT l D cy ad yX11_sent cX11_sent 2 (some .int) rX11_sent [.ref (ad 0), .int p0] σ (some (.int r)) σ' :=
  ct_of (by decide) (Nat.le_of_ble_eq_true rfl) (fun p e s m args below meth c A => e_X11_sent (Γ := (p, l, e, rX11_sent, s, m, args, below, meth, c, D, cy, ad, A, 0, 0, ((some (.int r)), σ'))) p0 σ ⟨_, hf, rfl⟩)
theorem k_X11_sent {Γ : CX} {cc : ByteArray} {nL : Nat} {own : String} {ret : Option FieldType} {rm : Room} {σ σ' : St} {pc pc' idx : Nat} {lv : List (Nat × Value)} {rest : List Value} {p0 : Int32} {r : Int32} (hl : Cond.methodLink own idx yX11_sent ∈ TB) (hw : (rest.map fun v => v.category).sum ≤ 8) (hR : rX11_sent.frames + 1 ≤ rm.frames ∧ 8 + (2 + 11) + rX11_sent.locals ≤ rm.locals) (hd : decode cc pc = .ok (.invokevirtual idx, 3)) (hp : pc + 3 = pc') (hf : f_X11_sent p0 σ = some (r, σ')) (h : WW Γ cc nL own ret rm σ' pc' lv (.int r :: rest)) : WW Γ cc nL own ret rm σ pc lv (.int p0 :: .ref (xd Γ 0) :: rest) :=
  w_callV (nn := 1) (i := 0) (As := [.int p0]) (v := (some (.int r))) (T := TX11) (N := 11) (c_X11_sent hf) hl mw_X11_sent (by decide +kernel) ⟨rfl, rfl⟩ hR (lt_lit (by decide)) cel_0 rfl rfl hw hd rfl hp h
